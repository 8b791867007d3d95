section
-- ===== PART A: goes FIRST, ahead of the names: the tables' words, and 'selects' of the private methods out of them =====
/-- a private method of a class that the tables say can be made, by its rows of tables_1 -/
def lw_okq (q : MethodName × Nat) : Prop := (q.1.cls ≠ "java/lang/invoke/MethodHandle" ∧ q.1.cls ≠ "java/lang/invoke/VarHandle") ∧ Cond.instantiable q.1.cls q.2 ∈ tables_1 ∧ Cond.privateMethod q.1 ∈ tables_1 ∧ Cond.instanceMethod q.1 ∈ tables_1
theorem lw_p0 : lw_okq (⟨"DiskRests$Run", "makeStale", "()V"⟩, 9) := ⟨⟨by decide +kernel, by decide +kernel⟩, List.mem_of_getElem? (i := 112) (by decide +kernel), List.mem_of_getElem? (i := 254) (by decide +kernel), List.mem_of_getElem? (i := 255) (by decide +kernel)⟩
theorem lw_p1 : lw_okq (⟨"DiskRests$Disk", "addLevel", "(II)V"⟩, 5) := ⟨⟨by decide +kernel, by decide +kernel⟩, List.mem_of_getElem? (i := 58) (by decide +kernel), List.mem_of_getElem? (i := 262) (by decide +kernel), List.mem_of_getElem? (i := 263) (by decide +kernel)⟩
theorem lw_p2 : lw_okq (⟨"DiskRests$Disk", "hasLevel", "(I)Z"⟩, 5) := ⟨⟨by decide +kernel, by decide +kernel⟩, List.mem_of_getElem? (i := 58) (by decide +kernel), List.mem_of_getElem? (i := 270) (by decide +kernel), List.mem_of_getElem? (i := 271) (by decide +kernel)⟩
theorem lw_p3 : lw_okq (⟨"DiskRests$Requests", "add", "(III)V"⟩, 4) := ⟨⟨by decide +kernel, by decide +kernel⟩, List.mem_of_getElem? (i := 28) (by decide +kernel), List.mem_of_getElem? (i := 286) (by decide +kernel), List.mem_of_getElem? (i := 287) (by decide +kernel)⟩
theorem lw_p4 : lw_okq (⟨"DiskRests$Requests", "has", "(I)Z"⟩, 4) := ⟨⟨by decide +kernel, by decide +kernel⟩, List.mem_of_getElem? (i := 28) (by decide +kernel), List.mem_of_getElem? (i := 294) (by decide +kernel), List.mem_of_getElem? (i := 295) (by decide +kernel)⟩
theorem lw_p5 : lw_okq (⟨"DiskRests$Requests", "drop", "(I)V"⟩, 4) := ⟨⟨by decide +kernel, by decide +kernel⟩, List.mem_of_getElem? (i := 28) (by decide +kernel), List.mem_of_getElem? (i := 299) (by decide +kernel), List.mem_of_getElem? (i := 300) (by decide +kernel)⟩
theorem lw_p6 : lw_okq (⟨"DiskRests", "wholeRun", "()LDiskRests$Run;"⟩, 5) := ⟨⟨by decide +kernel, by decide +kernel⟩, List.mem_of_getElem? (i := 12) (by decide +kernel), List.mem_of_getElem? (i := 319) (by decide +kernel), List.mem_of_getElem? (i := 320) (by decide +kernel)⟩
theorem lw_p7 : lw_okq (⟨"DiskRests$Run", "goOnTo", "(LDiskRests$Setup;I)V"⟩, 9) := ⟨⟨by decide +kernel, by decide +kernel⟩, List.mem_of_getElem? (i := 112) (by decide +kernel), List.mem_of_getElem? (i := 323) (by decide +kernel), List.mem_of_getElem? (i := 324) (by decide +kernel)⟩
theorem lw_p8 : lw_okq (⟨"DiskRests$Run", "begin", "(LDiskRests$Requests;)V"⟩, 9) := ⟨⟨by decide +kernel, by decide +kernel⟩, List.mem_of_getElem? (i := 112) (by decide +kernel), List.mem_of_getElem? (i := 327) (by decide +kernel), List.mem_of_getElem? (i := 328) (by decide +kernel)⟩
theorem lw_p9 : lw_okq (⟨"DiskRests$Course", "begin", "()V"⟩, 10) := ⟨⟨by decide +kernel, by decide +kernel⟩, List.mem_of_getElem? (i := 119) (by decide +kernel), List.mem_of_getElem? (i := 331) (by decide +kernel), List.mem_of_getElem? (i := 332) (by decide +kernel)⟩
theorem lw_p10 : lw_okq (⟨"DiskRests$Requests", "putInOrder", "([I)V"⟩, 4) := ⟨⟨by decide +kernel, by decide +kernel⟩, List.mem_of_getElem? (i := 28) (by decide +kernel), List.mem_of_getElem? (i := 335) (by decide +kernel), List.mem_of_getElem? (i := 336) (by decide +kernel)⟩
theorem lw_p11 : lw_okq (⟨"DiskRests$Run", "serveAllOf", "(LDiskRests$Setup;I)V"⟩, 9) := ⟨⟨by decide +kernel, by decide +kernel⟩, List.mem_of_getElem? (i := 112) (by decide +kernel), List.mem_of_getElem? (i := 339) (by decide +kernel), List.mem_of_getElem? (i := 340) (by decide +kernel)⟩
theorem lw_p12 : lw_okq (⟨"DiskRests$Run", "serve", "(LDiskRests$Setup;I)V"⟩, 9) := ⟨⟨by decide +kernel, by decide +kernel⟩, List.mem_of_getElem? (i := 112) (by decide +kernel), List.mem_of_getElem? (i := 343) (by decide +kernel), List.mem_of_getElem? (i := 344) (by decide +kernel)⟩
theorem lw_p13 : lw_okq (⟨"DiskRests$Course", "sleeps", "()Z"⟩, 10) := ⟨⟨by decide +kernel, by decide +kernel⟩, List.mem_of_getElem? (i := 119) (by decide +kernel), List.mem_of_getElem? (i := 347) (by decide +kernel), List.mem_of_getElem? (i := 348) (by decide +kernel)⟩
theorem lw_p14 : lw_okq (⟨"DiskRests$Run", "enter", "(LDiskRests$Course;I)V"⟩, 9) := ⟨⟨by decide +kernel, by decide +kernel⟩, List.mem_of_getElem? (i := 112) (by decide +kernel), List.mem_of_getElem? (i := 354) (by decide +kernel), List.mem_of_getElem? (i := 355) (by decide +kernel)⟩
theorem lw_p15 : lw_okq (⟨"DiskRests$Run", "wakeUp", "(LDiskRests$Setup;I)V"⟩, 9) := ⟨⟨by decide +kernel, by decide +kernel⟩, List.mem_of_getElem? (i := 112) (by decide +kernel), List.mem_of_getElem? (i := 361) (by decide +kernel), List.mem_of_getElem? (i := 362) (by decide +kernel)⟩
def lw_privs_1 : List (MethodName × Nat) := [(⟨"DiskRests$Run", "makeStale", "()V"⟩, 9), (⟨"DiskRests$Disk", "addLevel", "(II)V"⟩, 5), (⟨"DiskRests$Disk", "hasLevel", "(I)Z"⟩, 5), (⟨"DiskRests$Requests", "add", "(III)V"⟩, 4), (⟨"DiskRests$Requests", "has", "(I)Z"⟩, 4), (⟨"DiskRests$Requests", "drop", "(I)V"⟩, 4), (⟨"DiskRests", "wholeRun", "()LDiskRests$Run;"⟩, 5), (⟨"DiskRests$Run", "goOnTo", "(LDiskRests$Setup;I)V"⟩, 9), (⟨"DiskRests$Run", "begin", "(LDiskRests$Requests;)V"⟩, 9), (⟨"DiskRests$Course", "begin", "()V"⟩, 10), (⟨"DiskRests$Requests", "putInOrder", "([I)V"⟩, 4), (⟨"DiskRests$Run", "serveAllOf", "(LDiskRests$Setup;I)V"⟩, 9), (⟨"DiskRests$Run", "serve", "(LDiskRests$Setup;I)V"⟩, 9), (⟨"DiskRests$Course", "sleeps", "()Z"⟩, 10), (⟨"DiskRests$Run", "enter", "(LDiskRests$Course;I)V"⟩, 9), (⟨"DiskRests$Run", "wakeUp", "(LDiskRests$Setup;I)V"⟩, 9)]
theorem lw_r1 : ∀ q ∈ lw_privs_1, lw_okq q := List.forall_mem_cons.mpr ⟨lw_p0, List.forall_mem_cons.mpr ⟨lw_p1, List.forall_mem_cons.mpr ⟨lw_p2, List.forall_mem_cons.mpr ⟨lw_p3, List.forall_mem_cons.mpr ⟨lw_p4, List.forall_mem_cons.mpr ⟨lw_p5, List.forall_mem_cons.mpr ⟨lw_p6, List.forall_mem_cons.mpr ⟨lw_p7, List.forall_mem_cons.mpr ⟨lw_p8, List.forall_mem_cons.mpr ⟨lw_p9, List.forall_mem_cons.mpr ⟨lw_p10, List.forall_mem_cons.mpr ⟨lw_p11, List.forall_mem_cons.mpr ⟨lw_p12, List.forall_mem_cons.mpr ⟨lw_p13, List.forall_mem_cons.mpr ⟨lw_p14, List.forall_mem_cons.mpr ⟨lw_p15, fun _ h => absurd h List.not_mem_nil⟩⟩⟩⟩⟩⟩⟩⟩⟩⟩⟩⟩⟩⟩⟩⟩
theorem lw_p16 : lw_okq (⟨"DiskRests$Run", "letEntriesLeave", "(LDiskRests$Requests;I)V"⟩, 9) := ⟨⟨by decide +kernel, by decide +kernel⟩, List.mem_of_getElem? (i := 112) (by decide +kernel), List.mem_of_getElem? (i := 365) (by decide +kernel), List.mem_of_getElem? (i := 366) (by decide +kernel)⟩
theorem lw_p17 : lw_okq (⟨"DiskRests$Disk", "restsForGuess", "()I"⟩, 5) := ⟨⟨by decide +kernel, by decide +kernel⟩, List.mem_of_getElem? (i := 58) (by decide +kernel), List.mem_of_getElem? (i := 369) (by decide +kernel), List.mem_of_getElem? (i := 370) (by decide +kernel)⟩
theorem lw_p18 : lw_okq (⟨"DiskRests$Course", "becomeBusy", "(I)V"⟩, 10) := ⟨⟨by decide +kernel, by decide +kernel⟩, List.mem_of_getElem? (i := 119) (by decide +kernel), List.mem_of_getElem? (i := 373) (by decide +kernel), List.mem_of_getElem? (i := 374) (by decide +kernel)⟩
theorem lw_p19 : lw_okq (⟨"DiskRests$Course", "meanOfLast", "(I)I"⟩, 10) := ⟨⟨by decide +kernel, by decide +kernel⟩, List.mem_of_getElem? (i := 119) (by decide +kernel), List.mem_of_getElem? (i := 377) (by decide +kernel), List.mem_of_getElem? (i := 378) (by decide +kernel)⟩
theorem lw_p20 : lw_okq (⟨"DiskRests$Course", "passTick", "(LDiskRests$Disk;)V"⟩, 10) := ⟨⟨by decide +kernel, by decide +kernel⟩, List.mem_of_getElem? (i := 119) (by decide +kernel), List.mem_of_getElem? (i := 381) (by decide +kernel), List.mem_of_getElem? (i := 382) (by decide +kernel)⟩
theorem lw_p21 : lw_okq (⟨"DiskRests$Disk", "levelFor", "(II)I"⟩, 5) := ⟨⟨by decide +kernel, by decide +kernel⟩, List.mem_of_getElem? (i := 58) (by decide +kernel), List.mem_of_getElem? (i := 385) (by decide +kernel), List.mem_of_getElem? (i := 386) (by decide +kernel)⟩
theorem lw_p22 : lw_okq (⟨"DiskRests$Disk", "cheapestLevel", "(I)I"⟩, 5) := ⟨⟨by decide +kernel, by decide +kernel⟩, List.mem_of_getElem? (i := 58) (by decide +kernel), List.mem_of_getElem? (i := 391) (by decide +kernel), List.mem_of_getElem? (i := 392) (by decide +kernel)⟩
theorem lw_p23 : lw_okq (⟨"DiskRests$Disk", "levelCost", "(II)I"⟩, 5) := ⟨⟨by decide +kernel, by decide +kernel⟩, List.mem_of_getElem? (i := 58) (by decide +kernel), List.mem_of_getElem? (i := 395) (by decide +kernel), List.mem_of_getElem? (i := 396) (by decide +kernel)⟩
theorem lw_p24 : lw_okq (⟨"DiskRests$Run", "entriesOf", "(LDiskRests$Requests;I)I"⟩, 9) := ⟨⟨by decide +kernel, by decide +kernel⟩, List.mem_of_getElem? (i := 112) (by decide +kernel), List.mem_of_getElem? (i := 399) (by decide +kernel), List.mem_of_getElem? (i := 400) (by decide +kernel)⟩
theorem lw_p25 : lw_okq (⟨"DiskRests$Gaps", "find", "(LDiskRests$Setup;I)V"⟩, 5) := ⟨⟨by decide +kernel, by decide +kernel⟩, List.mem_of_getElem? (i := 205) (by decide +kernel), List.mem_of_getElem? (i := 419) (by decide +kernel), List.mem_of_getElem? (i := 420) (by decide +kernel)⟩
theorem lw_p26 : lw_okq (⟨"DiskRests$Disk", "leastCost", "(I)I"⟩, 5) := ⟨⟨by decide +kernel, by decide +kernel⟩, List.mem_of_getElem? (i := 58) (by decide +kernel), List.mem_of_getElem? (i := 424) (by decide +kernel), List.mem_of_getElem? (i := 425) (by decide +kernel)⟩
theorem lw_p27 : lw_okq (⟨"DiskRests$Gaps", "add", "(III)V"⟩, 5) := ⟨⟨by decide +kernel, by decide +kernel⟩, List.mem_of_getElem? (i := 205) (by decide +kernel), List.mem_of_getElem? (i := 428) (by decide +kernel), List.mem_of_getElem? (i := 429) (by decide +kernel)⟩
theorem lw_p28 : lw_okq (⟨"DiskRests$Disk", "leastCostToEnd", "(I)I"⟩, 5) := ⟨⟨by decide +kernel, by decide +kernel⟩, List.mem_of_getElem? (i := 58) (by decide +kernel), List.mem_of_getElem? (i := 432) (by decide +kernel), List.mem_of_getElem? (i := 433) (by decide +kernel)⟩
theorem lw_p29 : lw_okq (⟨"DiskRests$Gaps", "costAwake", "()I"⟩, 5) := ⟨⟨by decide +kernel, by decide +kernel⟩, List.mem_of_getElem? (i := 205) (by decide +kernel), List.mem_of_getElem? (i := 436) (by decide +kernel), List.mem_of_getElem? (i := 437) (by decide +kernel)⟩
theorem lw_p30 : lw_okq (⟨"DiskRests$Gaps", "sumOf", "([I)I"⟩, 5) := ⟨⟨by decide +kernel, by decide +kernel⟩, List.mem_of_getElem? (i := 205) (by decide +kernel), List.mem_of_getElem? (i := 440) (by decide +kernel), List.mem_of_getElem? (i := 441) (by decide +kernel)⟩
theorem lw_p31 : lw_okq (⟨"DiskRests$Gaps", "savedByAll", "()I"⟩, 5) := ⟨⟨by decide +kernel, by decide +kernel⟩, List.mem_of_getElem? (i := 205) (by decide +kernel), List.mem_of_getElem? (i := 444) (by decide +kernel), List.mem_of_getElem? (i := 445) (by decide +kernel)⟩
def lw_privs_2 : List (MethodName × Nat) := [(⟨"DiskRests$Run", "letEntriesLeave", "(LDiskRests$Requests;I)V"⟩, 9), (⟨"DiskRests$Disk", "restsForGuess", "()I"⟩, 5), (⟨"DiskRests$Course", "becomeBusy", "(I)V"⟩, 10), (⟨"DiskRests$Course", "meanOfLast", "(I)I"⟩, 10), (⟨"DiskRests$Course", "passTick", "(LDiskRests$Disk;)V"⟩, 10), (⟨"DiskRests$Disk", "levelFor", "(II)I"⟩, 5), (⟨"DiskRests$Disk", "cheapestLevel", "(I)I"⟩, 5), (⟨"DiskRests$Disk", "levelCost", "(II)I"⟩, 5), (⟨"DiskRests$Run", "entriesOf", "(LDiskRests$Requests;I)I"⟩, 9), (⟨"DiskRests$Gaps", "find", "(LDiskRests$Setup;I)V"⟩, 5), (⟨"DiskRests$Disk", "leastCost", "(I)I"⟩, 5), (⟨"DiskRests$Gaps", "add", "(III)V"⟩, 5), (⟨"DiskRests$Disk", "leastCostToEnd", "(I)I"⟩, 5), (⟨"DiskRests$Gaps", "costAwake", "()I"⟩, 5), (⟨"DiskRests$Gaps", "sumOf", "([I)I"⟩, 5), (⟨"DiskRests$Gaps", "savedByAll", "()I"⟩, 5)]
theorem lw_r2 : ∀ q ∈ lw_privs_2, lw_okq q := List.forall_mem_cons.mpr ⟨lw_p16, List.forall_mem_cons.mpr ⟨lw_p17, List.forall_mem_cons.mpr ⟨lw_p18, List.forall_mem_cons.mpr ⟨lw_p19, List.forall_mem_cons.mpr ⟨lw_p20, List.forall_mem_cons.mpr ⟨lw_p21, List.forall_mem_cons.mpr ⟨lw_p22, List.forall_mem_cons.mpr ⟨lw_p23, List.forall_mem_cons.mpr ⟨lw_p24, List.forall_mem_cons.mpr ⟨lw_p25, List.forall_mem_cons.mpr ⟨lw_p26, List.forall_mem_cons.mpr ⟨lw_p27, List.forall_mem_cons.mpr ⟨lw_p28, List.forall_mem_cons.mpr ⟨lw_p29, List.forall_mem_cons.mpr ⟨lw_p30, List.forall_mem_cons.mpr ⟨lw_p31, fun _ h => absurd h List.not_mem_nil⟩⟩⟩⟩⟩⟩⟩⟩⟩⟩⟩⟩⟩⟩⟩⟩
theorem lw_p32 : lw_okq (⟨"DiskRests$Gaps", "worthSleeping", "()I"⟩, 5) := ⟨⟨by decide +kernel, by decide +kernel⟩, List.mem_of_getElem? (i := 205) (by decide +kernel), List.mem_of_getElem? (i := 448) (by decide +kernel), List.mem_of_getElem? (i := 449) (by decide +kernel)⟩
theorem lw_p33 : lw_okq (⟨"DiskRests$Gaps", "savedByFew", "(II)I"⟩, 5) := ⟨⟨by decide +kernel, by decide +kernel⟩, List.mem_of_getElem? (i := 205) (by decide +kernel), List.mem_of_getElem? (i := 456) (by decide +kernel), List.mem_of_getElem? (i := 457) (by decide +kernel)⟩
theorem lw_p34 : lw_okq (⟨"DiskRests$Gaps", "betterOfSameDay", "(II)I"⟩, 5) := ⟨⟨by decide +kernel, by decide +kernel⟩, List.mem_of_getElem? (i := 205) (by decide +kernel), List.mem_of_getElem? (i := 461) (by decide +kernel), List.mem_of_getElem? (i := 462) (by decide +kernel)⟩
theorem lw_p35 : lw_okq (⟨"DiskRests$Disk", "costByPolicy", "(I)I"⟩, 5) := ⟨⟨by decide +kernel, by decide +kernel⟩, List.mem_of_getElem? (i := 58) (by decide +kernel), List.mem_of_getElem? (i := 469) (by decide +kernel), List.mem_of_getElem? (i := 470) (by decide +kernel)⟩
theorem lw_p36 : lw_okq (⟨"DiskRests$Disk", "worstTicks", "(I)I"⟩, 5) := ⟨⟨by decide +kernel, by decide +kernel⟩, List.mem_of_getElem? (i := 58) (by decide +kernel), List.mem_of_getElem? (i := 478) (by decide +kernel), List.mem_of_getElem? (i := 479) (by decide +kernel)⟩
theorem lw_p37 : lw_okq (⟨"DiskRests$Disk", "agesDrawn", "(I)I"⟩, 5) := ⟨⟨by decide +kernel, by decide +kernel⟩, List.mem_of_getElem? (i := 58) (by decide +kernel), List.mem_of_getElem? (i := 495) (by decide +kernel), List.mem_of_getElem? (i := 496) (by decide +kernel)⟩
theorem lw_p38 : lw_okq (⟨"DiskRests$Disk", "costOfAllDrawn", "(III)I"⟩, 5) := ⟨⟨by decide +kernel, by decide +kernel⟩, List.mem_of_getElem? (i := 58) (by decide +kernel), List.mem_of_getElem? (i := 499) (by decide +kernel), List.mem_of_getElem? (i := 500) (by decide +kernel)⟩
theorem lw_p39 : lw_okq (⟨"DiskRests$Run", "energyOfAll", "()I"⟩, 9) := ⟨⟨by decide +kernel, by decide +kernel⟩, List.mem_of_getElem? (i := 112) (by decide +kernel), List.mem_of_getElem? (i := 507) (by decide +kernel), List.mem_of_getElem? (i := 508) (by decide +kernel)⟩
theorem lw_p40 : lw_okq (⟨"DiskRests$Setup", "copyFrom", "(LDiskRests$Setup;)V"⟩, 4) := ⟨⟨by decide +kernel, by decide +kernel⟩, List.mem_of_getElem? (i := 20) (by decide +kernel), List.mem_of_getElem? (i := 515) (by decide +kernel), List.mem_of_getElem? (i := 516) (by decide +kernel)⟩
theorem lw_p41 : lw_okq (⟨"DiskRests$Disk", "copyFrom", "(LDiskRests$Disk;)V"⟩, 5) := ⟨⟨by decide +kernel, by decide +kernel⟩, List.mem_of_getElem? (i := 58) (by decide +kernel), List.mem_of_getElem? (i := 519) (by decide +kernel), List.mem_of_getElem? (i := 520) (by decide +kernel)⟩
theorem lw_p42 : lw_okq (⟨"DiskRests$Requests", "copyFrom", "(LDiskRests$Requests;)V"⟩, 4) := ⟨⟨by decide +kernel, by decide +kernel⟩, List.mem_of_getElem? (i := 28) (by decide +kernel), List.mem_of_getElem? (i := 526) (by decide +kernel), List.mem_of_getElem? (i := 527) (by decide +kernel)⟩
theorem lw_p43 : lw_okq (⟨"DiskRestsModel", "wakeOf", "(II)I"⟩, 31) := ⟨⟨by decide +kernel, by decide +kernel⟩, List.mem_of_getElem? (i := 535) (by decide +kernel), List.mem_of_getElem? (i := 649) (by decide +kernel), List.mem_of_getElem? (i := 650) (by decide +kernel)⟩
theorem lw_p44 : lw_okq (⟨"DiskRestsModel", "isRequest", "(I)Z"⟩, 31) := ⟨⟨by decide +kernel, by decide +kernel⟩, List.mem_of_getElem? (i := 535) (by decide +kernel), List.mem_of_getElem? (i := 669) (by decide +kernel), List.mem_of_getElem? (i := 670) (by decide +kernel)⟩
theorem lw_p45 : lw_okq (⟨"DiskRestsModel", "run", "(I)V"⟩, 31) := ⟨⟨by decide +kernel, by decide +kernel⟩, List.mem_of_getElem? (i := 535) (by decide +kernel), List.mem_of_getElem? (i := 689) (by decide +kernel), List.mem_of_getElem? (i := 690) (by decide +kernel)⟩
theorem lw_p46 : lw_okq (⟨"DiskRestsModel", "meet", "(I)V"⟩, 31) := ⟨⟨by decide +kernel, by decide +kernel⟩, List.mem_of_getElem? (i := 535) (by decide +kernel), List.mem_of_getElem? (i := 693) (by decide +kernel), List.mem_of_getElem? (i := 694) (by decide +kernel)⟩
theorem lw_p47 : lw_okq (⟨"DiskRestsModel", "sleeps", "(I)Z"⟩, 31) := ⟨⟨by decide +kernel, by decide +kernel⟩, List.mem_of_getElem? (i := 535) (by decide +kernel), List.mem_of_getElem? (i := 697) (by decide +kernel), List.mem_of_getElem? (i := 698) (by decide +kernel)⟩
def lw_privs_3 : List (MethodName × Nat) := [(⟨"DiskRests$Gaps", "worthSleeping", "()I"⟩, 5), (⟨"DiskRests$Gaps", "savedByFew", "(II)I"⟩, 5), (⟨"DiskRests$Gaps", "betterOfSameDay", "(II)I"⟩, 5), (⟨"DiskRests$Disk", "costByPolicy", "(I)I"⟩, 5), (⟨"DiskRests$Disk", "worstTicks", "(I)I"⟩, 5), (⟨"DiskRests$Disk", "agesDrawn", "(I)I"⟩, 5), (⟨"DiskRests$Disk", "costOfAllDrawn", "(III)I"⟩, 5), (⟨"DiskRests$Run", "energyOfAll", "()I"⟩, 9), (⟨"DiskRests$Setup", "copyFrom", "(LDiskRests$Setup;)V"⟩, 4), (⟨"DiskRests$Disk", "copyFrom", "(LDiskRests$Disk;)V"⟩, 5), (⟨"DiskRests$Requests", "copyFrom", "(LDiskRests$Requests;)V"⟩, 4), (⟨"DiskRestsModel", "wakeOf", "(II)I"⟩, 31), (⟨"DiskRestsModel", "isRequest", "(I)Z"⟩, 31), (⟨"DiskRestsModel", "run", "(I)V"⟩, 31), (⟨"DiskRestsModel", "meet", "(I)V"⟩, 31), (⟨"DiskRestsModel", "sleeps", "(I)Z"⟩, 31)]
theorem lw_r3 : ∀ q ∈ lw_privs_3, lw_okq q := List.forall_mem_cons.mpr ⟨lw_p32, List.forall_mem_cons.mpr ⟨lw_p33, List.forall_mem_cons.mpr ⟨lw_p34, List.forall_mem_cons.mpr ⟨lw_p35, List.forall_mem_cons.mpr ⟨lw_p36, List.forall_mem_cons.mpr ⟨lw_p37, List.forall_mem_cons.mpr ⟨lw_p38, List.forall_mem_cons.mpr ⟨lw_p39, List.forall_mem_cons.mpr ⟨lw_p40, List.forall_mem_cons.mpr ⟨lw_p41, List.forall_mem_cons.mpr ⟨lw_p42, List.forall_mem_cons.mpr ⟨lw_p43, List.forall_mem_cons.mpr ⟨lw_p44, List.forall_mem_cons.mpr ⟨lw_p45, List.forall_mem_cons.mpr ⟨lw_p46, List.forall_mem_cons.mpr ⟨lw_p47, fun _ h => absurd h List.not_mem_nil⟩⟩⟩⟩⟩⟩⟩⟩⟩⟩⟩⟩⟩⟩⟩⟩
theorem lw_p48 : lw_okq (⟨"DiskRestsModel", "wake", "(I)V"⟩, 31) := ⟨⟨by decide +kernel, by decide +kernel⟩, List.mem_of_getElem? (i := 535) (by decide +kernel), List.mem_of_getElem? (i := 701) (by decide +kernel), List.mem_of_getElem? (i := 702) (by decide +kernel)⟩
theorem lw_p49 : lw_okq (⟨"DiskRestsModel", "keepBusy", "(I)V"⟩, 31) := ⟨⟨by decide +kernel, by decide +kernel⟩, List.mem_of_getElem? (i := 535) (by decide +kernel), List.mem_of_getElem? (i := 705) (by decide +kernel), List.mem_of_getElem? (i := 706) (by decide +kernel)⟩
theorem lw_p50 : lw_okq (⟨"DiskRestsModel", "levelFor", "(II)I"⟩, 31) := ⟨⟨by decide +kernel, by decide +kernel⟩, List.mem_of_getElem? (i := 535) (by decide +kernel), List.mem_of_getElem? (i := 709) (by decide +kernel), List.mem_of_getElem? (i := 710) (by decide +kernel)⟩
theorem lw_p51 : lw_okq (⟨"DiskRestsModel", "bestFor", "(II)I"⟩, 31) := ⟨⟨by decide +kernel, by decide +kernel⟩, List.mem_of_getElem? (i := 535) (by decide +kernel), List.mem_of_getElem? (i := 713) (by decide +kernel), List.mem_of_getElem? (i := 714) (by decide +kernel)⟩
theorem lw_p52 : lw_okq (⟨"DiskRestsModel", "costWith", "(III)I"⟩, 31) := ⟨⟨by decide +kernel, by decide +kernel⟩, List.mem_of_getElem? (i := 535) (by decide +kernel), List.mem_of_getElem? (i := 717) (by decide +kernel), List.mem_of_getElem? (i := 718) (by decide +kernel)⟩
theorem lw_p53 : lw_okq (⟨"DiskRestsModel", "guessOf", "(II)I"⟩, 31) := ⟨⟨by decide +kernel, by decide +kernel⟩, List.mem_of_getElem? (i := 535) (by decide +kernel), List.mem_of_getElem? (i := 721) (by decide +kernel), List.mem_of_getElem? (i := 722) (by decide +kernel)⟩
theorem lw_p54 : lw_okq (⟨"DiskRestsModel", "stayOf", "(I)I"⟩, 31) := ⟨⟨by decide +kernel, by decide +kernel⟩, List.mem_of_getElem? (i := 535) (by decide +kernel), List.mem_of_getElem? (i := 725) (by decide +kernel), List.mem_of_getElem? (i := 726) (by decide +kernel)⟩
theorem lw_p55 : lw_okq (⟨"DiskRestsModel", "layGaps", "(I)V"⟩, 31) := ⟨⟨by decide +kernel, by decide +kernel⟩, List.mem_of_getElem? (i := 535) (by decide +kernel), List.mem_of_getElem? (i := 745) (by decide +kernel), List.mem_of_getElem? (i := 746) (by decide +kernel)⟩
theorem lw_p56 : lw_okq (⟨"DiskRestsModel", "nextAsked", "(II)I"⟩, 31) := ⟨⟨by decide +kernel, by decide +kernel⟩, List.mem_of_getElem? (i := 535) (by decide +kernel), List.mem_of_getElem? (i := 749) (by decide +kernel), List.mem_of_getElem? (i := 750) (by decide +kernel)⟩
theorem lw_p57 : lw_okq (⟨"DiskRestsModel", "leastToEnd", "(II)I"⟩, 31) := ⟨⟨by decide +kernel, by decide +kernel⟩, List.mem_of_getElem? (i := 535) (by decide +kernel), List.mem_of_getElem? (i := 753) (by decide +kernel), List.mem_of_getElem? (i := 754) (by decide +kernel)⟩
theorem lw_p58 : lw_okq (⟨"DiskRestsModel", "leastOf", "(II)I"⟩, 31) := ⟨⟨by decide +kernel, by decide +kernel⟩, List.mem_of_getElem? (i := 535) (by decide +kernel), List.mem_of_getElem? (i := 757) (by decide +kernel), List.mem_of_getElem? (i := 758) (by decide +kernel)⟩
theorem lw_p59 : lw_okq (⟨"DiskRestsModel", "dearest", "(III)I"⟩, 31) := ⟨⟨by decide +kernel, by decide +kernel⟩, List.mem_of_getElem? (i := 535) (by decide +kernel), List.mem_of_getElem? (i := 765) (by decide +kernel), List.mem_of_getElem? (i := 766) (by decide +kernel)⟩
theorem lw_p60 : lw_okq (⟨"DiskRestsModel", "costOf", "(II)I"⟩, 31) := ⟨⟨by decide +kernel, by decide +kernel⟩, List.mem_of_getElem? (i := 535) (by decide +kernel), List.mem_of_getElem? (i := 773) (by decide +kernel), List.mem_of_getElem? (i := 774) (by decide +kernel)⟩
def lw_privs_4 : List (MethodName × Nat) := [(⟨"DiskRestsModel", "wake", "(I)V"⟩, 31), (⟨"DiskRestsModel", "keepBusy", "(I)V"⟩, 31), (⟨"DiskRestsModel", "levelFor", "(II)I"⟩, 31), (⟨"DiskRestsModel", "bestFor", "(II)I"⟩, 31), (⟨"DiskRestsModel", "costWith", "(III)I"⟩, 31), (⟨"DiskRestsModel", "guessOf", "(II)I"⟩, 31), (⟨"DiskRestsModel", "stayOf", "(I)I"⟩, 31), (⟨"DiskRestsModel", "layGaps", "(I)V"⟩, 31), (⟨"DiskRestsModel", "nextAsked", "(II)I"⟩, 31), (⟨"DiskRestsModel", "leastToEnd", "(II)I"⟩, 31), (⟨"DiskRestsModel", "leastOf", "(II)I"⟩, 31), (⟨"DiskRestsModel", "dearest", "(III)I"⟩, 31), (⟨"DiskRestsModel", "costOf", "(II)I"⟩, 31)]
theorem lw_r4 : ∀ q ∈ lw_privs_4, lw_okq q := List.forall_mem_cons.mpr ⟨lw_p48, List.forall_mem_cons.mpr ⟨lw_p49, List.forall_mem_cons.mpr ⟨lw_p50, List.forall_mem_cons.mpr ⟨lw_p51, List.forall_mem_cons.mpr ⟨lw_p52, List.forall_mem_cons.mpr ⟨lw_p53, List.forall_mem_cons.mpr ⟨lw_p54, List.forall_mem_cons.mpr ⟨lw_p55, List.forall_mem_cons.mpr ⟨lw_p56, List.forall_mem_cons.mpr ⟨lw_p57, List.forall_mem_cons.mpr ⟨lw_p58, List.forall_mem_cons.mpr ⟨lw_p59, List.forall_mem_cons.mpr ⟨lw_p60, fun _ h => absurd h List.not_mem_nil⟩⟩⟩⟩⟩⟩⟩⟩⟩⟩⟩⟩⟩
def lw_privs : List (MethodName × Nat) := lw_privs_1 ++ (lw_privs_2 ++ (lw_privs_3 ++ (lw_privs_4)))
def lw_tbl : List Cond := k2_sels lw_privs ++ tables_1
theorem lw_privs_ok : ∀ q ∈ lw_privs, lw_okq q := by
  show ∀ q ∈ lw_privs_1 ++ (lw_privs_2 ++ (lw_privs_3 ++ (lw_privs_4))), lw_okq q
  exact List.forall_mem_append.mpr ⟨lw_r1, List.forall_mem_append.mpr ⟨lw_r2, List.forall_mem_append.mpr ⟨lw_r3, lw_r4⟩⟩⟩
def RX0 : String := "DiskRests$Course"
def TX0 : u_T := fun k => match k with
  | 0 => ("DiskRests$Course", "energy", "I", false)
  | 1 => ("DiskRests$Course", "wakings", "I", false)
  | 2 => ("DiskRests$Course", "reads", "I", false)
  | 3 => ("DiskRests$Course", "busyWrites", "I", false)
  | 4 => ("DiskRests$Course", "journalled", "I", false)
  | 5 => ("DiskRests$Course", "age", "I", false)
  | 6 => ("DiskRests$Course", "levelNow", "I", false)
  | 7 => ("DiskRests$Course", "rests", "[I", true)
  | 8 => ("DiskRests$Course", "restsEnded", "I", false)
  | _ => ("DiskRests$Course", "guess", "I", false)
def tyX0 : Nat → FieldType := fun k => match k with
  | 0 => .int
  | 1 => .int
  | 2 => .int
  | 3 => .int
  | 4 => .int
  | 5 => .int
  | 6 => .int
  | 7 => .array .int
  | 8 => .int
  | _ => .int
theorem nmX0 : ∀ a, a < 10 → ∀ b, b < 10 → a ≠ b → (TX0 a).2.1 ≠ (TX0 b).2.1 := by decide +kernel
theorem tyX0_ok : ∀ k, k < 10 → parseFieldDescriptor (TX0 k).2.2.1 = some (tyX0 k) := by decide +kernel
abbrev cX0_init : ByteArray := prog_2_method_1_code
def yX0_init : MethodName := ⟨RX0, "<init>", "()V"⟩
abbrev cX0_begin : ByteArray := prog_2_method_2_code
def yX0_begin : MethodName := ⟨RX0, "begin", "()V"⟩
abbrev cX0_sleeps : ByteArray := prog_2_method_3_code
def yX0_sleeps : MethodName := ⟨RX0, "sleeps", "()Z"⟩
abbrev cX0_becomeBusy : ByteArray := prog_2_method_4_code
def yX0_becomeBusy : MethodName := ⟨RX0, "becomeBusy", "(I)V"⟩
abbrev cX0_meanOfLast : ByteArray := prog_2_method_5_code
def yX0_meanOfLast : MethodName := ⟨RX0, "meanOfLast", "(I)I"⟩
abbrev cX0_passTick : ByteArray := prog_2_method_6_code
def yX0_passTick : MethodName := ⟨RX0, "passTick", "(LDiskRests$Disk;)V"⟩
def RX1 : String := "DiskRests$Disk"
def TX1 : u_T := fun k => match k with
  | 0 => ("DiskRests$Disk", "powers", "[I", true)
  | 1 => ("DiskRests$Disk", "wakes", "[I", true)
  | 2 => ("DiskRests$Disk", "deepest", "I", false)
  | 3 => ("DiskRests$Disk", "kind", "I", false)
  | _ => ("DiskRests$Disk", "n", "I", false)
def tyX1 : Nat → FieldType := fun k => match k with
  | 0 => .array .int
  | 1 => .array .int
  | 2 => .int
  | 3 => .int
  | _ => .int
theorem nmX1 : ∀ a, a < 5 → ∀ b, b < 5 → a ≠ b → (TX1 a).2.1 ≠ (TX1 b).2.1 := by decide +kernel
theorem tyX1_ok : ∀ k, k < 5 → parseFieldDescriptor (TX1 k).2.2.1 = some (tyX1 k) := by decide +kernel
abbrev cX1_init : ByteArray := prog_3_method_1_code
def yX1_init : MethodName := ⟨RX1, "<init>", "()V"⟩
abbrev cX1_copyFrom : ByteArray := prog_3_method_2_code
def yX1_copyFrom : MethodName := ⟨RX1, "copyFrom", "(LDiskRests$Disk;)V"⟩
abbrev cX1_hasLevel : ByteArray := prog_3_method_3_code
def yX1_hasLevel : MethodName := ⟨RX1, "hasLevel", "(I)Z"⟩
abbrev cX1_addLevel : ByteArray := prog_3_method_4_code
def yX1_addLevel : MethodName := ⟨RX1, "addLevel", "(II)V"⟩
abbrev cX1_restsForGuess : ByteArray := prog_3_method_5_code
def yX1_restsForGuess : MethodName := ⟨RX1, "restsForGuess", "()I"⟩
abbrev cX1_levelFor : ByteArray := prog_3_method_6_code
def yX1_levelFor : MethodName := ⟨RX1, "levelFor", "(II)I"⟩
abbrev cX1_cheapestLevel : ByteArray := prog_3_method_7_code
def yX1_cheapestLevel : MethodName := ⟨RX1, "cheapestLevel", "(I)I"⟩
abbrev cX1_levelCost : ByteArray := prog_3_method_8_code
def yX1_levelCost : MethodName := ⟨RX1, "levelCost", "(II)I"⟩
abbrev cX1_leastCost : ByteArray := prog_3_method_9_code
def yX1_leastCost : MethodName := ⟨RX1, "leastCost", "(I)I"⟩
abbrev cX1_leastCostToEnd : ByteArray := prog_3_method_10_code
def yX1_leastCostToEnd : MethodName := ⟨RX1, "leastCostToEnd", "(I)I"⟩
abbrev cX1_costByPolicy : ByteArray := prog_3_method_11_code
def yX1_costByPolicy : MethodName := ⟨RX1, "costByPolicy", "(I)I"⟩
abbrev cX1_worstTicks : ByteArray := prog_3_method_12_code
def yX1_worstTicks : MethodName := ⟨RX1, "worstTicks", "(I)I"⟩
abbrev cX1_agesDrawn : ByteArray := prog_3_method_13_code
def yX1_agesDrawn : MethodName := ⟨RX1, "agesDrawn", "(I)I"⟩
abbrev cX1_costOfAllDrawn : ByteArray := prog_3_method_14_code
def yX1_costOfAllDrawn : MethodName := ⟨RX1, "costOfAllDrawn", "(III)I"⟩
def RX2 : String := "DiskRests$Gaps"
def TX2 : u_T := fun k => match k with
  | 0 => ("DiskRests$Gaps", "order", "[I", true)
  | 1 => ("DiskRests$Gaps", "lastTicks", "[I", true)
  | 2 => ("DiskRests$Gaps", "awake", "[I", true)
  | 3 => ("DiskRests$Gaps", "saved", "[I", true)
  | _ => ("DiskRests$Gaps", "held", "I", false)
def tyX2 : Nat → FieldType := fun k => match k with
  | 0 => .array .int
  | 1 => .array .int
  | 2 => .array .int
  | 3 => .array .int
  | _ => .int
theorem nmX2 : ∀ a, a < 5 → ∀ b, b < 5 → a ≠ b → (TX2 a).2.1 ≠ (TX2 b).2.1 := by decide +kernel
theorem tyX2_ok : ∀ k, k < 5 → parseFieldDescriptor (TX2 k).2.2.1 = some (tyX2 k) := by decide +kernel
abbrev cX2_init : ByteArray := prog_4_method_1_code
def yX2_init : MethodName := ⟨RX2, "<init>", "()V"⟩
abbrev cX2_find : ByteArray := prog_4_method_2_code
def yX2_find : MethodName := ⟨RX2, "find", "(LDiskRests$Setup;I)V"⟩
abbrev cX2_add : ByteArray := prog_4_method_3_code
def yX2_add : MethodName := ⟨RX2, "add", "(III)V"⟩
abbrev cX2_costAwake : ByteArray := prog_4_method_4_code
def yX2_costAwake : MethodName := ⟨RX2, "costAwake", "()I"⟩
abbrev cX2_savedByAll : ByteArray := prog_4_method_5_code
def yX2_savedByAll : MethodName := ⟨RX2, "savedByAll", "()I"⟩
abbrev cX2_sumOf : ByteArray := prog_4_method_6_code
def yX2_sumOf : MethodName := ⟨RX2, "sumOf", "([I)I"⟩
abbrev cX2_worthSleeping : ByteArray := prog_4_method_7_code
def yX2_worthSleeping : MethodName := ⟨RX2, "worthSleeping", "()I"⟩
abbrev cX2_savedByFew : ByteArray := prog_4_method_8_code
def yX2_savedByFew : MethodName := ⟨RX2, "savedByFew", "(II)I"⟩
abbrev cX2_betterOfSameDay : ByteArray := prog_4_method_9_code
def yX2_betterOfSameDay : MethodName := ⟨RX2, "betterOfSameDay", "(II)I"⟩
def RX3 : String := "DiskRests$Requests"
def TX3 : u_T := fun k => match k with
  | 0 => ("DiskRests$Requests", "ticks", "[I", true)
  | 1 => ("DiskRests$Requests", "disks", "[I", true)
  | 2 => ("DiskRests$Requests", "kinds", "[I", true)
  | _ => ("DiskRests$Requests", "held", "I", false)
def tyX3 : Nat → FieldType := fun k => match k with
  | 0 => .array .int
  | 1 => .array .int
  | 2 => .array .int
  | _ => .int
theorem nmX3 : ∀ a, a < 4 → ∀ b, b < 4 → a ≠ b → (TX3 a).2.1 ≠ (TX3 b).2.1 := by decide +kernel
theorem tyX3_ok : ∀ k, k < 4 → parseFieldDescriptor (TX3 k).2.2.1 = some (tyX3 k) := by decide +kernel
abbrev cX3_init : ByteArray := prog_5_method_1_code
def yX3_init : MethodName := ⟨RX3, "<init>", "()V"⟩
abbrev cX3_copyFrom : ByteArray := prog_5_method_2_code
def yX3_copyFrom : MethodName := ⟨RX3, "copyFrom", "(LDiskRests$Requests;)V"⟩
abbrev cX3_has : ByteArray := prog_5_method_3_code
def yX3_has : MethodName := ⟨RX3, "has", "(I)Z"⟩
abbrev cX3_add : ByteArray := prog_5_method_4_code
def yX3_add : MethodName := ⟨RX3, "add", "(III)V"⟩
abbrev cX3_drop : ByteArray := prog_5_method_5_code
def yX3_drop : MethodName := ⟨RX3, "drop", "(I)V"⟩
abbrev cX3_putInOrder : ByteArray := prog_5_method_6_code
def yX3_putInOrder : MethodName := ⟨RX3, "putInOrder", "([I)V"⟩
def RX4 : String := "DiskRests$Run"
def TX4 : u_T := fun k => match k with
  | 0 => ("DiskRests$Run", "courses", "[LDiskRests$Course;", true)
  | 1 => ("DiskRests$Run", "order", "[I", true)
  | 2 => ("DiskRests$Run", "fates", "[I", true)
  | 3 => ("DiskRests$Run", "entries", "[I", true)
  | 4 => ("DiskRests$Run", "held", "I", false)
  | 5 => ("DiskRests$Run", "most", "I", false)
  | 6 => ("DiskRests$Run", "next", "I", false)
  | 7 => ("DiskRests$Run", "ticksDone", "I", false)
  | _ => ("DiskRests$Run", "stale", "Z", false)
def tyX4 : Nat → FieldType := fun k => match k with
  | 0 => .array (.object "DiskRests$Course")
  | 1 => .array .int
  | 2 => .array .int
  | 3 => .array .int
  | 4 => .int
  | 5 => .int
  | 6 => .int
  | 7 => .int
  | _ => .boolean
theorem nmX4 : ∀ a, a < 9 → ∀ b, b < 9 → a ≠ b → (TX4 a).2.1 ≠ (TX4 b).2.1 := by decide +kernel
theorem tyX4_ok : ∀ k, k < 9 → parseFieldDescriptor (TX4 k).2.2.1 = some (tyX4 k) := by decide +kernel
abbrev cX4_init : ByteArray := prog_6_method_1_code
def yX4_init : MethodName := ⟨RX4, "<init>", "()V"⟩
abbrev cX4_makeStale : ByteArray := prog_6_method_2_code
def yX4_makeStale : MethodName := ⟨RX4, "makeStale", "()V"⟩
abbrev cX4_goOnTo : ByteArray := prog_6_method_3_code
def yX4_goOnTo : MethodName := ⟨RX4, "goOnTo", "(LDiskRests$Setup;I)V"⟩
abbrev cX4_begin : ByteArray := prog_6_method_4_code
def yX4_begin : MethodName := ⟨RX4, "begin", "(LDiskRests$Requests;)V"⟩
abbrev cX4_serveAllOf : ByteArray := prog_6_method_5_code
def yX4_serveAllOf : MethodName := ⟨RX4, "serveAllOf", "(LDiskRests$Setup;I)V"⟩
abbrev cX4_serve : ByteArray := prog_6_method_6_code
def yX4_serve : MethodName := ⟨RX4, "serve", "(LDiskRests$Setup;I)V"⟩
abbrev cX4_enter : ByteArray := prog_6_method_7_code
def yX4_enter : MethodName := ⟨RX4, "enter", "(LDiskRests$Course;I)V"⟩
abbrev cX4_wakeUp : ByteArray := prog_6_method_8_code
def yX4_wakeUp : MethodName := ⟨RX4, "wakeUp", "(LDiskRests$Setup;I)V"⟩
abbrev cX4_letEntriesLeave : ByteArray := prog_6_method_9_code
def yX4_letEntriesLeave : MethodName := ⟨RX4, "letEntriesLeave", "(LDiskRests$Requests;I)V"⟩
abbrev cX4_entriesOf : ByteArray := prog_6_method_10_code
def yX4_entriesOf : MethodName := ⟨RX4, "entriesOf", "(LDiskRests$Requests;I)I"⟩
abbrev cX4_energyOfAll : ByteArray := prog_6_method_11_code
def yX4_energyOfAll : MethodName := ⟨RX4, "energyOfAll", "()I"⟩
def RX5 : String := "DiskRests$Setup"
def TX5 : u_T := fun k => match k with
  | 0 => ("DiskRests$Setup", "disks", "[LDiskRests$Disk;", true)
  | 1 => ("DiskRests$Setup", "requests", "LDiskRests$Requests;", true)
  | 2 => ("DiskRests$Setup", "endTick", "I", false)
  | _ => ("DiskRests$Setup", "room", "I", false)
def tyX5 : Nat → FieldType := fun k => match k with
  | 0 => .array (.object "DiskRests$Disk")
  | 1 => .object "DiskRests$Requests"
  | 2 => .int
  | _ => .int
theorem nmX5 : ∀ a, a < 4 → ∀ b, b < 4 → a ≠ b → (TX5 a).2.1 ≠ (TX5 b).2.1 := by decide +kernel
theorem tyX5_ok : ∀ k, k < 4 → parseFieldDescriptor (TX5 k).2.2.1 = some (tyX5 k) := by decide +kernel
abbrev cX5_init : ByteArray := prog_7_method_1_code
def yX5_init : MethodName := ⟨RX5, "<init>", "()V"⟩
abbrev cX5_copyFrom : ByteArray := prog_7_method_2_code
def yX5_copyFrom : MethodName := ⟨RX5, "copyFrom", "(LDiskRests$Setup;)V"⟩
def RX6 : String := "DiskRests"
def TX6 : u_T := fun k => match k with
  | 0 => ("DiskRests", "setup", "LDiskRests$Setup;", true)
  | 1 => ("DiskRests", "images", "[LDiskRests$Setup;", true)
  | 2 => ("DiskRests", "kept", "[Z", true)
  | 3 => ("DiskRests", "run", "LDiskRests$Run;", true)
  | _ => ("DiskRests", "gaps", "LDiskRests$Gaps;", true)
def tyX6 : Nat → FieldType := fun k => match k with
  | 0 => .object "DiskRests$Setup"
  | 1 => .array (.object "DiskRests$Setup")
  | 2 => .array .boolean
  | 3 => .object "DiskRests$Run"
  | _ => .object "DiskRests$Gaps"
theorem nmX6 : ∀ a, a < 5 → ∀ b, b < 5 → a ≠ b → (TX6 a).2.1 ≠ (TX6 b).2.1 := by decide +kernel
theorem tyX6_ok : ∀ k, k < 5 → parseFieldDescriptor (TX6 k).2.2.1 = some (tyX6 k) := by decide +kernel
abbrev cX6_init : ByteArray := prog_1_method_1_code
def yX6_init : MethodName := ⟨RX6, "<init>", "()V"⟩
abbrev cX6_power : ByteArray := prog_1_method_2_code
def yX6_power : MethodName := ⟨RX6, "power", "(II)I"⟩
abbrev cX6_deeper : ByteArray := prog_1_method_3_code
def yX6_deeper : MethodName := ⟨RX6, "deeper", "(III)I"⟩
abbrev cX6_level : ByteArray := prog_1_method_4_code
def yX6_level : MethodName := ⟨RX6, "level", "(III)I"⟩
abbrev cX6_policy : ByteArray := prog_1_method_5_code
def yX6_policy : MethodName := ⟨RX6, "policy", "(III)I"⟩
abbrev cX6_request : ByteArray := prog_1_method_6_code
def yX6_request : MethodName := ⟨RX6, "request", "(III)I"⟩
abbrev cX6_forget : ByteArray := prog_1_method_7_code
def yX6_forget : MethodName := ⟨RX6, "forget", "(I)I"⟩
abbrev cX6_told : ByteArray := prog_1_method_8_code
def yX6_told : MethodName := ⟨RX6, "told", "(II)I"⟩
abbrev cX6_end : ByteArray := prog_1_method_9_code
def yX6_end : MethodName := ⟨RX6, "end", "(I)I"⟩
abbrev cX6_journal : ByteArray := prog_1_method_10_code
def yX6_journal : MethodName := ⟨RX6, "journal", "(I)I"⟩
abbrev cX6_disk : ByteArray := prog_1_method_11_code
def yX6_disk : MethodName := ⟨RX6, "disk", "(II)I"⟩
abbrev cX6_at : ByteArray := prog_1_method_12_code
def yX6_at : MethodName := ⟨RX6, "at", "(III)I"⟩
abbrev cX6_fate : ByteArray := prog_1_method_13_code
def yX6_fate : MethodName := ⟨RX6, "fate", "(I)I"⟩
abbrev cX6_waiting : ByteArray := prog_1_method_14_code
def yX6_waiting : MethodName := ⟨RX6, "waiting", "(I)I"⟩
abbrev cX6_least : ByteArray := prog_1_method_15_code
def yX6_least : MethodName := ⟨RX6, "least", "(II)I"⟩
abbrev cX6_limited : ByteArray := prog_1_method_16_code
def yX6_limited : MethodName := ⟨RX6, "limited", "(III)I"⟩
abbrev cX6_costs : ByteArray := prog_1_method_17_code
def yX6_costs : MethodName := ⟨RX6, "costs", "(II)I"⟩
abbrev cX6_worst : ByteArray := prog_1_method_18_code
def yX6_worst : MethodName := ⟨RX6, "worst", "(III)I"⟩
abbrev cX6_drawn : ByteArray := prog_1_method_19_code
def yX6_drawn : MethodName := ⟨RX6, "drawn", "(IIII)I"⟩
abbrev cX6_count : ByteArray := prog_1_method_20_code
def yX6_count : MethodName := ⟨RX6, "count", "(I)I"⟩
abbrev cX6_image : ByteArray := prog_1_method_21_code
def yX6_image : MethodName := ⟨RX6, "image", "(I)I"⟩
abbrev cX6_restore : ByteArray := prog_1_method_22_code
def yX6_restore : MethodName := ⟨RX6, "restore", "(I)I"⟩
abbrev cX6_within : ByteArray := prog_1_method_23_code
def yX6_within : MethodName := ⟨RX6, "within", "(III)Z"⟩
abbrev cX6_isDisk : ByteArray := prog_1_method_24_code
def yX6_isDisk : MethodName := ⟨RX6, "isDisk", "(I)Z"⟩
abbrev cX6_isPolicy : ByteArray := prog_1_method_25_code
def yX6_isPolicy : MethodName := ⟨RX6, "isPolicy", "(II)Z"⟩
abbrev cX6_wholeRun : ByteArray := prog_1_method_26_code
def yX6_wholeRun : MethodName := ⟨RX6, "wholeRun", "()LDiskRests$Run;"⟩
abbrev cX6_partOfFraction : ByteArray := prog_1_method_27_code
def yX6_partOfFraction : MethodName := ⟨RX6, "partOfFraction", "(III)I"⟩
abbrev cX6_commonDivisor : ByteArray := prog_1_method_28_code
def yX6_commonDivisor : MethodName := ⟨RX6, "commonDivisor", "(II)I"⟩
def RX7 : String := "DiskRestsModel"
def TX7 : u_T := fun k => match k with
  | 0 => ("DiskRestsModel", "deepest", "[I", true)
  | 1 => ("DiskRestsModel", "powers", "[I", true)
  | 2 => ("DiskRestsModel", "wakes", "[I", true)
  | 3 => ("DiskRestsModel", "kinds", "[I", true)
  | 4 => ("DiskRestsModel", "steps", "[I", true)
  | 5 => ("DiskRestsModel", "many", "I", false)
  | 6 => ("DiskRestsModel", "ticks", "[I", true)
  | 7 => ("DiskRestsModel", "disks", "[I", true)
  | 8 => ("DiskRestsModel", "sorts", "[I", true)
  | 9 => ("DiskRestsModel", "end", "I", false)
  | 10 => ("DiskRestsModel", "room", "I", false)
  | 11 => ("DiskRestsModel", "age", "[I", true)
  | 12 => ("DiskRestsModel", "lastLevel", "[I", true)
  | 13 => ("DiskRestsModel", "energy", "[I", true)
  | 14 => ("DiskRestsModel", "woken", "[I", true)
  | 15 => ("DiskRestsModel", "reads", "[I", true)
  | 16 => ("DiskRestsModel", "writes", "[I", true)
  | 17 => ("DiskRestsModel", "journaled", "[I", true)
  | 18 => ("DiskRestsModel", "rests", "[I", true)
  | 19 => ("DiskRestsModel", "rest", "[I", true)
  | 20 => ("DiskRestsModel", "fates", "[I", true)
  | 21 => ("DiskRestsModel", "lying", "[I", true)
  | 22 => ("DiskRestsModel", "lie", "I", false)
  | 23 => ("DiskRestsModel", "mostLying", "I", false)
  | 24 => ("DiskRestsModel", "seen", "[I", true)
  | 25 => ("DiskRestsModel", "begins", "[I", true)
  | 26 => ("DiskRestsModel", "ends", "[I", true)
  | 27 => ("DiskRestsModel", "gaps", "I", false)
  | 28 => ("DiskRestsModel", "isDone", "[Z", true)
  | 29 => ("DiskRestsModel", "image", "[I", true)
  | _ => ("DiskRestsModel", "isKept", "[Z", true)
def tyX7 : Nat → FieldType := fun k => match k with
  | 0 => .array .int
  | 1 => .array .int
  | 2 => .array .int
  | 3 => .array .int
  | 4 => .array .int
  | 5 => .int
  | 6 => .array .int
  | 7 => .array .int
  | 8 => .array .int
  | 9 => .int
  | 10 => .int
  | 11 => .array .int
  | 12 => .array .int
  | 13 => .array .int
  | 14 => .array .int
  | 15 => .array .int
  | 16 => .array .int
  | 17 => .array .int
  | 18 => .array .int
  | 19 => .array .int
  | 20 => .array .int
  | 21 => .array .int
  | 22 => .int
  | 23 => .int
  | 24 => .array .int
  | 25 => .array .int
  | 26 => .array .int
  | 27 => .int
  | 28 => .array .boolean
  | 29 => .array .int
  | _ => .array .boolean
theorem nmX7 : ∀ a, a < 31 → ∀ b, b < 31 → a ≠ b → (TX7 a).2.1 ≠ (TX7 b).2.1 := by decide +kernel
theorem tyX7_ok : ∀ k, k < 31 → parseFieldDescriptor (TX7 k).2.2.1 = some (tyX7 k) := by decide +kernel
abbrev cX7_init : ByteArray := prog_9_method_1_code
def yX7_init : MethodName := ⟨RX7, "<init>", "()V"⟩
abbrev cX7_in : ByteArray := prog_9_method_2_code
def yX7_in : MethodName := ⟨RX7, "in", "(III)Z"⟩
abbrev cX7_isDisk : ByteArray := prog_9_method_3_code
def yX7_isDisk : MethodName := ⟨RX7, "isDisk", "(I)Z"⟩
abbrev cX7_isRequest : ByteArray := prog_9_method_4_code
def yX7_isRequest : MethodName := ⟨RX7, "isRequest", "(I)Z"⟩
abbrev cX7_power : ByteArray := prog_9_method_5_code
def yX7_power : MethodName := ⟨RX7, "power", "(II)I"⟩
abbrev cX7_deeper : ByteArray := prog_9_method_6_code
def yX7_deeper : MethodName := ⟨RX7, "deeper", "(III)I"⟩
abbrev cX7_wakeOf : ByteArray := prog_9_method_7_code
def yX7_wakeOf : MethodName := ⟨RX7, "wakeOf", "(II)I"⟩
abbrev cX7_level : ByteArray := prog_9_method_8_code
def yX7_level : MethodName := ⟨RX7, "level", "(III)I"⟩
abbrev cX7_policy : ByteArray := prog_9_method_9_code
def yX7_policy : MethodName := ⟨RX7, "policy", "(III)I"⟩
abbrev cX7_request : ByteArray := prog_9_method_10_code
def yX7_request : MethodName := ⟨RX7, "request", "(III)I"⟩
abbrev cX7_forget : ByteArray := prog_9_method_11_code
def yX7_forget : MethodName := ⟨RX7, "forget", "(I)I"⟩
abbrev cX7_told : ByteArray := prog_9_method_12_code
def yX7_told : MethodName := ⟨RX7, "told", "(II)I"⟩
abbrev cX7_end : ByteArray := prog_9_method_13_code
def yX7_end : MethodName := ⟨RX7, "end", "(I)I"⟩
abbrev cX7_journal : ByteArray := prog_9_method_14_code
def yX7_journal : MethodName := ⟨RX7, "journal", "(I)I"⟩
abbrev cX7_guessOf : ByteArray := prog_9_method_15_code
def yX7_guessOf : MethodName := ⟨RX7, "guessOf", "(II)I"⟩
abbrev cX7_bestFor : ByteArray := prog_9_method_16_code
def yX7_bestFor : MethodName := ⟨RX7, "bestFor", "(II)I"⟩
abbrev cX7_costWith : ByteArray := prog_9_method_17_code
def yX7_costWith : MethodName := ⟨RX7, "costWith", "(III)I"⟩
abbrev cX7_levelFor : ByteArray := prog_9_method_18_code
def yX7_levelFor : MethodName := ⟨RX7, "levelFor", "(II)I"⟩
abbrev cX7_sleeps : ByteArray := prog_9_method_19_code
def yX7_sleeps : MethodName := ⟨RX7, "sleeps", "(I)Z"⟩
abbrev cX7_wake : ByteArray := prog_9_method_20_code
def yX7_wake : MethodName := ⟨RX7, "wake", "(I)V"⟩
abbrev cX7_keepBusy : ByteArray := prog_9_method_21_code
def yX7_keepBusy : MethodName := ⟨RX7, "keepBusy", "(I)V"⟩
abbrev cX7_meet : ByteArray := prog_9_method_22_code
def yX7_meet : MethodName := ⟨RX7, "meet", "(I)V"⟩
abbrev cX7_run : ByteArray := prog_9_method_23_code
def yX7_run : MethodName := ⟨RX7, "run", "(I)V"⟩
abbrev cX7_stayOf : ByteArray := prog_9_method_24_code
def yX7_stayOf : MethodName := ⟨RX7, "stayOf", "(I)I"⟩
abbrev cX7_disk : ByteArray := prog_9_method_25_code
def yX7_disk : MethodName := ⟨RX7, "disk", "(II)I"⟩
abbrev cX7_at : ByteArray := prog_9_method_26_code
def yX7_at : MethodName := ⟨RX7, "at", "(III)I"⟩
abbrev cX7_fate : ByteArray := prog_9_method_27_code
def yX7_fate : MethodName := ⟨RX7, "fate", "(I)I"⟩
abbrev cX7_waiting : ByteArray := prog_9_method_28_code
def yX7_waiting : MethodName := ⟨RX7, "waiting", "(I)I"⟩
abbrev cX7_nextAsked : ByteArray := prog_9_method_29_code
def yX7_nextAsked : MethodName := ⟨RX7, "nextAsked", "(II)I"⟩
abbrev cX7_leastOf : ByteArray := prog_9_method_30_code
def yX7_leastOf : MethodName := ⟨RX7, "leastOf", "(II)I"⟩
abbrev cX7_leastToEnd : ByteArray := prog_9_method_31_code
def yX7_leastToEnd : MethodName := ⟨RX7, "leastToEnd", "(II)I"⟩
abbrev cX7_layGaps : ByteArray := prog_9_method_32_code
def yX7_layGaps : MethodName := ⟨RX7, "layGaps", "(I)V"⟩
abbrev cX7_least : ByteArray := prog_9_method_33_code
def yX7_least : MethodName := ⟨RX7, "least", "(II)I"⟩
abbrev cX7_dearest : ByteArray := prog_9_method_34_code
def yX7_dearest : MethodName := ⟨RX7, "dearest", "(III)I"⟩
abbrev cX7_limited : ByteArray := prog_9_method_35_code
def yX7_limited : MethodName := ⟨RX7, "limited", "(III)I"⟩
abbrev cX7_costOf : ByteArray := prog_9_method_36_code
def yX7_costOf : MethodName := ⟨RX7, "costOf", "(II)I"⟩
abbrev cX7_costs : ByteArray := prog_9_method_37_code
def yX7_costs : MethodName := ⟨RX7, "costs", "(II)I"⟩
abbrev cX7_common : ByteArray := prog_9_method_38_code
def yX7_common : MethodName := ⟨RX7, "common", "(II)I"⟩
abbrev cX7_part : ByteArray := prog_9_method_39_code
def yX7_part : MethodName := ⟨RX7, "part", "(III)I"⟩
abbrev cX7_worst : ByteArray := prog_9_method_40_code
def yX7_worst : MethodName := ⟨RX7, "worst", "(III)I"⟩
abbrev cX7_drawn : ByteArray := prog_9_method_41_code
def yX7_drawn : MethodName := ⟨RX7, "drawn", "(IIII)I"⟩
abbrev cX7_count : ByteArray := prog_9_method_42_code
def yX7_count : MethodName := ⟨RX7, "count", "(I)I"⟩
abbrev cX7_image : ByteArray := prog_9_method_43_code
def yX7_image : MethodName := ⟨RX7, "image", "(I)I"⟩
abbrev cX7_restore : ByteArray := prog_9_method_44_code
def yX7_restore : MethodName := ⟨RX7, "restore", "(I)I"⟩
def RL : String := "DiskRestsLaw"
abbrev cL_law : ByteArray := code
def yL_law : MethodName := ⟨RL, "law", "([I)Z"⟩
abbrev vwCl : List vw_C := [(RX0, TX0, 10), (RX1, TX1, 5), (RX2, TX2, 5), (RX3, TX3, 4), (RX4, TX4, 9), (RX5, TX5, 4), (RX6, TX6, 5), (RX7, TX7, 31)]
end
section
theorem dL_law_0 : decode cL_law 0 = .ok (.new 7, 3) := by decide +kernel
theorem dL_law_3 : decode cL_law 3 = .ok (.dup, 1) := by decide +kernel
theorem dL_law_4 : decode cL_law 4 = .ok (.invokespecial 9, 3) := by decide +kernel
theorem dL_law_7 : decode cL_law 7 = .ok (.astore_n 1, 1) := by decide +kernel
theorem dL_law_8 : decode cL_law 8 = .ok (.new 10, 3) := by decide +kernel
theorem dL_law_11 : decode cL_law 11 = .ok (.dup, 1) := by decide +kernel
theorem dL_law_12 : decode cL_law 12 = .ok (.invokespecial 12, 3) := by decide +kernel
theorem dL_law_15 : decode cL_law 15 = .ok (.astore_n 2, 1) := by decide +kernel
theorem dL_law_16 : decode cL_law 16 = .ok (.iconst 0, 1) := by decide +kernel
theorem dL_law_17 : decode cL_law 17 = .ok (.istore_n 3, 1) := by decide +kernel
theorem dL_law_18 : decode cL_law 18 = .ok (.iload_n 3, 1) := by decide +kernel
theorem dL_law_19 : decode cL_law 19 = .ok (.aload_n 0, 1) := by decide +kernel
theorem dL_law_20 : decode cL_law 20 = .ok (.arraylength, 1) := by decide +kernel
theorem dL_law_21 : decode cL_law 21 = .ok (.iconst 5, 1) := by decide +kernel
theorem dL_law_22 : decode cL_law 22 = .ok (.isub, 1) := by decide +kernel
theorem dL_law_23 : decode cL_law 23 = .ok (.if_icmp .gt 818, 3) := by decide +kernel
theorem dL_law_26 : decode cL_law 26 = .ok (.aload_n 0, 1) := by decide +kernel
theorem dL_law_27 : decode cL_law 27 = .ok (.iload_n 3, 1) := by decide +kernel
theorem dL_law_28 : decode cL_law 28 = .ok (.iaload, 1) := by decide +kernel
theorem dL_law_29 : decode cL_law 29 = .ok (.bipush 31, 2) := by decide +kernel
theorem dL_law_31 : decode cL_law 31 = .ok (.iand, 1) := by decide +kernel
theorem dL_law_32 : decode cL_law 32 = .ok (.tableswitch 803 0 20 #[100, 133, 176, 219, 262, 305, 328, 361, 384, 407, 440, 483, 506, 529, 562, 605, 638, 681, 734, 757, 780], 100) := by decide +kernel
theorem dL_law_132 : decode cL_law 132 = .ok (.aload_n 1, 1) := by decide +kernel
theorem dL_law_133 : decode cL_law 133 = .ok (.aload_n 0, 1) := by decide +kernel
theorem dL_law_134 : decode cL_law 134 = .ok (.iload_n 3, 1) := by decide +kernel
theorem dL_law_135 : decode cL_law 135 = .ok (.iconst 1, 1) := by decide +kernel
theorem dL_law_136 : decode cL_law 136 = .ok (.iadd, 1) := by decide +kernel
theorem dL_law_137 : decode cL_law 137 = .ok (.iaload, 1) := by decide +kernel
theorem dL_law_138 : decode cL_law 138 = .ok (.aload_n 0, 1) := by decide +kernel
theorem dL_law_139 : decode cL_law 139 = .ok (.iload_n 3, 1) := by decide +kernel
theorem dL_law_140 : decode cL_law 140 = .ok (.iconst 2, 1) := by decide +kernel
theorem dL_law_141 : decode cL_law 141 = .ok (.iadd, 1) := by decide +kernel
theorem dL_law_142 : decode cL_law 142 = .ok (.iaload, 1) := by decide +kernel
theorem dL_law_143 : decode cL_law 143 = .ok (.invokevirtual 13, 3) := by decide +kernel
theorem dL_law_146 : decode cL_law 146 = .ok (.aload_n 2, 1) := by decide +kernel
theorem dL_law_147 : decode cL_law 147 = .ok (.aload_n 0, 1) := by decide +kernel
theorem dL_law_148 : decode cL_law 148 = .ok (.iload_n 3, 1) := by decide +kernel
theorem dL_law_149 : decode cL_law 149 = .ok (.iconst 1, 1) := by decide +kernel
theorem dL_law_150 : decode cL_law 150 = .ok (.iadd, 1) := by decide +kernel
theorem dL_law_151 : decode cL_law 151 = .ok (.iaload, 1) := by decide +kernel
theorem dL_law_152 : decode cL_law 152 = .ok (.aload_n 0, 1) := by decide +kernel
theorem dL_law_153 : decode cL_law 153 = .ok (.iload_n 3, 1) := by decide +kernel
theorem dL_law_154 : decode cL_law 154 = .ok (.iconst 2, 1) := by decide +kernel
theorem dL_law_155 : decode cL_law 155 = .ok (.iadd, 1) := by decide +kernel
theorem dL_law_156 : decode cL_law 156 = .ok (.iaload, 1) := by decide +kernel
theorem dL_law_157 : decode cL_law 157 = .ok (.invokevirtual 17, 3) := by decide +kernel
theorem dL_law_160 : decode cL_law 160 = .ok (.if_icmp .eq 675, 3) := by decide +kernel
theorem dL_law_163 : decode cL_law 163 = .ok (.iconst 0, 1) := by decide +kernel
theorem dL_law_164 : decode cL_law 164 = .ok (.ireturn, 1) := by decide +kernel
theorem dL_law_165 : decode cL_law 165 = .ok (.aload_n 1, 1) := by decide +kernel
theorem dL_law_166 : decode cL_law 166 = .ok (.aload_n 0, 1) := by decide +kernel
theorem dL_law_167 : decode cL_law 167 = .ok (.iload_n 3, 1) := by decide +kernel
theorem dL_law_168 : decode cL_law 168 = .ok (.iconst 1, 1) := by decide +kernel
theorem dL_law_169 : decode cL_law 169 = .ok (.iadd, 1) := by decide +kernel
theorem dL_law_170 : decode cL_law 170 = .ok (.iaload, 1) := by decide +kernel
theorem dL_law_171 : decode cL_law 171 = .ok (.aload_n 0, 1) := by decide +kernel
theorem dL_law_172 : decode cL_law 172 = .ok (.iload_n 3, 1) := by decide +kernel
theorem dL_law_173 : decode cL_law 173 = .ok (.iconst 2, 1) := by decide +kernel
theorem dL_law_174 : decode cL_law 174 = .ok (.iadd, 1) := by decide +kernel
theorem dL_law_175 : decode cL_law 175 = .ok (.iaload, 1) := by decide +kernel
theorem dL_law_176 : decode cL_law 176 = .ok (.aload_n 0, 1) := by decide +kernel
theorem dL_law_177 : decode cL_law 177 = .ok (.iload_n 3, 1) := by decide +kernel
theorem dL_law_178 : decode cL_law 178 = .ok (.iconst 3, 1) := by decide +kernel
theorem dL_law_179 : decode cL_law 179 = .ok (.iadd, 1) := by decide +kernel
theorem dL_law_180 : decode cL_law 180 = .ok (.iaload, 1) := by decide +kernel
theorem dL_law_181 : decode cL_law 181 = .ok (.invokevirtual 18, 3) := by decide +kernel
theorem dL_law_184 : decode cL_law 184 = .ok (.aload_n 2, 1) := by decide +kernel
theorem dL_law_185 : decode cL_law 185 = .ok (.aload_n 0, 1) := by decide +kernel
theorem dL_law_186 : decode cL_law 186 = .ok (.iload_n 3, 1) := by decide +kernel
theorem dL_law_187 : decode cL_law 187 = .ok (.iconst 1, 1) := by decide +kernel
theorem dL_law_188 : decode cL_law 188 = .ok (.iadd, 1) := by decide +kernel
theorem dL_law_189 : decode cL_law 189 = .ok (.iaload, 1) := by decide +kernel
theorem dL_law_190 : decode cL_law 190 = .ok (.aload_n 0, 1) := by decide +kernel
theorem dL_law_191 : decode cL_law 191 = .ok (.iload_n 3, 1) := by decide +kernel
theorem dL_law_192 : decode cL_law 192 = .ok (.iconst 2, 1) := by decide +kernel
theorem dL_law_193 : decode cL_law 193 = .ok (.iadd, 1) := by decide +kernel
theorem dL_law_194 : decode cL_law 194 = .ok (.iaload, 1) := by decide +kernel
theorem dL_law_195 : decode cL_law 195 = .ok (.aload_n 0, 1) := by decide +kernel
theorem dL_law_196 : decode cL_law 196 = .ok (.iload_n 3, 1) := by decide +kernel
theorem dL_law_197 : decode cL_law 197 = .ok (.iconst 3, 1) := by decide +kernel
theorem dL_law_198 : decode cL_law 198 = .ok (.iadd, 1) := by decide +kernel
theorem dL_law_199 : decode cL_law 199 = .ok (.iaload, 1) := by decide +kernel
theorem dL_law_200 : decode cL_law 200 = .ok (.invokevirtual 22, 3) := by decide +kernel
theorem dL_law_203 : decode cL_law 203 = .ok (.if_icmp .eq 632, 3) := by decide +kernel
theorem dL_law_206 : decode cL_law 206 = .ok (.iconst 0, 1) := by decide +kernel
theorem dL_law_207 : decode cL_law 207 = .ok (.ireturn, 1) := by decide +kernel
theorem dL_law_208 : decode cL_law 208 = .ok (.aload_n 1, 1) := by decide +kernel
theorem dL_law_209 : decode cL_law 209 = .ok (.aload_n 0, 1) := by decide +kernel
theorem dL_law_210 : decode cL_law 210 = .ok (.iload_n 3, 1) := by decide +kernel
theorem dL_law_211 : decode cL_law 211 = .ok (.iconst 1, 1) := by decide +kernel
theorem dL_law_212 : decode cL_law 212 = .ok (.iadd, 1) := by decide +kernel
theorem dL_law_213 : decode cL_law 213 = .ok (.iaload, 1) := by decide +kernel
theorem dL_law_214 : decode cL_law 214 = .ok (.aload_n 0, 1) := by decide +kernel
theorem dL_law_215 : decode cL_law 215 = .ok (.iload_n 3, 1) := by decide +kernel
theorem dL_law_216 : decode cL_law 216 = .ok (.iconst 2, 1) := by decide +kernel
theorem dL_law_217 : decode cL_law 217 = .ok (.iadd, 1) := by decide +kernel
theorem dL_law_218 : decode cL_law 218 = .ok (.iaload, 1) := by decide +kernel
theorem dL_law_219 : decode cL_law 219 = .ok (.aload_n 0, 1) := by decide +kernel
theorem dL_law_220 : decode cL_law 220 = .ok (.iload_n 3, 1) := by decide +kernel
theorem dL_law_221 : decode cL_law 221 = .ok (.iconst 3, 1) := by decide +kernel
theorem dL_law_222 : decode cL_law 222 = .ok (.iadd, 1) := by decide +kernel
theorem dL_law_223 : decode cL_law 223 = .ok (.iaload, 1) := by decide +kernel
theorem dL_law_224 : decode cL_law 224 = .ok (.invokevirtual 23, 3) := by decide +kernel
theorem dL_law_227 : decode cL_law 227 = .ok (.aload_n 2, 1) := by decide +kernel
theorem dL_law_228 : decode cL_law 228 = .ok (.aload_n 0, 1) := by decide +kernel
theorem dL_law_229 : decode cL_law 229 = .ok (.iload_n 3, 1) := by decide +kernel
theorem dL_law_230 : decode cL_law 230 = .ok (.iconst 1, 1) := by decide +kernel
theorem dL_law_231 : decode cL_law 231 = .ok (.iadd, 1) := by decide +kernel
theorem dL_law_232 : decode cL_law 232 = .ok (.iaload, 1) := by decide +kernel
theorem dL_law_233 : decode cL_law 233 = .ok (.aload_n 0, 1) := by decide +kernel
theorem dL_law_234 : decode cL_law 234 = .ok (.iload_n 3, 1) := by decide +kernel
theorem dL_law_235 : decode cL_law 235 = .ok (.iconst 2, 1) := by decide +kernel
theorem dL_law_236 : decode cL_law 236 = .ok (.iadd, 1) := by decide +kernel
theorem dL_law_237 : decode cL_law 237 = .ok (.iaload, 1) := by decide +kernel
theorem dL_law_238 : decode cL_law 238 = .ok (.aload_n 0, 1) := by decide +kernel
theorem dL_law_239 : decode cL_law 239 = .ok (.iload_n 3, 1) := by decide +kernel
theorem dL_law_240 : decode cL_law 240 = .ok (.iconst 3, 1) := by decide +kernel
theorem dL_law_241 : decode cL_law 241 = .ok (.iadd, 1) := by decide +kernel
theorem dL_law_242 : decode cL_law 242 = .ok (.iaload, 1) := by decide +kernel
theorem dL_law_243 : decode cL_law 243 = .ok (.invokevirtual 26, 3) := by decide +kernel
theorem dL_law_246 : decode cL_law 246 = .ok (.if_icmp .eq 589, 3) := by decide +kernel
theorem dL_law_249 : decode cL_law 249 = .ok (.iconst 0, 1) := by decide +kernel
theorem dL_law_250 : decode cL_law 250 = .ok (.ireturn, 1) := by decide +kernel
theorem dL_law_251 : decode cL_law 251 = .ok (.aload_n 1, 1) := by decide +kernel
theorem dL_law_252 : decode cL_law 252 = .ok (.aload_n 0, 1) := by decide +kernel
theorem dL_law_253 : decode cL_law 253 = .ok (.iload_n 3, 1) := by decide +kernel
theorem dL_law_254 : decode cL_law 254 = .ok (.iconst 1, 1) := by decide +kernel
theorem dL_law_255 : decode cL_law 255 = .ok (.iadd, 1) := by decide +kernel
theorem dL_law_256 : decode cL_law 256 = .ok (.iaload, 1) := by decide +kernel
theorem dL_law_257 : decode cL_law 257 = .ok (.aload_n 0, 1) := by decide +kernel
theorem dL_law_258 : decode cL_law 258 = .ok (.iload_n 3, 1) := by decide +kernel
theorem dL_law_259 : decode cL_law 259 = .ok (.iconst 2, 1) := by decide +kernel
theorem dL_law_260 : decode cL_law 260 = .ok (.iadd, 1) := by decide +kernel
theorem dL_law_261 : decode cL_law 261 = .ok (.iaload, 1) := by decide +kernel
theorem dL_law_262 : decode cL_law 262 = .ok (.aload_n 0, 1) := by decide +kernel
theorem dL_law_263 : decode cL_law 263 = .ok (.iload_n 3, 1) := by decide +kernel
theorem dL_law_264 : decode cL_law 264 = .ok (.iconst 3, 1) := by decide +kernel
theorem dL_law_265 : decode cL_law 265 = .ok (.iadd, 1) := by decide +kernel
theorem dL_law_266 : decode cL_law 266 = .ok (.iaload, 1) := by decide +kernel
theorem dL_law_267 : decode cL_law 267 = .ok (.invokevirtual 27, 3) := by decide +kernel
theorem dL_law_270 : decode cL_law 270 = .ok (.aload_n 2, 1) := by decide +kernel
theorem dL_law_271 : decode cL_law 271 = .ok (.aload_n 0, 1) := by decide +kernel
theorem dL_law_272 : decode cL_law 272 = .ok (.iload_n 3, 1) := by decide +kernel
theorem dL_law_273 : decode cL_law 273 = .ok (.iconst 1, 1) := by decide +kernel
theorem dL_law_274 : decode cL_law 274 = .ok (.iadd, 1) := by decide +kernel
theorem dL_law_275 : decode cL_law 275 = .ok (.iaload, 1) := by decide +kernel
theorem dL_law_276 : decode cL_law 276 = .ok (.aload_n 0, 1) := by decide +kernel
theorem dL_law_277 : decode cL_law 277 = .ok (.iload_n 3, 1) := by decide +kernel
theorem dL_law_278 : decode cL_law 278 = .ok (.iconst 2, 1) := by decide +kernel
theorem dL_law_279 : decode cL_law 279 = .ok (.iadd, 1) := by decide +kernel
theorem dL_law_280 : decode cL_law 280 = .ok (.iaload, 1) := by decide +kernel
theorem dL_law_281 : decode cL_law 281 = .ok (.aload_n 0, 1) := by decide +kernel
theorem dL_law_282 : decode cL_law 282 = .ok (.iload_n 3, 1) := by decide +kernel
theorem dL_law_283 : decode cL_law 283 = .ok (.iconst 3, 1) := by decide +kernel
theorem dL_law_284 : decode cL_law 284 = .ok (.iadd, 1) := by decide +kernel
theorem dL_law_285 : decode cL_law 285 = .ok (.iaload, 1) := by decide +kernel
theorem dL_law_286 : decode cL_law 286 = .ok (.invokevirtual 30, 3) := by decide +kernel
theorem dL_law_289 : decode cL_law 289 = .ok (.if_icmp .eq 546, 3) := by decide +kernel
theorem dL_law_292 : decode cL_law 292 = .ok (.iconst 0, 1) := by decide +kernel
theorem dL_law_293 : decode cL_law 293 = .ok (.ireturn, 1) := by decide +kernel
theorem dL_law_294 : decode cL_law 294 = .ok (.aload_n 1, 1) := by decide +kernel
theorem dL_law_295 : decode cL_law 295 = .ok (.aload_n 0, 1) := by decide +kernel
theorem dL_law_296 : decode cL_law 296 = .ok (.iload_n 3, 1) := by decide +kernel
theorem dL_law_297 : decode cL_law 297 = .ok (.iconst 1, 1) := by decide +kernel
theorem dL_law_298 : decode cL_law 298 = .ok (.iadd, 1) := by decide +kernel
theorem dL_law_299 : decode cL_law 299 = .ok (.iaload, 1) := by decide +kernel
theorem dL_law_300 : decode cL_law 300 = .ok (.aload_n 0, 1) := by decide +kernel
theorem dL_law_301 : decode cL_law 301 = .ok (.iload_n 3, 1) := by decide +kernel
theorem dL_law_302 : decode cL_law 302 = .ok (.iconst 2, 1) := by decide +kernel
theorem dL_law_303 : decode cL_law 303 = .ok (.iadd, 1) := by decide +kernel
theorem dL_law_304 : decode cL_law 304 = .ok (.iaload, 1) := by decide +kernel
theorem dL_law_305 : decode cL_law 305 = .ok (.aload_n 0, 1) := by decide +kernel
theorem dL_law_306 : decode cL_law 306 = .ok (.iload_n 3, 1) := by decide +kernel
theorem dL_law_307 : decode cL_law 307 = .ok (.iconst 3, 1) := by decide +kernel
theorem dL_law_308 : decode cL_law 308 = .ok (.iadd, 1) := by decide +kernel
theorem dL_law_309 : decode cL_law 309 = .ok (.iaload, 1) := by decide +kernel
theorem dL_law_310 : decode cL_law 310 = .ok (.invokevirtual 31, 3) := by decide +kernel
theorem dL_law_313 : decode cL_law 313 = .ok (.aload_n 2, 1) := by decide +kernel
theorem dL_law_314 : decode cL_law 314 = .ok (.aload_n 0, 1) := by decide +kernel
theorem dL_law_315 : decode cL_law 315 = .ok (.iload_n 3, 1) := by decide +kernel
theorem dL_law_316 : decode cL_law 316 = .ok (.iconst 1, 1) := by decide +kernel
theorem dL_law_317 : decode cL_law 317 = .ok (.iadd, 1) := by decide +kernel
theorem dL_law_318 : decode cL_law 318 = .ok (.iaload, 1) := by decide +kernel
theorem dL_law_319 : decode cL_law 319 = .ok (.aload_n 0, 1) := by decide +kernel
theorem dL_law_320 : decode cL_law 320 = .ok (.iload_n 3, 1) := by decide +kernel
theorem dL_law_321 : decode cL_law 321 = .ok (.iconst 2, 1) := by decide +kernel
theorem dL_law_322 : decode cL_law 322 = .ok (.iadd, 1) := by decide +kernel
theorem dL_law_323 : decode cL_law 323 = .ok (.iaload, 1) := by decide +kernel
theorem dL_law_324 : decode cL_law 324 = .ok (.aload_n 0, 1) := by decide +kernel
theorem dL_law_325 : decode cL_law 325 = .ok (.iload_n 3, 1) := by decide +kernel
theorem dL_law_326 : decode cL_law 326 = .ok (.iconst 3, 1) := by decide +kernel
theorem dL_law_327 : decode cL_law 327 = .ok (.iadd, 1) := by decide +kernel
theorem dL_law_328 : decode cL_law 328 = .ok (.iaload, 1) := by decide +kernel
theorem dL_law_329 : decode cL_law 329 = .ok (.invokevirtual 34, 3) := by decide +kernel
theorem dL_law_332 : decode cL_law 332 = .ok (.if_icmp .eq 503, 3) := by decide +kernel
theorem dL_law_335 : decode cL_law 335 = .ok (.iconst 0, 1) := by decide +kernel
theorem dL_law_336 : decode cL_law 336 = .ok (.ireturn, 1) := by decide +kernel
theorem dL_law_337 : decode cL_law 337 = .ok (.aload_n 1, 1) := by decide +kernel
theorem dL_law_338 : decode cL_law 338 = .ok (.aload_n 0, 1) := by decide +kernel
theorem dL_law_339 : decode cL_law 339 = .ok (.iload_n 3, 1) := by decide +kernel
theorem dL_law_340 : decode cL_law 340 = .ok (.iconst 1, 1) := by decide +kernel
theorem dL_law_341 : decode cL_law 341 = .ok (.iadd, 1) := by decide +kernel
theorem dL_law_342 : decode cL_law 342 = .ok (.iaload, 1) := by decide +kernel
theorem dL_law_343 : decode cL_law 343 = .ok (.invokevirtual 35, 3) := by decide +kernel
theorem dL_law_346 : decode cL_law 346 = .ok (.aload_n 2, 1) := by decide +kernel
theorem dL_law_347 : decode cL_law 347 = .ok (.aload_n 0, 1) := by decide +kernel
theorem dL_law_348 : decode cL_law 348 = .ok (.iload_n 3, 1) := by decide +kernel
theorem dL_law_349 : decode cL_law 349 = .ok (.iconst 1, 1) := by decide +kernel
theorem dL_law_350 : decode cL_law 350 = .ok (.iadd, 1) := by decide +kernel
theorem dL_law_351 : decode cL_law 351 = .ok (.iaload, 1) := by decide +kernel
theorem dL_law_352 : decode cL_law 352 = .ok (.invokevirtual 39, 3) := by decide +kernel
theorem dL_law_355 : decode cL_law 355 = .ok (.if_icmp .eq 480, 3) := by decide +kernel
theorem dL_law_358 : decode cL_law 358 = .ok (.iconst 0, 1) := by decide +kernel
theorem dL_law_359 : decode cL_law 359 = .ok (.ireturn, 1) := by decide +kernel
theorem dL_law_360 : decode cL_law 360 = .ok (.aload_n 1, 1) := by decide +kernel
theorem dL_law_361 : decode cL_law 361 = .ok (.aload_n 0, 1) := by decide +kernel
theorem dL_law_362 : decode cL_law 362 = .ok (.iload_n 3, 1) := by decide +kernel
theorem dL_law_363 : decode cL_law 363 = .ok (.iconst 1, 1) := by decide +kernel
theorem dL_law_364 : decode cL_law 364 = .ok (.iadd, 1) := by decide +kernel
theorem dL_law_365 : decode cL_law 365 = .ok (.iaload, 1) := by decide +kernel
theorem dL_law_366 : decode cL_law 366 = .ok (.aload_n 0, 1) := by decide +kernel
theorem dL_law_367 : decode cL_law 367 = .ok (.iload_n 3, 1) := by decide +kernel
theorem dL_law_368 : decode cL_law 368 = .ok (.iconst 2, 1) := by decide +kernel
theorem dL_law_369 : decode cL_law 369 = .ok (.iadd, 1) := by decide +kernel
theorem dL_law_370 : decode cL_law 370 = .ok (.iaload, 1) := by decide +kernel
theorem dL_law_371 : decode cL_law 371 = .ok (.invokevirtual 40, 3) := by decide +kernel
theorem dL_law_374 : decode cL_law 374 = .ok (.aload_n 2, 1) := by decide +kernel
theorem dL_law_375 : decode cL_law 375 = .ok (.aload_n 0, 1) := by decide +kernel
theorem dL_law_376 : decode cL_law 376 = .ok (.iload_n 3, 1) := by decide +kernel
theorem dL_law_377 : decode cL_law 377 = .ok (.iconst 1, 1) := by decide +kernel
theorem dL_law_378 : decode cL_law 378 = .ok (.iadd, 1) := by decide +kernel
theorem dL_law_379 : decode cL_law 379 = .ok (.iaload, 1) := by decide +kernel
theorem dL_law_380 : decode cL_law 380 = .ok (.aload_n 0, 1) := by decide +kernel
theorem dL_law_381 : decode cL_law 381 = .ok (.iload_n 3, 1) := by decide +kernel
theorem dL_law_382 : decode cL_law 382 = .ok (.iconst 2, 1) := by decide +kernel
theorem dL_law_383 : decode cL_law 383 = .ok (.iadd, 1) := by decide +kernel
theorem dL_law_384 : decode cL_law 384 = .ok (.iaload, 1) := by decide +kernel
theorem dL_law_385 : decode cL_law 385 = .ok (.invokevirtual 43, 3) := by decide +kernel
theorem dL_law_388 : decode cL_law 388 = .ok (.if_icmp .eq 447, 3) := by decide +kernel
theorem dL_law_391 : decode cL_law 391 = .ok (.iconst 0, 1) := by decide +kernel
theorem dL_law_392 : decode cL_law 392 = .ok (.ireturn, 1) := by decide +kernel
theorem dL_law_393 : decode cL_law 393 = .ok (.aload_n 1, 1) := by decide +kernel
theorem dL_law_394 : decode cL_law 394 = .ok (.aload_n 0, 1) := by decide +kernel
theorem dL_law_395 : decode cL_law 395 = .ok (.iload_n 3, 1) := by decide +kernel
theorem dL_law_396 : decode cL_law 396 = .ok (.iconst 1, 1) := by decide +kernel
theorem dL_law_397 : decode cL_law 397 = .ok (.iadd, 1) := by decide +kernel
theorem dL_law_398 : decode cL_law 398 = .ok (.iaload, 1) := by decide +kernel
theorem dL_law_399 : decode cL_law 399 = .ok (.invokevirtual 44, 3) := by decide +kernel
theorem dL_law_402 : decode cL_law 402 = .ok (.aload_n 2, 1) := by decide +kernel
theorem dL_law_403 : decode cL_law 403 = .ok (.aload_n 0, 1) := by decide +kernel
theorem dL_law_404 : decode cL_law 404 = .ok (.iload_n 3, 1) := by decide +kernel
theorem dL_law_405 : decode cL_law 405 = .ok (.iconst 1, 1) := by decide +kernel
theorem dL_law_406 : decode cL_law 406 = .ok (.iadd, 1) := by decide +kernel
theorem dL_law_407 : decode cL_law 407 = .ok (.iaload, 1) := by decide +kernel
theorem dL_law_408 : decode cL_law 408 = .ok (.invokevirtual 47, 3) := by decide +kernel
theorem dL_law_411 : decode cL_law 411 = .ok (.if_icmp .eq 424, 3) := by decide +kernel
theorem dL_law_414 : decode cL_law 414 = .ok (.iconst 0, 1) := by decide +kernel
theorem dL_law_415 : decode cL_law 415 = .ok (.ireturn, 1) := by decide +kernel
theorem dL_law_416 : decode cL_law 416 = .ok (.aload_n 1, 1) := by decide +kernel
theorem dL_law_417 : decode cL_law 417 = .ok (.aload_n 0, 1) := by decide +kernel
theorem dL_law_418 : decode cL_law 418 = .ok (.iload_n 3, 1) := by decide +kernel
theorem dL_law_419 : decode cL_law 419 = .ok (.iconst 1, 1) := by decide +kernel
theorem dL_law_420 : decode cL_law 420 = .ok (.iadd, 1) := by decide +kernel
theorem dL_law_421 : decode cL_law 421 = .ok (.iaload, 1) := by decide +kernel
theorem dL_law_422 : decode cL_law 422 = .ok (.invokevirtual 48, 3) := by decide +kernel
theorem dL_law_425 : decode cL_law 425 = .ok (.aload_n 2, 1) := by decide +kernel
theorem dL_law_426 : decode cL_law 426 = .ok (.aload_n 0, 1) := by decide +kernel
theorem dL_law_427 : decode cL_law 427 = .ok (.iload_n 3, 1) := by decide +kernel
theorem dL_law_428 : decode cL_law 428 = .ok (.iconst 1, 1) := by decide +kernel
theorem dL_law_429 : decode cL_law 429 = .ok (.iadd, 1) := by decide +kernel
theorem dL_law_430 : decode cL_law 430 = .ok (.iaload, 1) := by decide +kernel
theorem dL_law_431 : decode cL_law 431 = .ok (.invokevirtual 51, 3) := by decide +kernel
theorem dL_law_434 : decode cL_law 434 = .ok (.if_icmp .eq 401, 3) := by decide +kernel
theorem dL_law_437 : decode cL_law 437 = .ok (.iconst 0, 1) := by decide +kernel
theorem dL_law_438 : decode cL_law 438 = .ok (.ireturn, 1) := by decide +kernel
theorem dL_law_439 : decode cL_law 439 = .ok (.aload_n 1, 1) := by decide +kernel
theorem dL_law_440 : decode cL_law 440 = .ok (.aload_n 0, 1) := by decide +kernel
theorem dL_law_441 : decode cL_law 441 = .ok (.iload_n 3, 1) := by decide +kernel
theorem dL_law_442 : decode cL_law 442 = .ok (.iconst 1, 1) := by decide +kernel
theorem dL_law_443 : decode cL_law 443 = .ok (.iadd, 1) := by decide +kernel
theorem dL_law_444 : decode cL_law 444 = .ok (.iaload, 1) := by decide +kernel
theorem dL_law_445 : decode cL_law 445 = .ok (.aload_n 0, 1) := by decide +kernel
theorem dL_law_446 : decode cL_law 446 = .ok (.iload_n 3, 1) := by decide +kernel
theorem dL_law_447 : decode cL_law 447 = .ok (.iconst 2, 1) := by decide +kernel
theorem dL_law_448 : decode cL_law 448 = .ok (.iadd, 1) := by decide +kernel
theorem dL_law_449 : decode cL_law 449 = .ok (.iaload, 1) := by decide +kernel
theorem dL_law_450 : decode cL_law 450 = .ok (.invokevirtual 52, 3) := by decide +kernel
theorem dL_law_453 : decode cL_law 453 = .ok (.aload_n 2, 1) := by decide +kernel
theorem dL_law_454 : decode cL_law 454 = .ok (.aload_n 0, 1) := by decide +kernel
theorem dL_law_455 : decode cL_law 455 = .ok (.iload_n 3, 1) := by decide +kernel
theorem dL_law_456 : decode cL_law 456 = .ok (.iconst 1, 1) := by decide +kernel
theorem dL_law_457 : decode cL_law 457 = .ok (.iadd, 1) := by decide +kernel
theorem dL_law_458 : decode cL_law 458 = .ok (.iaload, 1) := by decide +kernel
theorem dL_law_459 : decode cL_law 459 = .ok (.aload_n 0, 1) := by decide +kernel
theorem dL_law_460 : decode cL_law 460 = .ok (.iload_n 3, 1) := by decide +kernel
theorem dL_law_461 : decode cL_law 461 = .ok (.iconst 2, 1) := by decide +kernel
theorem dL_law_462 : decode cL_law 462 = .ok (.iadd, 1) := by decide +kernel
theorem dL_law_463 : decode cL_law 463 = .ok (.iaload, 1) := by decide +kernel
theorem dL_law_464 : decode cL_law 464 = .ok (.invokevirtual 55, 3) := by decide +kernel
theorem dL_law_467 : decode cL_law 467 = .ok (.if_icmp .eq 368, 3) := by decide +kernel
theorem dL_law_470 : decode cL_law 470 = .ok (.iconst 0, 1) := by decide +kernel
theorem dL_law_471 : decode cL_law 471 = .ok (.ireturn, 1) := by decide +kernel
theorem dL_law_472 : decode cL_law 472 = .ok (.aload_n 1, 1) := by decide +kernel
theorem dL_law_473 : decode cL_law 473 = .ok (.aload_n 0, 1) := by decide +kernel
theorem dL_law_474 : decode cL_law 474 = .ok (.iload_n 3, 1) := by decide +kernel
theorem dL_law_475 : decode cL_law 475 = .ok (.iconst 1, 1) := by decide +kernel
theorem dL_law_476 : decode cL_law 476 = .ok (.iadd, 1) := by decide +kernel
theorem dL_law_477 : decode cL_law 477 = .ok (.iaload, 1) := by decide +kernel
theorem dL_law_478 : decode cL_law 478 = .ok (.aload_n 0, 1) := by decide +kernel
theorem dL_law_479 : decode cL_law 479 = .ok (.iload_n 3, 1) := by decide +kernel
theorem dL_law_480 : decode cL_law 480 = .ok (.iconst 2, 1) := by decide +kernel
theorem dL_law_481 : decode cL_law 481 = .ok (.iadd, 1) := by decide +kernel
theorem dL_law_482 : decode cL_law 482 = .ok (.iaload, 1) := by decide +kernel
theorem dL_law_483 : decode cL_law 483 = .ok (.aload_n 0, 1) := by decide +kernel
theorem dL_law_484 : decode cL_law 484 = .ok (.iload_n 3, 1) := by decide +kernel
theorem dL_law_485 : decode cL_law 485 = .ok (.iconst 3, 1) := by decide +kernel
theorem dL_law_486 : decode cL_law 486 = .ok (.iadd, 1) := by decide +kernel
theorem dL_law_487 : decode cL_law 487 = .ok (.iaload, 1) := by decide +kernel
theorem dL_law_488 : decode cL_law 488 = .ok (.invokevirtual 56, 3) := by decide +kernel
theorem dL_law_491 : decode cL_law 491 = .ok (.aload_n 2, 1) := by decide +kernel
theorem dL_law_492 : decode cL_law 492 = .ok (.aload_n 0, 1) := by decide +kernel
theorem dL_law_493 : decode cL_law 493 = .ok (.iload_n 3, 1) := by decide +kernel
theorem dL_law_494 : decode cL_law 494 = .ok (.iconst 1, 1) := by decide +kernel
theorem dL_law_495 : decode cL_law 495 = .ok (.iadd, 1) := by decide +kernel
theorem dL_law_496 : decode cL_law 496 = .ok (.iaload, 1) := by decide +kernel
theorem dL_law_497 : decode cL_law 497 = .ok (.aload_n 0, 1) := by decide +kernel
theorem dL_law_498 : decode cL_law 498 = .ok (.iload_n 3, 1) := by decide +kernel
theorem dL_law_499 : decode cL_law 499 = .ok (.iconst 2, 1) := by decide +kernel
theorem dL_law_500 : decode cL_law 500 = .ok (.iadd, 1) := by decide +kernel
theorem dL_law_501 : decode cL_law 501 = .ok (.iaload, 1) := by decide +kernel
theorem dL_law_502 : decode cL_law 502 = .ok (.aload_n 0, 1) := by decide +kernel
theorem dL_law_503 : decode cL_law 503 = .ok (.iload_n 3, 1) := by decide +kernel
theorem dL_law_504 : decode cL_law 504 = .ok (.iconst 3, 1) := by decide +kernel
theorem dL_law_505 : decode cL_law 505 = .ok (.iadd, 1) := by decide +kernel
theorem dL_law_506 : decode cL_law 506 = .ok (.iaload, 1) := by decide +kernel
theorem dL_law_507 : decode cL_law 507 = .ok (.invokevirtual 59, 3) := by decide +kernel
theorem dL_law_510 : decode cL_law 510 = .ok (.if_icmp .eq 325, 3) := by decide +kernel
theorem dL_law_513 : decode cL_law 513 = .ok (.iconst 0, 1) := by decide +kernel
theorem dL_law_514 : decode cL_law 514 = .ok (.ireturn, 1) := by decide +kernel
theorem dL_law_515 : decode cL_law 515 = .ok (.aload_n 1, 1) := by decide +kernel
theorem dL_law_516 : decode cL_law 516 = .ok (.aload_n 0, 1) := by decide +kernel
theorem dL_law_517 : decode cL_law 517 = .ok (.iload_n 3, 1) := by decide +kernel
theorem dL_law_518 : decode cL_law 518 = .ok (.iconst 1, 1) := by decide +kernel
theorem dL_law_519 : decode cL_law 519 = .ok (.iadd, 1) := by decide +kernel
theorem dL_law_520 : decode cL_law 520 = .ok (.iaload, 1) := by decide +kernel
theorem dL_law_521 : decode cL_law 521 = .ok (.invokevirtual 60, 3) := by decide +kernel
theorem dL_law_524 : decode cL_law 524 = .ok (.aload_n 2, 1) := by decide +kernel
theorem dL_law_525 : decode cL_law 525 = .ok (.aload_n 0, 1) := by decide +kernel
theorem dL_law_526 : decode cL_law 526 = .ok (.iload_n 3, 1) := by decide +kernel
theorem dL_law_527 : decode cL_law 527 = .ok (.iconst 1, 1) := by decide +kernel
theorem dL_law_528 : decode cL_law 528 = .ok (.iadd, 1) := by decide +kernel
theorem dL_law_529 : decode cL_law 529 = .ok (.iaload, 1) := by decide +kernel
theorem dL_law_530 : decode cL_law 530 = .ok (.invokevirtual 63, 3) := by decide +kernel
theorem dL_law_533 : decode cL_law 533 = .ok (.if_icmp .eq 302, 3) := by decide +kernel
theorem dL_law_536 : decode cL_law 536 = .ok (.iconst 0, 1) := by decide +kernel
theorem dL_law_537 : decode cL_law 537 = .ok (.ireturn, 1) := by decide +kernel
theorem dL_law_538 : decode cL_law 538 = .ok (.aload_n 1, 1) := by decide +kernel
theorem dL_law_539 : decode cL_law 539 = .ok (.aload_n 0, 1) := by decide +kernel
theorem dL_law_540 : decode cL_law 540 = .ok (.iload_n 3, 1) := by decide +kernel
theorem dL_law_541 : decode cL_law 541 = .ok (.iconst 1, 1) := by decide +kernel
theorem dL_law_542 : decode cL_law 542 = .ok (.iadd, 1) := by decide +kernel
theorem dL_law_543 : decode cL_law 543 = .ok (.iaload, 1) := by decide +kernel
theorem dL_law_544 : decode cL_law 544 = .ok (.invokevirtual 64, 3) := by decide +kernel
theorem dL_law_547 : decode cL_law 547 = .ok (.aload_n 2, 1) := by decide +kernel
theorem dL_law_548 : decode cL_law 548 = .ok (.aload_n 0, 1) := by decide +kernel
theorem dL_law_549 : decode cL_law 549 = .ok (.iload_n 3, 1) := by decide +kernel
theorem dL_law_550 : decode cL_law 550 = .ok (.iconst 1, 1) := by decide +kernel
theorem dL_law_551 : decode cL_law 551 = .ok (.iadd, 1) := by decide +kernel
theorem dL_law_552 : decode cL_law 552 = .ok (.iaload, 1) := by decide +kernel
theorem dL_law_553 : decode cL_law 553 = .ok (.invokevirtual 67, 3) := by decide +kernel
theorem dL_law_556 : decode cL_law 556 = .ok (.if_icmp .eq 279, 3) := by decide +kernel
theorem dL_law_559 : decode cL_law 559 = .ok (.iconst 0, 1) := by decide +kernel
theorem dL_law_560 : decode cL_law 560 = .ok (.ireturn, 1) := by decide +kernel
theorem dL_law_561 : decode cL_law 561 = .ok (.aload_n 1, 1) := by decide +kernel
theorem dL_law_562 : decode cL_law 562 = .ok (.aload_n 0, 1) := by decide +kernel
theorem dL_law_563 : decode cL_law 563 = .ok (.iload_n 3, 1) := by decide +kernel
theorem dL_law_564 : decode cL_law 564 = .ok (.iconst 1, 1) := by decide +kernel
theorem dL_law_565 : decode cL_law 565 = .ok (.iadd, 1) := by decide +kernel
theorem dL_law_566 : decode cL_law 566 = .ok (.iaload, 1) := by decide +kernel
theorem dL_law_567 : decode cL_law 567 = .ok (.aload_n 0, 1) := by decide +kernel
theorem dL_law_568 : decode cL_law 568 = .ok (.iload_n 3, 1) := by decide +kernel
theorem dL_law_569 : decode cL_law 569 = .ok (.iconst 2, 1) := by decide +kernel
theorem dL_law_570 : decode cL_law 570 = .ok (.iadd, 1) := by decide +kernel
theorem dL_law_571 : decode cL_law 571 = .ok (.iaload, 1) := by decide +kernel
theorem dL_law_572 : decode cL_law 572 = .ok (.invokevirtual 68, 3) := by decide +kernel
theorem dL_law_575 : decode cL_law 575 = .ok (.aload_n 2, 1) := by decide +kernel
theorem dL_law_576 : decode cL_law 576 = .ok (.aload_n 0, 1) := by decide +kernel
theorem dL_law_577 : decode cL_law 577 = .ok (.iload_n 3, 1) := by decide +kernel
theorem dL_law_578 : decode cL_law 578 = .ok (.iconst 1, 1) := by decide +kernel
theorem dL_law_579 : decode cL_law 579 = .ok (.iadd, 1) := by decide +kernel
theorem dL_law_580 : decode cL_law 580 = .ok (.iaload, 1) := by decide +kernel
theorem dL_law_581 : decode cL_law 581 = .ok (.aload_n 0, 1) := by decide +kernel
theorem dL_law_582 : decode cL_law 582 = .ok (.iload_n 3, 1) := by decide +kernel
theorem dL_law_583 : decode cL_law 583 = .ok (.iconst 2, 1) := by decide +kernel
theorem dL_law_584 : decode cL_law 584 = .ok (.iadd, 1) := by decide +kernel
theorem dL_law_585 : decode cL_law 585 = .ok (.iaload, 1) := by decide +kernel
theorem dL_law_586 : decode cL_law 586 = .ok (.invokevirtual 71, 3) := by decide +kernel
theorem dL_law_589 : decode cL_law 589 = .ok (.if_icmp .eq 246, 3) := by decide +kernel
theorem dL_law_592 : decode cL_law 592 = .ok (.iconst 0, 1) := by decide +kernel
theorem dL_law_593 : decode cL_law 593 = .ok (.ireturn, 1) := by decide +kernel
theorem dL_law_594 : decode cL_law 594 = .ok (.aload_n 1, 1) := by decide +kernel
theorem dL_law_595 : decode cL_law 595 = .ok (.aload_n 0, 1) := by decide +kernel
theorem dL_law_596 : decode cL_law 596 = .ok (.iload_n 3, 1) := by decide +kernel
theorem dL_law_597 : decode cL_law 597 = .ok (.iconst 1, 1) := by decide +kernel
theorem dL_law_598 : decode cL_law 598 = .ok (.iadd, 1) := by decide +kernel
theorem dL_law_599 : decode cL_law 599 = .ok (.iaload, 1) := by decide +kernel
theorem dL_law_600 : decode cL_law 600 = .ok (.aload_n 0, 1) := by decide +kernel
theorem dL_law_601 : decode cL_law 601 = .ok (.iload_n 3, 1) := by decide +kernel
theorem dL_law_602 : decode cL_law 602 = .ok (.iconst 2, 1) := by decide +kernel
theorem dL_law_603 : decode cL_law 603 = .ok (.iadd, 1) := by decide +kernel
theorem dL_law_604 : decode cL_law 604 = .ok (.iaload, 1) := by decide +kernel
theorem dL_law_605 : decode cL_law 605 = .ok (.aload_n 0, 1) := by decide +kernel
theorem dL_law_606 : decode cL_law 606 = .ok (.iload_n 3, 1) := by decide +kernel
theorem dL_law_607 : decode cL_law 607 = .ok (.iconst 3, 1) := by decide +kernel
theorem dL_law_608 : decode cL_law 608 = .ok (.iadd, 1) := by decide +kernel
theorem dL_law_609 : decode cL_law 609 = .ok (.iaload, 1) := by decide +kernel
theorem dL_law_610 : decode cL_law 610 = .ok (.invokevirtual 72, 3) := by decide +kernel
theorem dL_law_613 : decode cL_law 613 = .ok (.aload_n 2, 1) := by decide +kernel
theorem dL_law_614 : decode cL_law 614 = .ok (.aload_n 0, 1) := by decide +kernel
theorem dL_law_615 : decode cL_law 615 = .ok (.iload_n 3, 1) := by decide +kernel
theorem dL_law_616 : decode cL_law 616 = .ok (.iconst 1, 1) := by decide +kernel
theorem dL_law_617 : decode cL_law 617 = .ok (.iadd, 1) := by decide +kernel
theorem dL_law_618 : decode cL_law 618 = .ok (.iaload, 1) := by decide +kernel
theorem dL_law_619 : decode cL_law 619 = .ok (.aload_n 0, 1) := by decide +kernel
theorem dL_law_620 : decode cL_law 620 = .ok (.iload_n 3, 1) := by decide +kernel
theorem dL_law_621 : decode cL_law 621 = .ok (.iconst 2, 1) := by decide +kernel
theorem dL_law_622 : decode cL_law 622 = .ok (.iadd, 1) := by decide +kernel
theorem dL_law_623 : decode cL_law 623 = .ok (.iaload, 1) := by decide +kernel
theorem dL_law_624 : decode cL_law 624 = .ok (.aload_n 0, 1) := by decide +kernel
theorem dL_law_625 : decode cL_law 625 = .ok (.iload_n 3, 1) := by decide +kernel
theorem dL_law_626 : decode cL_law 626 = .ok (.iconst 3, 1) := by decide +kernel
theorem dL_law_627 : decode cL_law 627 = .ok (.iadd, 1) := by decide +kernel
theorem dL_law_628 : decode cL_law 628 = .ok (.iaload, 1) := by decide +kernel
theorem dL_law_629 : decode cL_law 629 = .ok (.invokevirtual 75, 3) := by decide +kernel
theorem dL_law_632 : decode cL_law 632 = .ok (.if_icmp .eq 203, 3) := by decide +kernel
theorem dL_law_635 : decode cL_law 635 = .ok (.iconst 0, 1) := by decide +kernel
theorem dL_law_636 : decode cL_law 636 = .ok (.ireturn, 1) := by decide +kernel
theorem dL_law_637 : decode cL_law 637 = .ok (.aload_n 1, 1) := by decide +kernel
theorem dL_law_638 : decode cL_law 638 = .ok (.aload_n 0, 1) := by decide +kernel
theorem dL_law_639 : decode cL_law 639 = .ok (.iload_n 3, 1) := by decide +kernel
theorem dL_law_640 : decode cL_law 640 = .ok (.iconst 1, 1) := by decide +kernel
theorem dL_law_641 : decode cL_law 641 = .ok (.iadd, 1) := by decide +kernel
theorem dL_law_642 : decode cL_law 642 = .ok (.iaload, 1) := by decide +kernel
theorem dL_law_643 : decode cL_law 643 = .ok (.aload_n 0, 1) := by decide +kernel
theorem dL_law_644 : decode cL_law 644 = .ok (.iload_n 3, 1) := by decide +kernel
theorem dL_law_645 : decode cL_law 645 = .ok (.iconst 2, 1) := by decide +kernel
theorem dL_law_646 : decode cL_law 646 = .ok (.iadd, 1) := by decide +kernel
theorem dL_law_647 : decode cL_law 647 = .ok (.iaload, 1) := by decide +kernel
theorem dL_law_648 : decode cL_law 648 = .ok (.invokevirtual 76, 3) := by decide +kernel
theorem dL_law_651 : decode cL_law 651 = .ok (.aload_n 2, 1) := by decide +kernel
theorem dL_law_652 : decode cL_law 652 = .ok (.aload_n 0, 1) := by decide +kernel
theorem dL_law_653 : decode cL_law 653 = .ok (.iload_n 3, 1) := by decide +kernel
theorem dL_law_654 : decode cL_law 654 = .ok (.iconst 1, 1) := by decide +kernel
theorem dL_law_655 : decode cL_law 655 = .ok (.iadd, 1) := by decide +kernel
theorem dL_law_656 : decode cL_law 656 = .ok (.iaload, 1) := by decide +kernel
theorem dL_law_657 : decode cL_law 657 = .ok (.aload_n 0, 1) := by decide +kernel
theorem dL_law_658 : decode cL_law 658 = .ok (.iload_n 3, 1) := by decide +kernel
theorem dL_law_659 : decode cL_law 659 = .ok (.iconst 2, 1) := by decide +kernel
theorem dL_law_660 : decode cL_law 660 = .ok (.iadd, 1) := by decide +kernel
theorem dL_law_661 : decode cL_law 661 = .ok (.iaload, 1) := by decide +kernel
theorem dL_law_662 : decode cL_law 662 = .ok (.invokevirtual 79, 3) := by decide +kernel
theorem dL_law_665 : decode cL_law 665 = .ok (.if_icmp .eq 170, 3) := by decide +kernel
theorem dL_law_668 : decode cL_law 668 = .ok (.iconst 0, 1) := by decide +kernel
theorem dL_law_669 : decode cL_law 669 = .ok (.ireturn, 1) := by decide +kernel
theorem dL_law_670 : decode cL_law 670 = .ok (.aload_n 1, 1) := by decide +kernel
theorem dL_law_671 : decode cL_law 671 = .ok (.aload_n 0, 1) := by decide +kernel
theorem dL_law_672 : decode cL_law 672 = .ok (.iload_n 3, 1) := by decide +kernel
theorem dL_law_673 : decode cL_law 673 = .ok (.iconst 1, 1) := by decide +kernel
theorem dL_law_674 : decode cL_law 674 = .ok (.iadd, 1) := by decide +kernel
theorem dL_law_675 : decode cL_law 675 = .ok (.iaload, 1) := by decide +kernel
theorem dL_law_676 : decode cL_law 676 = .ok (.aload_n 0, 1) := by decide +kernel
theorem dL_law_677 : decode cL_law 677 = .ok (.iload_n 3, 1) := by decide +kernel
theorem dL_law_678 : decode cL_law 678 = .ok (.iconst 2, 1) := by decide +kernel
theorem dL_law_679 : decode cL_law 679 = .ok (.iadd, 1) := by decide +kernel
theorem dL_law_680 : decode cL_law 680 = .ok (.iaload, 1) := by decide +kernel
theorem dL_law_681 : decode cL_law 681 = .ok (.aload_n 0, 1) := by decide +kernel
theorem dL_law_682 : decode cL_law 682 = .ok (.iload_n 3, 1) := by decide +kernel
theorem dL_law_683 : decode cL_law 683 = .ok (.iconst 3, 1) := by decide +kernel
theorem dL_law_684 : decode cL_law 684 = .ok (.iadd, 1) := by decide +kernel
theorem dL_law_685 : decode cL_law 685 = .ok (.iaload, 1) := by decide +kernel
theorem dL_law_686 : decode cL_law 686 = .ok (.invokevirtual 80, 3) := by decide +kernel
theorem dL_law_689 : decode cL_law 689 = .ok (.aload_n 2, 1) := by decide +kernel
theorem dL_law_690 : decode cL_law 690 = .ok (.aload_n 0, 1) := by decide +kernel
theorem dL_law_691 : decode cL_law 691 = .ok (.iload_n 3, 1) := by decide +kernel
theorem dL_law_692 : decode cL_law 692 = .ok (.iconst 1, 1) := by decide +kernel
theorem dL_law_693 : decode cL_law 693 = .ok (.iadd, 1) := by decide +kernel
theorem dL_law_694 : decode cL_law 694 = .ok (.iaload, 1) := by decide +kernel
theorem dL_law_695 : decode cL_law 695 = .ok (.aload_n 0, 1) := by decide +kernel
theorem dL_law_696 : decode cL_law 696 = .ok (.iload_n 3, 1) := by decide +kernel
theorem dL_law_697 : decode cL_law 697 = .ok (.iconst 2, 1) := by decide +kernel
theorem dL_law_698 : decode cL_law 698 = .ok (.iadd, 1) := by decide +kernel
theorem dL_law_699 : decode cL_law 699 = .ok (.iaload, 1) := by decide +kernel
theorem dL_law_700 : decode cL_law 700 = .ok (.aload_n 0, 1) := by decide +kernel
theorem dL_law_701 : decode cL_law 701 = .ok (.iload_n 3, 1) := by decide +kernel
theorem dL_law_702 : decode cL_law 702 = .ok (.iconst 3, 1) := by decide +kernel
theorem dL_law_703 : decode cL_law 703 = .ok (.iadd, 1) := by decide +kernel
theorem dL_law_704 : decode cL_law 704 = .ok (.iaload, 1) := by decide +kernel
theorem dL_law_705 : decode cL_law 705 = .ok (.invokevirtual 83, 3) := by decide +kernel
theorem dL_law_708 : decode cL_law 708 = .ok (.if_icmp .eq 127, 3) := by decide +kernel
theorem dL_law_711 : decode cL_law 711 = .ok (.iconst 0, 1) := by decide +kernel
theorem dL_law_712 : decode cL_law 712 = .ok (.ireturn, 1) := by decide +kernel
theorem dL_law_713 : decode cL_law 713 = .ok (.aload_n 1, 1) := by decide +kernel
theorem dL_law_714 : decode cL_law 714 = .ok (.aload_n 0, 1) := by decide +kernel
theorem dL_law_715 : decode cL_law 715 = .ok (.iload_n 3, 1) := by decide +kernel
theorem dL_law_716 : decode cL_law 716 = .ok (.iconst 1, 1) := by decide +kernel
theorem dL_law_717 : decode cL_law 717 = .ok (.iadd, 1) := by decide +kernel
theorem dL_law_718 : decode cL_law 718 = .ok (.iaload, 1) := by decide +kernel
theorem dL_law_719 : decode cL_law 719 = .ok (.aload_n 0, 1) := by decide +kernel
theorem dL_law_720 : decode cL_law 720 = .ok (.iload_n 3, 1) := by decide +kernel
theorem dL_law_721 : decode cL_law 721 = .ok (.iconst 2, 1) := by decide +kernel
theorem dL_law_722 : decode cL_law 722 = .ok (.iadd, 1) := by decide +kernel
theorem dL_law_723 : decode cL_law 723 = .ok (.iaload, 1) := by decide +kernel
theorem dL_law_724 : decode cL_law 724 = .ok (.aload_n 0, 1) := by decide +kernel
theorem dL_law_725 : decode cL_law 725 = .ok (.iload_n 3, 1) := by decide +kernel
theorem dL_law_726 : decode cL_law 726 = .ok (.iconst 3, 1) := by decide +kernel
theorem dL_law_727 : decode cL_law 727 = .ok (.iadd, 1) := by decide +kernel
theorem dL_law_728 : decode cL_law 728 = .ok (.iaload, 1) := by decide +kernel
theorem dL_law_729 : decode cL_law 729 = .ok (.aload_n 0, 1) := by decide +kernel
theorem dL_law_730 : decode cL_law 730 = .ok (.iload_n 3, 1) := by decide +kernel
theorem dL_law_731 : decode cL_law 731 = .ok (.iconst 4, 1) := by decide +kernel
theorem dL_law_732 : decode cL_law 732 = .ok (.iadd, 1) := by decide +kernel
theorem dL_law_733 : decode cL_law 733 = .ok (.iaload, 1) := by decide +kernel
theorem dL_law_734 : decode cL_law 734 = .ok (.invokevirtual 84, 3) := by decide +kernel
theorem dL_law_737 : decode cL_law 737 = .ok (.aload_n 2, 1) := by decide +kernel
theorem dL_law_738 : decode cL_law 738 = .ok (.aload_n 0, 1) := by decide +kernel
theorem dL_law_739 : decode cL_law 739 = .ok (.iload_n 3, 1) := by decide +kernel
theorem dL_law_740 : decode cL_law 740 = .ok (.iconst 1, 1) := by decide +kernel
theorem dL_law_741 : decode cL_law 741 = .ok (.iadd, 1) := by decide +kernel
theorem dL_law_742 : decode cL_law 742 = .ok (.iaload, 1) := by decide +kernel
theorem dL_law_743 : decode cL_law 743 = .ok (.aload_n 0, 1) := by decide +kernel
theorem dL_law_744 : decode cL_law 744 = .ok (.iload_n 3, 1) := by decide +kernel
theorem dL_law_745 : decode cL_law 745 = .ok (.iconst 2, 1) := by decide +kernel
theorem dL_law_746 : decode cL_law 746 = .ok (.iadd, 1) := by decide +kernel
theorem dL_law_747 : decode cL_law 747 = .ok (.iaload, 1) := by decide +kernel
theorem dL_law_748 : decode cL_law 748 = .ok (.aload_n 0, 1) := by decide +kernel
theorem dL_law_749 : decode cL_law 749 = .ok (.iload_n 3, 1) := by decide +kernel
theorem dL_law_750 : decode cL_law 750 = .ok (.iconst 3, 1) := by decide +kernel
theorem dL_law_751 : decode cL_law 751 = .ok (.iadd, 1) := by decide +kernel
theorem dL_law_752 : decode cL_law 752 = .ok (.iaload, 1) := by decide +kernel
theorem dL_law_753 : decode cL_law 753 = .ok (.aload_n 0, 1) := by decide +kernel
theorem dL_law_754 : decode cL_law 754 = .ok (.iload_n 3, 1) := by decide +kernel
theorem dL_law_755 : decode cL_law 755 = .ok (.iconst 4, 1) := by decide +kernel
theorem dL_law_756 : decode cL_law 756 = .ok (.iadd, 1) := by decide +kernel
theorem dL_law_757 : decode cL_law 757 = .ok (.iaload, 1) := by decide +kernel
theorem dL_law_758 : decode cL_law 758 = .ok (.invokevirtual 88, 3) := by decide +kernel
theorem dL_law_761 : decode cL_law 761 = .ok (.if_icmp .eq 74, 3) := by decide +kernel
theorem dL_law_764 : decode cL_law 764 = .ok (.iconst 0, 1) := by decide +kernel
theorem dL_law_765 : decode cL_law 765 = .ok (.ireturn, 1) := by decide +kernel
theorem dL_law_766 : decode cL_law 766 = .ok (.aload_n 1, 1) := by decide +kernel
theorem dL_law_767 : decode cL_law 767 = .ok (.aload_n 0, 1) := by decide +kernel
theorem dL_law_768 : decode cL_law 768 = .ok (.iload_n 3, 1) := by decide +kernel
theorem dL_law_769 : decode cL_law 769 = .ok (.iconst 1, 1) := by decide +kernel
theorem dL_law_770 : decode cL_law 770 = .ok (.iadd, 1) := by decide +kernel
theorem dL_law_771 : decode cL_law 771 = .ok (.iaload, 1) := by decide +kernel
theorem dL_law_772 : decode cL_law 772 = .ok (.invokevirtual 89, 3) := by decide +kernel
theorem dL_law_775 : decode cL_law 775 = .ok (.aload_n 2, 1) := by decide +kernel
theorem dL_law_776 : decode cL_law 776 = .ok (.aload_n 0, 1) := by decide +kernel
theorem dL_law_777 : decode cL_law 777 = .ok (.iload_n 3, 1) := by decide +kernel
theorem dL_law_778 : decode cL_law 778 = .ok (.iconst 1, 1) := by decide +kernel
theorem dL_law_779 : decode cL_law 779 = .ok (.iadd, 1) := by decide +kernel
theorem dL_law_780 : decode cL_law 780 = .ok (.iaload, 1) := by decide +kernel
theorem dL_law_781 : decode cL_law 781 = .ok (.invokevirtual 92, 3) := by decide +kernel
theorem dL_law_784 : decode cL_law 784 = .ok (.if_icmp .eq 51, 3) := by decide +kernel
theorem dL_law_787 : decode cL_law 787 = .ok (.iconst 0, 1) := by decide +kernel
theorem dL_law_788 : decode cL_law 788 = .ok (.ireturn, 1) := by decide +kernel
theorem dL_law_789 : decode cL_law 789 = .ok (.aload_n 1, 1) := by decide +kernel
theorem dL_law_790 : decode cL_law 790 = .ok (.aload_n 0, 1) := by decide +kernel
theorem dL_law_791 : decode cL_law 791 = .ok (.iload_n 3, 1) := by decide +kernel
theorem dL_law_792 : decode cL_law 792 = .ok (.iconst 1, 1) := by decide +kernel
theorem dL_law_793 : decode cL_law 793 = .ok (.iadd, 1) := by decide +kernel
theorem dL_law_794 : decode cL_law 794 = .ok (.iaload, 1) := by decide +kernel
theorem dL_law_795 : decode cL_law 795 = .ok (.invokevirtual 93, 3) := by decide +kernel
theorem dL_law_798 : decode cL_law 798 = .ok (.aload_n 2, 1) := by decide +kernel
theorem dL_law_799 : decode cL_law 799 = .ok (.aload_n 0, 1) := by decide +kernel
theorem dL_law_800 : decode cL_law 800 = .ok (.iload_n 3, 1) := by decide +kernel
theorem dL_law_801 : decode cL_law 801 = .ok (.iconst 1, 1) := by decide +kernel
theorem dL_law_802 : decode cL_law 802 = .ok (.iadd, 1) := by decide +kernel
theorem dL_law_803 : decode cL_law 803 = .ok (.iaload, 1) := by decide +kernel
theorem dL_law_804 : decode cL_law 804 = .ok (.invokevirtual 96, 3) := by decide +kernel
theorem dL_law_807 : decode cL_law 807 = .ok (.if_icmp .eq 28, 3) := by decide +kernel
theorem dL_law_810 : decode cL_law 810 = .ok (.iconst 0, 1) := by decide +kernel
theorem dL_law_811 : decode cL_law 811 = .ok (.ireturn, 1) := by decide +kernel
theorem dL_law_812 : decode cL_law 812 = .ok (.aload_n 1, 1) := by decide +kernel
theorem dL_law_813 : decode cL_law 813 = .ok (.aload_n 0, 1) := by decide +kernel
theorem dL_law_814 : decode cL_law 814 = .ok (.iload_n 3, 1) := by decide +kernel
theorem dL_law_815 : decode cL_law 815 = .ok (.iconst 1, 1) := by decide +kernel
theorem dL_law_816 : decode cL_law 816 = .ok (.iadd, 1) := by decide +kernel
theorem dL_law_817 : decode cL_law 817 = .ok (.iaload, 1) := by decide +kernel
theorem dL_law_818 : decode cL_law 818 = .ok (.invokevirtual 97, 3) := by decide +kernel
theorem dL_law_821 : decode cL_law 821 = .ok (.aload_n 2, 1) := by decide +kernel
theorem dL_law_822 : decode cL_law 822 = .ok (.aload_n 0, 1) := by decide +kernel
theorem dL_law_823 : decode cL_law 823 = .ok (.iload_n 3, 1) := by decide +kernel
theorem dL_law_824 : decode cL_law 824 = .ok (.iconst 1, 1) := by decide +kernel
theorem dL_law_825 : decode cL_law 825 = .ok (.iadd, 1) := by decide +kernel
theorem dL_law_826 : decode cL_law 826 = .ok (.iaload, 1) := by decide +kernel
theorem dL_law_827 : decode cL_law 827 = .ok (.invokevirtual 100, 3) := by decide +kernel
theorem dL_law_830 : decode cL_law 830 = .ok (.if_icmp .eq 5, 3) := by decide +kernel
theorem dL_law_833 : decode cL_law 833 = .ok (.iconst 0, 1) := by decide +kernel
theorem dL_law_834 : decode cL_law 834 = .ok (.ireturn, 1) := by decide +kernel
theorem dL_law_835 : decode cL_law 835 = .ok (.iinc 3 5, 3) := by decide +kernel
theorem dL_law_838 : decode cL_law 838 = .ok (.goto (-820), 3) := by decide +kernel
theorem dL_law_841 : decode cL_law 841 = .ok (.iconst 1, 1) := by decide +kernel
theorem dL_law_842 : decode cL_law 842 = .ok (.ireturn, 1) := by decide +kernel
theorem dX0_init_0 : decode cX0_init 0 = .ok (.aload_n 0, 1) := by decide +kernel
theorem dX0_init_1 : decode cX0_init 1 = .ok (.invokespecial 3, 3) := by decide +kernel
theorem dX0_init_4 : decode cX0_init 4 = .ok (.aload_n 0, 1) := by decide +kernel
theorem dX0_init_5 : decode cX0_init 5 = .ok (.bipush 40, 2) := by decide +kernel
theorem dX0_init_7 : decode cX0_init 7 = .ok (.newarray .int, 2) := by decide +kernel
theorem dX0_init_9 : decode cX0_init 9 = .ok (.putfield 9, 3) := by decide +kernel
theorem dX0_init_12 : decode cX0_init 12 = .ok (.aload_n 0, 1) := by decide +kernel
theorem dX0_init_13 : decode cX0_init 13 = .ok (.bipush (-6), 2) := by decide +kernel
theorem dX0_init_15 : decode cX0_init 15 = .ok (.putfield 15, 3) := by decide +kernel
theorem dX0_init_18 : decode cX0_init 18 = .ok (.return_, 1) := by decide +kernel
theorem dX0_begin_0 : decode cX0_begin 0 = .ok (.aload_n 0, 1) := by decide +kernel
theorem dX0_begin_1 : decode cX0_begin 1 = .ok (.iconst 0, 1) := by decide +kernel
theorem dX0_begin_2 : decode cX0_begin 2 = .ok (.putfield 19, 3) := by decide +kernel
theorem dX0_begin_5 : decode cX0_begin 5 = .ok (.aload_n 0, 1) := by decide +kernel
theorem dX0_begin_6 : decode cX0_begin 6 = .ok (.iconst 0, 1) := by decide +kernel
theorem dX0_begin_7 : decode cX0_begin 7 = .ok (.putfield 22, 3) := by decide +kernel
theorem dX0_begin_10 : decode cX0_begin 10 = .ok (.aload_n 0, 1) := by decide +kernel
theorem dX0_begin_11 : decode cX0_begin 11 = .ok (.iconst 0, 1) := by decide +kernel
theorem dX0_begin_12 : decode cX0_begin 12 = .ok (.putfield 25, 3) := by decide +kernel
theorem dX0_begin_15 : decode cX0_begin 15 = .ok (.aload_n 0, 1) := by decide +kernel
theorem dX0_begin_16 : decode cX0_begin 16 = .ok (.iconst 0, 1) := by decide +kernel
theorem dX0_begin_17 : decode cX0_begin 17 = .ok (.putfield 28, 3) := by decide +kernel
theorem dX0_begin_20 : decode cX0_begin 20 = .ok (.aload_n 0, 1) := by decide +kernel
theorem dX0_begin_21 : decode cX0_begin 21 = .ok (.iconst 0, 1) := by decide +kernel
theorem dX0_begin_22 : decode cX0_begin 22 = .ok (.putfield 31, 3) := by decide +kernel
theorem dX0_begin_25 : decode cX0_begin 25 = .ok (.aload_n 0, 1) := by decide +kernel
theorem dX0_begin_26 : decode cX0_begin 26 = .ok (.iconst 0, 1) := by decide +kernel
theorem dX0_begin_27 : decode cX0_begin 27 = .ok (.putfield 34, 3) := by decide +kernel
theorem dX0_begin_30 : decode cX0_begin 30 = .ok (.aload_n 0, 1) := by decide +kernel
theorem dX0_begin_31 : decode cX0_begin 31 = .ok (.iconst 0, 1) := by decide +kernel
theorem dX0_begin_32 : decode cX0_begin 32 = .ok (.putfield 37, 3) := by decide +kernel
theorem dX0_begin_35 : decode cX0_begin 35 = .ok (.aload_n 0, 1) := by decide +kernel
theorem dX0_begin_36 : decode cX0_begin 36 = .ok (.iconst 0, 1) := by decide +kernel
theorem dX0_begin_37 : decode cX0_begin 37 = .ok (.putfield 40, 3) := by decide +kernel
theorem dX0_begin_40 : decode cX0_begin 40 = .ok (.aload_n 0, 1) := by decide +kernel
theorem dX0_begin_41 : decode cX0_begin 41 = .ok (.bipush (-6), 2) := by decide +kernel
theorem dX0_begin_43 : decode cX0_begin 43 = .ok (.putfield 15, 3) := by decide +kernel
theorem dX0_begin_46 : decode cX0_begin 46 = .ok (.return_, 1) := by decide +kernel
theorem dX0_sleeps_0 : decode cX0_sleeps 0 = .ok (.aload_n 0, 1) := by decide +kernel
theorem dX0_sleeps_1 : decode cX0_sleeps 1 = .ok (.getfield 34, 3) := by decide +kernel
theorem dX0_sleeps_4 : decode cX0_sleeps 4 = .ok (.ifCond .le 14, 3) := by decide +kernel
theorem dX0_sleeps_7 : decode cX0_sleeps 7 = .ok (.aload_n 0, 1) := by decide +kernel
theorem dX0_sleeps_8 : decode cX0_sleeps 8 = .ok (.getfield 37, 3) := by decide +kernel
theorem dX0_sleeps_11 : decode cX0_sleeps 11 = .ok (.ifCond .le 7, 3) := by decide +kernel
theorem dX0_sleeps_14 : decode cX0_sleeps 14 = .ok (.iconst 1, 1) := by decide +kernel
theorem dX0_sleeps_15 : decode cX0_sleeps 15 = .ok (.goto 4, 3) := by decide +kernel
theorem dX0_sleeps_18 : decode cX0_sleeps 18 = .ok (.iconst 0, 1) := by decide +kernel
theorem dX0_sleeps_19 : decode cX0_sleeps 19 = .ok (.ireturn, 1) := by decide +kernel
theorem dX0_becomeBusy_0 : decode cX0_becomeBusy 0 = .ok (.aload_n 0, 1) := by decide +kernel
theorem dX0_becomeBusy_1 : decode cX0_becomeBusy 1 = .ok (.getfield 34, 3) := by decide +kernel
theorem dX0_becomeBusy_4 : decode cX0_becomeBusy 4 = .ok (.ifCond .le 44, 3) := by decide +kernel
theorem dX0_becomeBusy_7 : decode cX0_becomeBusy 7 = .ok (.aload_n 0, 1) := by decide +kernel
theorem dX0_becomeBusy_8 : decode cX0_becomeBusy 8 = .ok (.getfield 40, 3) := by decide +kernel
theorem dX0_becomeBusy_11 : decode cX0_becomeBusy 11 = .ok (.bipush 40, 2) := by decide +kernel
theorem dX0_becomeBusy_13 : decode cX0_becomeBusy 13 = .ok (.if_icmp .ge 35, 3) := by decide +kernel
theorem dX0_becomeBusy_16 : decode cX0_becomeBusy 16 = .ok (.aload_n 0, 1) := by decide +kernel
theorem dX0_becomeBusy_17 : decode cX0_becomeBusy 17 = .ok (.getfield 9, 3) := by decide +kernel
theorem dX0_becomeBusy_20 : decode cX0_becomeBusy 20 = .ok (.aload_n 0, 1) := by decide +kernel
theorem dX0_becomeBusy_21 : decode cX0_becomeBusy 21 = .ok (.getfield 40, 3) := by decide +kernel
theorem dX0_becomeBusy_24 : decode cX0_becomeBusy 24 = .ok (.aload_n 0, 1) := by decide +kernel
theorem dX0_becomeBusy_25 : decode cX0_becomeBusy 25 = .ok (.getfield 34, 3) := by decide +kernel
theorem dX0_becomeBusy_28 : decode cX0_becomeBusy 28 = .ok (.iastore, 1) := by decide +kernel
theorem dX0_becomeBusy_29 : decode cX0_becomeBusy 29 = .ok (.aload_n 0, 1) := by decide +kernel
theorem dX0_becomeBusy_30 : decode cX0_becomeBusy 30 = .ok (.dup, 1) := by decide +kernel
theorem dX0_becomeBusy_31 : decode cX0_becomeBusy 31 = .ok (.getfield 40, 3) := by decide +kernel
theorem dX0_becomeBusy_34 : decode cX0_becomeBusy 34 = .ok (.iconst 1, 1) := by decide +kernel
theorem dX0_becomeBusy_35 : decode cX0_becomeBusy 35 = .ok (.iadd, 1) := by decide +kernel
theorem dX0_becomeBusy_36 : decode cX0_becomeBusy 36 = .ok (.putfield 40, 3) := by decide +kernel
theorem dX0_becomeBusy_39 : decode cX0_becomeBusy 39 = .ok (.aload_n 0, 1) := by decide +kernel
theorem dX0_becomeBusy_40 : decode cX0_becomeBusy 40 = .ok (.aload_n 0, 1) := by decide +kernel
theorem dX0_becomeBusy_41 : decode cX0_becomeBusy 41 = .ok (.iload_n 1, 1) := by decide +kernel
theorem dX0_becomeBusy_42 : decode cX0_becomeBusy 42 = .ok (.invokevirtual 43, 3) := by decide +kernel
theorem dX0_becomeBusy_45 : decode cX0_becomeBusy 45 = .ok (.putfield 15, 3) := by decide +kernel
theorem dX0_becomeBusy_48 : decode cX0_becomeBusy 48 = .ok (.aload_n 0, 1) := by decide +kernel
theorem dX0_becomeBusy_49 : decode cX0_becomeBusy 49 = .ok (.iconst 0, 1) := by decide +kernel
theorem dX0_becomeBusy_50 : decode cX0_becomeBusy 50 = .ok (.putfield 34, 3) := by decide +kernel
theorem dX0_becomeBusy_53 : decode cX0_becomeBusy 53 = .ok (.return_, 1) := by decide +kernel
theorem dX0_meanOfLast_0 : decode cX0_meanOfLast 0 = .ok (.iload_n 1, 1) := by decide +kernel
theorem dX0_meanOfLast_1 : decode cX0_meanOfLast 1 = .ok (.aload_n 0, 1) := by decide +kernel
theorem dX0_meanOfLast_2 : decode cX0_meanOfLast 2 = .ok (.getfield 40, 3) := by decide +kernel
theorem dX0_meanOfLast_5 : decode cX0_meanOfLast 5 = .ok (.if_icmp .ge 7, 3) := by decide +kernel
theorem dX0_meanOfLast_8 : decode cX0_meanOfLast 8 = .ok (.iload_n 1, 1) := by decide +kernel
theorem dX0_meanOfLast_9 : decode cX0_meanOfLast 9 = .ok (.goto 7, 3) := by decide +kernel
theorem dX0_meanOfLast_12 : decode cX0_meanOfLast 12 = .ok (.aload_n 0, 1) := by decide +kernel
theorem dX0_meanOfLast_13 : decode cX0_meanOfLast 13 = .ok (.getfield 40, 3) := by decide +kernel
theorem dX0_meanOfLast_16 : decode cX0_meanOfLast 16 = .ok (.istore_n 2, 1) := by decide +kernel
theorem dX0_meanOfLast_17 : decode cX0_meanOfLast 17 = .ok (.iconst 0, 1) := by decide +kernel
theorem dX0_meanOfLast_18 : decode cX0_meanOfLast 18 = .ok (.istore_n 3, 1) := by decide +kernel
theorem dX0_meanOfLast_19 : decode cX0_meanOfLast 19 = .ok (.aload_n 0, 1) := by decide +kernel
theorem dX0_meanOfLast_20 : decode cX0_meanOfLast 20 = .ok (.getfield 40, 3) := by decide +kernel
theorem dX0_meanOfLast_23 : decode cX0_meanOfLast 23 = .ok (.iload_n 2, 1) := by decide +kernel
theorem dX0_meanOfLast_24 : decode cX0_meanOfLast 24 = .ok (.isub, 1) := by decide +kernel
theorem dX0_meanOfLast_25 : decode cX0_meanOfLast 25 = .ok (.istore 4, 2) := by decide +kernel
theorem dX0_meanOfLast_27 : decode cX0_meanOfLast 27 = .ok (.iload 4, 2) := by decide +kernel
theorem dX0_meanOfLast_29 : decode cX0_meanOfLast 29 = .ok (.aload_n 0, 1) := by decide +kernel
theorem dX0_meanOfLast_30 : decode cX0_meanOfLast 30 = .ok (.getfield 40, 3) := by decide +kernel
theorem dX0_meanOfLast_33 : decode cX0_meanOfLast 33 = .ok (.if_icmp .ge 19, 3) := by decide +kernel
theorem dX0_meanOfLast_36 : decode cX0_meanOfLast 36 = .ok (.iload_n 3, 1) := by decide +kernel
theorem dX0_meanOfLast_37 : decode cX0_meanOfLast 37 = .ok (.aload_n 0, 1) := by decide +kernel
theorem dX0_meanOfLast_38 : decode cX0_meanOfLast 38 = .ok (.getfield 9, 3) := by decide +kernel
theorem dX0_meanOfLast_41 : decode cX0_meanOfLast 41 = .ok (.iload 4, 2) := by decide +kernel
theorem dX0_meanOfLast_43 : decode cX0_meanOfLast 43 = .ok (.iaload, 1) := by decide +kernel
theorem dX0_meanOfLast_44 : decode cX0_meanOfLast 44 = .ok (.iadd, 1) := by decide +kernel
theorem dX0_meanOfLast_45 : decode cX0_meanOfLast 45 = .ok (.istore_n 3, 1) := by decide +kernel
theorem dX0_meanOfLast_46 : decode cX0_meanOfLast 46 = .ok (.iinc 4 1, 3) := by decide +kernel
theorem dX0_meanOfLast_49 : decode cX0_meanOfLast 49 = .ok (.goto (-22), 3) := by decide +kernel
theorem dX0_meanOfLast_52 : decode cX0_meanOfLast 52 = .ok (.iload_n 2, 1) := by decide +kernel
theorem dX0_meanOfLast_53 : decode cX0_meanOfLast 53 = .ok (.ifCond .le 9, 3) := by decide +kernel
theorem dX0_meanOfLast_56 : decode cX0_meanOfLast 56 = .ok (.iload_n 3, 1) := by decide +kernel
theorem dX0_meanOfLast_57 : decode cX0_meanOfLast 57 = .ok (.iload_n 2, 1) := by decide +kernel
theorem dX0_meanOfLast_58 : decode cX0_meanOfLast 58 = .ok (.idiv, 1) := by decide +kernel
theorem dX0_meanOfLast_59 : decode cX0_meanOfLast 59 = .ok (.goto 5, 3) := by decide +kernel
theorem dX0_meanOfLast_62 : decode cX0_meanOfLast 62 = .ok (.bipush (-6), 2) := by decide +kernel
theorem dX0_meanOfLast_64 : decode cX0_meanOfLast 64 = .ok (.ireturn, 1) := by decide +kernel
theorem dX0_passTick_0 : decode cX0_passTick 0 = .ok (.aload_n 0, 1) := by decide +kernel
theorem dX0_passTick_1 : decode cX0_passTick 1 = .ok (.aload_n 1, 1) := by decide +kernel
theorem dX0_passTick_2 : decode cX0_passTick 2 = .ok (.aload_n 0, 1) := by decide +kernel
theorem dX0_passTick_3 : decode cX0_passTick 3 = .ok (.getfield 34, 3) := by decide +kernel
theorem dX0_passTick_6 : decode cX0_passTick 6 = .ok (.aload_n 0, 1) := by decide +kernel
theorem dX0_passTick_7 : decode cX0_passTick 7 = .ok (.getfield 15, 3) := by decide +kernel
theorem dX0_passTick_10 : decode cX0_passTick 10 = .ok (.invokevirtual 47, 3) := by decide +kernel
theorem dX0_passTick_13 : decode cX0_passTick 13 = .ok (.putfield 37, 3) := by decide +kernel
theorem dX0_passTick_16 : decode cX0_passTick 16 = .ok (.aload_n 0, 1) := by decide +kernel
theorem dX0_passTick_17 : decode cX0_passTick 17 = .ok (.dup, 1) := by decide +kernel
theorem dX0_passTick_18 : decode cX0_passTick 18 = .ok (.getfield 19, 3) := by decide +kernel
theorem dX0_passTick_21 : decode cX0_passTick 21 = .ok (.aload_n 1, 1) := by decide +kernel
theorem dX0_passTick_22 : decode cX0_passTick 22 = .ok (.getfield 53, 3) := by decide +kernel
theorem dX0_passTick_25 : decode cX0_passTick 25 = .ok (.aload_n 0, 1) := by decide +kernel
theorem dX0_passTick_26 : decode cX0_passTick 26 = .ok (.getfield 37, 3) := by decide +kernel
theorem dX0_passTick_29 : decode cX0_passTick 29 = .ok (.iaload, 1) := by decide +kernel
theorem dX0_passTick_30 : decode cX0_passTick 30 = .ok (.iadd, 1) := by decide +kernel
theorem dX0_passTick_31 : decode cX0_passTick 31 = .ok (.putfield 19, 3) := by decide +kernel
theorem dX0_passTick_34 : decode cX0_passTick 34 = .ok (.aload_n 0, 1) := by decide +kernel
theorem dX0_passTick_35 : decode cX0_passTick 35 = .ok (.dup, 1) := by decide +kernel
theorem dX0_passTick_36 : decode cX0_passTick 36 = .ok (.getfield 34, 3) := by decide +kernel
theorem dX0_passTick_39 : decode cX0_passTick 39 = .ok (.iconst 1, 1) := by decide +kernel
theorem dX0_passTick_40 : decode cX0_passTick 40 = .ok (.iadd, 1) := by decide +kernel
theorem dX0_passTick_41 : decode cX0_passTick 41 = .ok (.putfield 34, 3) := by decide +kernel
theorem dX0_passTick_44 : decode cX0_passTick 44 = .ok (.return_, 1) := by decide +kernel
theorem dX1_init_0 : decode cX1_init 0 = .ok (.aload_n 0, 1) := by decide +kernel
theorem dX1_init_1 : decode cX1_init 1 = .ok (.invokespecial 3, 3) := by decide +kernel
theorem dX1_init_4 : decode cX1_init 4 = .ok (.aload_n 0, 1) := by decide +kernel
theorem dX1_init_5 : decode cX1_init 5 = .ok (.iconst 4, 1) := by decide +kernel
theorem dX1_init_6 : decode cX1_init 6 = .ok (.newarray .int, 2) := by decide +kernel
theorem dX1_init_8 : decode cX1_init 8 = .ok (.putfield 9, 3) := by decide +kernel
theorem dX1_init_11 : decode cX1_init 11 = .ok (.aload_n 0, 1) := by decide +kernel
theorem dX1_init_12 : decode cX1_init 12 = .ok (.iconst 4, 1) := by decide +kernel
theorem dX1_init_13 : decode cX1_init 13 = .ok (.newarray .int, 2) := by decide +kernel
theorem dX1_init_15 : decode cX1_init 15 = .ok (.putfield 15, 3) := by decide +kernel
theorem dX1_init_18 : decode cX1_init 18 = .ok (.aload_n 0, 1) := by decide +kernel
theorem dX1_init_19 : decode cX1_init 19 = .ok (.getfield 9, 3) := by decide +kernel
theorem dX1_init_22 : decode cX1_init 22 = .ok (.iconst 0, 1) := by decide +kernel
theorem dX1_init_23 : decode cX1_init 23 = .ok (.bipush 10, 2) := by decide +kernel
theorem dX1_init_25 : decode cX1_init 25 = .ok (.iastore, 1) := by decide +kernel
theorem dX1_init_26 : decode cX1_init 26 = .ok (.return_, 1) := by decide +kernel
theorem dX1_copyFrom_0 : decode cX1_copyFrom 0 = .ok (.aload_n 1, 1) := by decide +kernel
theorem dX1_copyFrom_1 : decode cX1_copyFrom 1 = .ok (.getfield 9, 3) := by decide +kernel
theorem dX1_copyFrom_4 : decode cX1_copyFrom 4 = .ok (.iconst 0, 1) := by decide +kernel
theorem dX1_copyFrom_5 : decode cX1_copyFrom 5 = .ok (.aload_n 0, 1) := by decide +kernel
theorem dX1_copyFrom_6 : decode cX1_copyFrom 6 = .ok (.getfield 9, 3) := by decide +kernel
theorem dX1_copyFrom_9 : decode cX1_copyFrom 9 = .ok (.iconst 0, 1) := by decide +kernel
theorem dX1_copyFrom_10 : decode cX1_copyFrom 10 = .ok (.iconst 4, 1) := by decide +kernel
theorem dX1_copyFrom_11 : decode cX1_copyFrom 11 = .ok (.invokestatic 18, 3) := by decide +kernel
theorem dX1_copyFrom_14 : decode cX1_copyFrom 14 = .ok (.aload_n 1, 1) := by decide +kernel
theorem dX1_copyFrom_15 : decode cX1_copyFrom 15 = .ok (.getfield 15, 3) := by decide +kernel
theorem dX1_copyFrom_18 : decode cX1_copyFrom 18 = .ok (.iconst 0, 1) := by decide +kernel
theorem dX1_copyFrom_19 : decode cX1_copyFrom 19 = .ok (.aload_n 0, 1) := by decide +kernel
theorem dX1_copyFrom_20 : decode cX1_copyFrom 20 = .ok (.getfield 15, 3) := by decide +kernel
theorem dX1_copyFrom_23 : decode cX1_copyFrom 23 = .ok (.iconst 0, 1) := by decide +kernel
theorem dX1_copyFrom_24 : decode cX1_copyFrom 24 = .ok (.iconst 4, 1) := by decide +kernel
theorem dX1_copyFrom_25 : decode cX1_copyFrom 25 = .ok (.invokestatic 18, 3) := by decide +kernel
theorem dX1_copyFrom_28 : decode cX1_copyFrom 28 = .ok (.aload_n 0, 1) := by decide +kernel
theorem dX1_copyFrom_29 : decode cX1_copyFrom 29 = .ok (.aload_n 1, 1) := by decide +kernel
theorem dX1_copyFrom_30 : decode cX1_copyFrom 30 = .ok (.getfield 24, 3) := by decide +kernel
theorem dX1_copyFrom_33 : decode cX1_copyFrom 33 = .ok (.putfield 24, 3) := by decide +kernel
theorem dX1_copyFrom_36 : decode cX1_copyFrom 36 = .ok (.aload_n 0, 1) := by decide +kernel
theorem dX1_copyFrom_37 : decode cX1_copyFrom 37 = .ok (.aload_n 1, 1) := by decide +kernel
theorem dX1_copyFrom_38 : decode cX1_copyFrom 38 = .ok (.getfield 28, 3) := by decide +kernel
theorem dX1_copyFrom_41 : decode cX1_copyFrom 41 = .ok (.putfield 28, 3) := by decide +kernel
theorem dX1_copyFrom_44 : decode cX1_copyFrom 44 = .ok (.aload_n 0, 1) := by decide +kernel
theorem dX1_copyFrom_45 : decode cX1_copyFrom 45 = .ok (.aload_n 1, 1) := by decide +kernel
theorem dX1_copyFrom_46 : decode cX1_copyFrom 46 = .ok (.getfield 31, 3) := by decide +kernel
theorem dX1_copyFrom_49 : decode cX1_copyFrom 49 = .ok (.putfield 31, 3) := by decide +kernel
theorem dX1_copyFrom_52 : decode cX1_copyFrom 52 = .ok (.return_, 1) := by decide +kernel
theorem dX1_hasLevel_0 : decode cX1_hasLevel 0 = .ok (.iload_n 1, 1) := by decide +kernel
theorem dX1_hasLevel_1 : decode cX1_hasLevel 1 = .ok (.iconst 0, 1) := by decide +kernel
theorem dX1_hasLevel_2 : decode cX1_hasLevel 2 = .ok (.aload_n 0, 1) := by decide +kernel
theorem dX1_hasLevel_3 : decode cX1_hasLevel 3 = .ok (.getfield 24, 3) := by decide +kernel
theorem dX1_hasLevel_6 : decode cX1_hasLevel 6 = .ok (.invokestatic 34, 3) := by decide +kernel
theorem dX1_hasLevel_9 : decode cX1_hasLevel 9 = .ok (.ireturn, 1) := by decide +kernel
theorem dX1_addLevel_0 : decode cX1_addLevel 0 = .ok (.aload_n 0, 1) := by decide +kernel
theorem dX1_addLevel_1 : decode cX1_addLevel 1 = .ok (.dup, 1) := by decide +kernel
theorem dX1_addLevel_2 : decode cX1_addLevel 2 = .ok (.getfield 24, 3) := by decide +kernel
theorem dX1_addLevel_5 : decode cX1_addLevel 5 = .ok (.iconst 1, 1) := by decide +kernel
theorem dX1_addLevel_6 : decode cX1_addLevel 6 = .ok (.iadd, 1) := by decide +kernel
theorem dX1_addLevel_7 : decode cX1_addLevel 7 = .ok (.putfield 24, 3) := by decide +kernel
theorem dX1_addLevel_10 : decode cX1_addLevel 10 = .ok (.aload_n 0, 1) := by decide +kernel
theorem dX1_addLevel_11 : decode cX1_addLevel 11 = .ok (.getfield 9, 3) := by decide +kernel
theorem dX1_addLevel_14 : decode cX1_addLevel 14 = .ok (.aload_n 0, 1) := by decide +kernel
theorem dX1_addLevel_15 : decode cX1_addLevel 15 = .ok (.getfield 24, 3) := by decide +kernel
theorem dX1_addLevel_18 : decode cX1_addLevel 18 = .ok (.iload_n 1, 1) := by decide +kernel
theorem dX1_addLevel_19 : decode cX1_addLevel 19 = .ok (.iastore, 1) := by decide +kernel
theorem dX1_addLevel_20 : decode cX1_addLevel 20 = .ok (.aload_n 0, 1) := by decide +kernel
theorem dX1_addLevel_21 : decode cX1_addLevel 21 = .ok (.getfield 15, 3) := by decide +kernel
theorem dX1_addLevel_24 : decode cX1_addLevel 24 = .ok (.aload_n 0, 1) := by decide +kernel
theorem dX1_addLevel_25 : decode cX1_addLevel 25 = .ok (.getfield 24, 3) := by decide +kernel
theorem dX1_addLevel_28 : decode cX1_addLevel 28 = .ok (.iload_n 2, 1) := by decide +kernel
theorem dX1_addLevel_29 : decode cX1_addLevel 29 = .ok (.iastore, 1) := by decide +kernel
theorem dX1_addLevel_30 : decode cX1_addLevel 30 = .ok (.return_, 1) := by decide +kernel
theorem dX1_restsForGuess_0 : decode cX1_restsForGuess 0 = .ok (.aload_n 0, 1) := by decide +kernel
theorem dX1_restsForGuess_1 : decode cX1_restsForGuess 1 = .ok (.getfield 28, 3) := by decide +kernel
theorem dX1_restsForGuess_4 : decode cX1_restsForGuess 4 = .ok (.iconst 3, 1) := by decide +kernel
theorem dX1_restsForGuess_5 : decode cX1_restsForGuess 5 = .ok (.if_icmp .ne 10, 3) := by decide +kernel
theorem dX1_restsForGuess_8 : decode cX1_restsForGuess 8 = .ok (.aload_n 0, 1) := by decide +kernel
theorem dX1_restsForGuess_9 : decode cX1_restsForGuess 9 = .ok (.getfield 31, 3) := by decide +kernel
theorem dX1_restsForGuess_12 : decode cX1_restsForGuess 12 = .ok (.goto 4, 3) := by decide +kernel
theorem dX1_restsForGuess_15 : decode cX1_restsForGuess 15 = .ok (.iconst 4, 1) := by decide +kernel
theorem dX1_restsForGuess_16 : decode cX1_restsForGuess 16 = .ok (.ireturn, 1) := by decide +kernel
theorem dX1_levelFor_0 : decode cX1_levelFor 0 = .ok (.aload_n 0, 1) := by decide +kernel
theorem dX1_levelFor_1 : decode cX1_levelFor 1 = .ok (.getfield 28, 3) := by decide +kernel
theorem dX1_levelFor_4 : decode cX1_levelFor 4 = .ok (.tableswitch 68 1 3 #[28, 46, 52], 28) := by decide +kernel
theorem dX1_levelFor_32 : decode cX1_levelFor 32 = .ok (.iload_n 1, 1) := by decide +kernel
theorem dX1_levelFor_33 : decode cX1_levelFor 33 = .ok (.iconst 1, 1) := by decide +kernel
theorem dX1_levelFor_34 : decode cX1_levelFor 34 = .ok (.aload_n 0, 1) := by decide +kernel
theorem dX1_levelFor_35 : decode cX1_levelFor 35 = .ok (.getfield 31, 3) := by decide +kernel
theorem dX1_levelFor_38 : decode cX1_levelFor 38 = .ok (.invokestatic 38, 3) := by decide +kernel
theorem dX1_levelFor_41 : decode cX1_levelFor 41 = .ok (.idiv, 1) := by decide +kernel
theorem dX1_levelFor_42 : decode cX1_levelFor 42 = .ok (.aload_n 0, 1) := by decide +kernel
theorem dX1_levelFor_43 : decode cX1_levelFor 43 = .ok (.getfield 24, 3) := by decide +kernel
theorem dX1_levelFor_46 : decode cX1_levelFor 46 = .ok (.invokestatic 44, 3) := by decide +kernel
theorem dX1_levelFor_49 : decode cX1_levelFor 49 = .ok (.ireturn, 1) := by decide +kernel
theorem dX1_levelFor_50 : decode cX1_levelFor 50 = .ok (.aload_n 0, 1) := by decide +kernel
theorem dX1_levelFor_51 : decode cX1_levelFor 51 = .ok (.iload_n 1, 1) := by decide +kernel
theorem dX1_levelFor_52 : decode cX1_levelFor 52 = .ok (.invokevirtual 47, 3) := by decide +kernel
theorem dX1_levelFor_55 : decode cX1_levelFor 55 = .ok (.ireturn, 1) := by decide +kernel
theorem dX1_levelFor_56 : decode cX1_levelFor 56 = .ok (.iload_n 2, 1) := by decide +kernel
theorem dX1_levelFor_57 : decode cX1_levelFor 57 = .ok (.bipush (-6), 2) := by decide +kernel
theorem dX1_levelFor_59 : decode cX1_levelFor 59 = .ok (.if_icmp .ne 7, 3) := by decide +kernel
theorem dX1_levelFor_62 : decode cX1_levelFor 62 = .ok (.iconst 0, 1) := by decide +kernel
theorem dX1_levelFor_63 : decode cX1_levelFor 63 = .ok (.goto 8, 3) := by decide +kernel
theorem dX1_levelFor_66 : decode cX1_levelFor 66 = .ok (.aload_n 0, 1) := by decide +kernel
theorem dX1_levelFor_67 : decode cX1_levelFor 67 = .ok (.iload_n 2, 1) := by decide +kernel
theorem dX1_levelFor_68 : decode cX1_levelFor 68 = .ok (.invokevirtual 47, 3) := by decide +kernel
theorem dX1_levelFor_71 : decode cX1_levelFor 71 = .ok (.ireturn, 1) := by decide +kernel
theorem dX1_levelFor_72 : decode cX1_levelFor 72 = .ok (.iconst 0, 1) := by decide +kernel
theorem dX1_levelFor_73 : decode cX1_levelFor 73 = .ok (.ireturn, 1) := by decide +kernel
theorem dX1_cheapestLevel_0 : decode cX1_cheapestLevel 0 = .ok (.iconst 0, 1) := by decide +kernel
theorem dX1_cheapestLevel_1 : decode cX1_cheapestLevel 1 = .ok (.istore_n 2, 1) := by decide +kernel
theorem dX1_cheapestLevel_2 : decode cX1_cheapestLevel 2 = .ok (.iconst 1, 1) := by decide +kernel
theorem dX1_cheapestLevel_3 : decode cX1_cheapestLevel 3 = .ok (.istore_n 3, 1) := by decide +kernel
theorem dX1_cheapestLevel_4 : decode cX1_cheapestLevel 4 = .ok (.iload_n 3, 1) := by decide +kernel
theorem dX1_cheapestLevel_5 : decode cX1_cheapestLevel 5 = .ok (.aload_n 0, 1) := by decide +kernel
theorem dX1_cheapestLevel_6 : decode cX1_cheapestLevel 6 = .ok (.getfield 24, 3) := by decide +kernel
theorem dX1_cheapestLevel_9 : decode cX1_cheapestLevel 9 = .ok (.if_icmp .gt 26, 3) := by decide +kernel
theorem dX1_cheapestLevel_12 : decode cX1_cheapestLevel 12 = .ok (.aload_n 0, 1) := by decide +kernel
theorem dX1_cheapestLevel_13 : decode cX1_cheapestLevel 13 = .ok (.iload_n 3, 1) := by decide +kernel
theorem dX1_cheapestLevel_14 : decode cX1_cheapestLevel 14 = .ok (.iload_n 1, 1) := by decide +kernel
theorem dX1_cheapestLevel_15 : decode cX1_cheapestLevel 15 = .ok (.invokevirtual 51, 3) := by decide +kernel
theorem dX1_cheapestLevel_18 : decode cX1_cheapestLevel 18 = .ok (.aload_n 0, 1) := by decide +kernel
theorem dX1_cheapestLevel_19 : decode cX1_cheapestLevel 19 = .ok (.iload_n 2, 1) := by decide +kernel
theorem dX1_cheapestLevel_20 : decode cX1_cheapestLevel 20 = .ok (.iload_n 1, 1) := by decide +kernel
theorem dX1_cheapestLevel_21 : decode cX1_cheapestLevel 21 = .ok (.invokevirtual 51, 3) := by decide +kernel
theorem dX1_cheapestLevel_24 : decode cX1_cheapestLevel 24 = .ok (.if_icmp .ge 5, 3) := by decide +kernel
theorem dX1_cheapestLevel_27 : decode cX1_cheapestLevel 27 = .ok (.iload_n 3, 1) := by decide +kernel
theorem dX1_cheapestLevel_28 : decode cX1_cheapestLevel 28 = .ok (.istore_n 2, 1) := by decide +kernel
theorem dX1_cheapestLevel_29 : decode cX1_cheapestLevel 29 = .ok (.iinc 3 1, 3) := by decide +kernel
theorem dX1_cheapestLevel_32 : decode cX1_cheapestLevel 32 = .ok (.goto (-28), 3) := by decide +kernel
theorem dX1_cheapestLevel_35 : decode cX1_cheapestLevel 35 = .ok (.iload_n 2, 1) := by decide +kernel
theorem dX1_cheapestLevel_36 : decode cX1_cheapestLevel 36 = .ok (.ireturn, 1) := by decide +kernel
theorem dX1_levelCost_0 : decode cX1_levelCost 0 = .ok (.aload_n 0, 1) := by decide +kernel
theorem dX1_levelCost_1 : decode cX1_levelCost 1 = .ok (.getfield 9, 3) := by decide +kernel
theorem dX1_levelCost_4 : decode cX1_levelCost 4 = .ok (.iload_n 1, 1) := by decide +kernel
theorem dX1_levelCost_5 : decode cX1_levelCost 5 = .ok (.iaload, 1) := by decide +kernel
theorem dX1_levelCost_6 : decode cX1_levelCost 6 = .ok (.iload_n 2, 1) := by decide +kernel
theorem dX1_levelCost_7 : decode cX1_levelCost 7 = .ok (.imul, 1) := by decide +kernel
theorem dX1_levelCost_8 : decode cX1_levelCost 8 = .ok (.aload_n 0, 1) := by decide +kernel
theorem dX1_levelCost_9 : decode cX1_levelCost 9 = .ok (.getfield 15, 3) := by decide +kernel
theorem dX1_levelCost_12 : decode cX1_levelCost 12 = .ok (.iload_n 1, 1) := by decide +kernel
theorem dX1_levelCost_13 : decode cX1_levelCost 13 = .ok (.iaload, 1) := by decide +kernel
theorem dX1_levelCost_14 : decode cX1_levelCost 14 = .ok (.iadd, 1) := by decide +kernel
theorem dX1_levelCost_15 : decode cX1_levelCost 15 = .ok (.ireturn, 1) := by decide +kernel
theorem dX1_leastCost_0 : decode cX1_leastCost 0 = .ok (.aload_n 0, 1) := by decide +kernel
theorem dX1_leastCost_1 : decode cX1_leastCost 1 = .ok (.aload_n 0, 1) := by decide +kernel
theorem dX1_leastCost_2 : decode cX1_leastCost 2 = .ok (.iload_n 1, 1) := by decide +kernel
theorem dX1_leastCost_3 : decode cX1_leastCost 3 = .ok (.invokevirtual 47, 3) := by decide +kernel
theorem dX1_leastCost_6 : decode cX1_leastCost 6 = .ok (.iload_n 1, 1) := by decide +kernel
theorem dX1_leastCost_7 : decode cX1_leastCost 7 = .ok (.invokevirtual 51, 3) := by decide +kernel
theorem dX1_leastCost_10 : decode cX1_leastCost 10 = .ok (.ireturn, 1) := by decide +kernel
theorem dX1_leastCostToEnd_0 : decode cX1_leastCostToEnd 0 = .ok (.aload_n 0, 1) := by decide +kernel
theorem dX1_leastCostToEnd_1 : decode cX1_leastCostToEnd 1 = .ok (.getfield 9, 3) := by decide +kernel
theorem dX1_leastCostToEnd_4 : decode cX1_leastCostToEnd 4 = .ok (.aload_n 0, 1) := by decide +kernel
theorem dX1_leastCostToEnd_5 : decode cX1_leastCostToEnd 5 = .ok (.getfield 24, 3) := by decide +kernel
theorem dX1_leastCostToEnd_8 : decode cX1_leastCostToEnd 8 = .ok (.iaload, 1) := by decide +kernel
theorem dX1_leastCostToEnd_9 : decode cX1_leastCostToEnd 9 = .ok (.iload_n 1, 1) := by decide +kernel
theorem dX1_leastCostToEnd_10 : decode cX1_leastCostToEnd 10 = .ok (.imul, 1) := by decide +kernel
theorem dX1_leastCostToEnd_11 : decode cX1_leastCostToEnd 11 = .ok (.ireturn, 1) := by decide +kernel
theorem dX1_costByPolicy_0 : decode cX1_costByPolicy 0 = .ok (.iconst 0, 1) := by decide +kernel
end
section
theorem dX1_costByPolicy_1 : decode cX1_costByPolicy 1 = .ok (.istore_n 2, 1) := by decide +kernel
theorem dX1_costByPolicy_2 : decode cX1_costByPolicy 2 = .ok (.iconst 0, 1) := by decide +kernel
theorem dX1_costByPolicy_3 : decode cX1_costByPolicy 3 = .ok (.istore_n 3, 1) := by decide +kernel
theorem dX1_costByPolicy_4 : decode cX1_costByPolicy 4 = .ok (.iconst 0, 1) := by decide +kernel
theorem dX1_costByPolicy_5 : decode cX1_costByPolicy 5 = .ok (.istore 4, 2) := by decide +kernel
theorem dX1_costByPolicy_7 : decode cX1_costByPolicy 7 = .ok (.iload 4, 2) := by decide +kernel
theorem dX1_costByPolicy_9 : decode cX1_costByPolicy 9 = .ok (.iload_n 1, 1) := by decide +kernel
theorem dX1_costByPolicy_10 : decode cX1_costByPolicy 10 = .ok (.if_icmp .ge 27, 3) := by decide +kernel
theorem dX1_costByPolicy_13 : decode cX1_costByPolicy 13 = .ok (.aload_n 0, 1) := by decide +kernel
theorem dX1_costByPolicy_14 : decode cX1_costByPolicy 14 = .ok (.iload 4, 2) := by decide +kernel
theorem dX1_costByPolicy_16 : decode cX1_costByPolicy 16 = .ok (.bipush (-6), 2) := by decide +kernel
theorem dX1_costByPolicy_18 : decode cX1_costByPolicy 18 = .ok (.invokevirtual 54, 3) := by decide +kernel
theorem dX1_costByPolicy_21 : decode cX1_costByPolicy 21 = .ok (.istore_n 3, 1) := by decide +kernel
theorem dX1_costByPolicy_22 : decode cX1_costByPolicy 22 = .ok (.iload_n 2, 1) := by decide +kernel
theorem dX1_costByPolicy_23 : decode cX1_costByPolicy 23 = .ok (.aload_n 0, 1) := by decide +kernel
theorem dX1_costByPolicy_24 : decode cX1_costByPolicy 24 = .ok (.getfield 9, 3) := by decide +kernel
theorem dX1_costByPolicy_27 : decode cX1_costByPolicy 27 = .ok (.iload_n 3, 1) := by decide +kernel
theorem dX1_costByPolicy_28 : decode cX1_costByPolicy 28 = .ok (.iaload, 1) := by decide +kernel
theorem dX1_costByPolicy_29 : decode cX1_costByPolicy 29 = .ok (.iadd, 1) := by decide +kernel
theorem dX1_costByPolicy_30 : decode cX1_costByPolicy 30 = .ok (.istore_n 2, 1) := by decide +kernel
theorem dX1_costByPolicy_31 : decode cX1_costByPolicy 31 = .ok (.iinc 4 1, 3) := by decide +kernel
theorem dX1_costByPolicy_34 : decode cX1_costByPolicy 34 = .ok (.goto (-27), 3) := by decide +kernel
theorem dX1_costByPolicy_37 : decode cX1_costByPolicy 37 = .ok (.iload_n 2, 1) := by decide +kernel
theorem dX1_costByPolicy_38 : decode cX1_costByPolicy 38 = .ok (.aload_n 0, 1) := by decide +kernel
theorem dX1_costByPolicy_39 : decode cX1_costByPolicy 39 = .ok (.getfield 15, 3) := by decide +kernel
theorem dX1_costByPolicy_42 : decode cX1_costByPolicy 42 = .ok (.iload_n 3, 1) := by decide +kernel
theorem dX1_costByPolicy_43 : decode cX1_costByPolicy 43 = .ok (.iaload, 1) := by decide +kernel
theorem dX1_costByPolicy_44 : decode cX1_costByPolicy 44 = .ok (.iadd, 1) := by decide +kernel
theorem dX1_costByPolicy_45 : decode cX1_costByPolicy 45 = .ok (.ireturn, 1) := by decide +kernel
theorem dX1_worstTicks_0 : decode cX1_worstTicks 0 = .ok (.iconst 1, 1) := by decide +kernel
theorem dX1_worstTicks_1 : decode cX1_worstTicks 1 = .ok (.istore_n 2, 1) := by decide +kernel
theorem dX1_worstTicks_2 : decode cX1_worstTicks 2 = .ok (.lconst 0, 1) := by decide +kernel
theorem dX1_worstTicks_3 : decode cX1_worstTicks 3 = .ok (.lstore_n 3, 1) := by decide +kernel
theorem dX1_worstTicks_4 : decode cX1_worstTicks 4 = .ok (.lconst 1, 1) := by decide +kernel
theorem dX1_worstTicks_5 : decode cX1_worstTicks 5 = .ok (.lstore 5, 2) := by decide +kernel
theorem dX1_worstTicks_7 : decode cX1_worstTicks 7 = .ok (.iconst 0, 1) := by decide +kernel
theorem dX1_worstTicks_8 : decode cX1_worstTicks 8 = .ok (.istore 7, 2) := by decide +kernel
theorem dX1_worstTicks_10 : decode cX1_worstTicks 10 = .ok (.iconst 1, 1) := by decide +kernel
theorem dX1_worstTicks_11 : decode cX1_worstTicks 11 = .ok (.istore 8, 2) := by decide +kernel
theorem dX1_worstTicks_13 : decode cX1_worstTicks 13 = .ok (.iload 8, 2) := by decide +kernel
theorem dX1_worstTicks_15 : decode cX1_worstTicks 15 = .ok (.iload_n 1, 1) := by decide +kernel
theorem dX1_worstTicks_16 : decode cX1_worstTicks 16 = .ok (.if_icmp .gt 78, 3) := by decide +kernel
theorem dX1_worstTicks_19 : decode cX1_worstTicks 19 = .ok (.aload_n 0, 1) := by decide +kernel
theorem dX1_worstTicks_20 : decode cX1_worstTicks 20 = .ok (.iload 8, 2) := by decide +kernel
theorem dX1_worstTicks_22 : decode cX1_worstTicks 22 = .ok (.iconst 1, 1) := by decide +kernel
theorem dX1_worstTicks_23 : decode cX1_worstTicks 23 = .ok (.isub, 1) := by decide +kernel
theorem dX1_worstTicks_24 : decode cX1_worstTicks 24 = .ok (.bipush (-6), 2) := by decide +kernel
theorem dX1_worstTicks_26 : decode cX1_worstTicks 26 = .ok (.invokevirtual 54, 3) := by decide +kernel
theorem dX1_worstTicks_29 : decode cX1_worstTicks 29 = .ok (.istore 9, 2) := by decide +kernel
theorem dX1_worstTicks_31 : decode cX1_worstTicks 31 = .ok (.iload 7, 2) := by decide +kernel
theorem dX1_worstTicks_33 : decode cX1_worstTicks 33 = .ok (.aload_n 0, 1) := by decide +kernel
theorem dX1_worstTicks_34 : decode cX1_worstTicks 34 = .ok (.getfield 9, 3) := by decide +kernel
theorem dX1_worstTicks_37 : decode cX1_worstTicks 37 = .ok (.iload 9, 2) := by decide +kernel
theorem dX1_worstTicks_39 : decode cX1_worstTicks 39 = .ok (.iaload, 1) := by decide +kernel
theorem dX1_worstTicks_40 : decode cX1_worstTicks 40 = .ok (.iadd, 1) := by decide +kernel
theorem dX1_worstTicks_41 : decode cX1_worstTicks 41 = .ok (.istore 7, 2) := by decide +kernel
theorem dX1_worstTicks_43 : decode cX1_worstTicks 43 = .ok (.iload 7, 2) := by decide +kernel
theorem dX1_worstTicks_45 : decode cX1_worstTicks 45 = .ok (.aload_n 0, 1) := by decide +kernel
theorem dX1_worstTicks_46 : decode cX1_worstTicks 46 = .ok (.getfield 15, 3) := by decide +kernel
theorem dX1_worstTicks_49 : decode cX1_worstTicks 49 = .ok (.iload 9, 2) := by decide +kernel
theorem dX1_worstTicks_51 : decode cX1_worstTicks 51 = .ok (.iaload, 1) := by decide +kernel
theorem dX1_worstTicks_52 : decode cX1_worstTicks 52 = .ok (.iadd, 1) := by decide +kernel
theorem dX1_worstTicks_53 : decode cX1_worstTicks 53 = .ok (.i2l, 1) := by decide +kernel
theorem dX1_worstTicks_54 : decode cX1_worstTicks 54 = .ok (.lstore 10, 2) := by decide +kernel
theorem dX1_worstTicks_56 : decode cX1_worstTicks 56 = .ok (.aload_n 0, 1) := by decide +kernel
theorem dX1_worstTicks_57 : decode cX1_worstTicks 57 = .ok (.iload 8, 2) := by decide +kernel
theorem dX1_worstTicks_59 : decode cX1_worstTicks 59 = .ok (.invokevirtual 57, 3) := by decide +kernel
theorem dX1_worstTicks_62 : decode cX1_worstTicks 62 = .ok (.i2l, 1) := by decide +kernel
theorem dX1_worstTicks_63 : decode cX1_worstTicks 63 = .ok (.lstore 12, 2) := by decide +kernel
theorem dX1_worstTicks_65 : decode cX1_worstTicks 65 = .ok (.lload 10, 2) := by decide +kernel
theorem dX1_worstTicks_67 : decode cX1_worstTicks 67 = .ok (.lload 5, 2) := by decide +kernel
theorem dX1_worstTicks_69 : decode cX1_worstTicks 69 = .ok (.lmul, 1) := by decide +kernel
theorem dX1_worstTicks_70 : decode cX1_worstTicks 70 = .ok (.lload_n 3, 1) := by decide +kernel
theorem dX1_worstTicks_71 : decode cX1_worstTicks 71 = .ok (.lload 12, 2) := by decide +kernel
theorem dX1_worstTicks_73 : decode cX1_worstTicks 73 = .ok (.lmul, 1) := by decide +kernel
theorem dX1_worstTicks_74 : decode cX1_worstTicks 74 = .ok (.lcmp, 1) := by decide +kernel
theorem dX1_worstTicks_75 : decode cX1_worstTicks 75 = .ok (.ifCond .le 13, 3) := by decide +kernel
theorem dX1_worstTicks_78 : decode cX1_worstTicks 78 = .ok (.lload 10, 2) := by decide +kernel
theorem dX1_worstTicks_80 : decode cX1_worstTicks 80 = .ok (.lstore_n 3, 1) := by decide +kernel
theorem dX1_worstTicks_81 : decode cX1_worstTicks 81 = .ok (.lload 12, 2) := by decide +kernel
theorem dX1_worstTicks_83 : decode cX1_worstTicks 83 = .ok (.lstore 5, 2) := by decide +kernel
theorem dX1_worstTicks_85 : decode cX1_worstTicks 85 = .ok (.iload 8, 2) := by decide +kernel
theorem dX1_worstTicks_87 : decode cX1_worstTicks 87 = .ok (.istore_n 2, 1) := by decide +kernel
theorem dX1_worstTicks_88 : decode cX1_worstTicks 88 = .ok (.iinc 8 1, 3) := by decide +kernel
theorem dX1_worstTicks_91 : decode cX1_worstTicks 91 = .ok (.goto (-78), 3) := by decide +kernel
theorem dX1_worstTicks_94 : decode cX1_worstTicks 94 = .ok (.iload_n 2, 1) := by decide +kernel
theorem dX1_worstTicks_95 : decode cX1_worstTicks 95 = .ok (.ireturn, 1) := by decide +kernel
theorem dX1_agesDrawn_0 : decode cX1_agesDrawn 0 = .ok (.iconst 1, 1) := by decide +kernel
theorem dX1_agesDrawn_1 : decode cX1_agesDrawn 1 = .ok (.aload_n 0, 1) := by decide +kernel
theorem dX1_agesDrawn_2 : decode cX1_agesDrawn 2 = .ok (.getfield 9, 3) := by decide +kernel
theorem dX1_agesDrawn_5 : decode cX1_agesDrawn 5 = .ok (.iconst 0, 1) := by decide +kernel
theorem dX1_agesDrawn_6 : decode cX1_agesDrawn 6 = .ok (.iaload, 1) := by decide +kernel
theorem dX1_agesDrawn_7 : decode cX1_agesDrawn 7 = .ok (.aload_n 0, 1) := by decide +kernel
theorem dX1_agesDrawn_8 : decode cX1_agesDrawn 8 = .ok (.getfield 9, 3) := by decide +kernel
theorem dX1_agesDrawn_11 : decode cX1_agesDrawn 11 = .ok (.iload_n 1, 1) := by decide +kernel
theorem dX1_agesDrawn_12 : decode cX1_agesDrawn 12 = .ok (.iaload, 1) := by decide +kernel
theorem dX1_agesDrawn_13 : decode cX1_agesDrawn 13 = .ok (.isub, 1) := by decide +kernel
theorem dX1_agesDrawn_14 : decode cX1_agesDrawn 14 = .ok (.invokestatic 38, 3) := by decide +kernel
theorem dX1_agesDrawn_17 : decode cX1_agesDrawn 17 = .ok (.istore_n 2, 1) := by decide +kernel
theorem dX1_agesDrawn_18 : decode cX1_agesDrawn 18 = .ok (.aload_n 0, 1) := by decide +kernel
theorem dX1_agesDrawn_19 : decode cX1_agesDrawn 19 = .ok (.getfield 15, 3) := by decide +kernel
theorem dX1_agesDrawn_22 : decode cX1_agesDrawn 22 = .ok (.iload_n 1, 1) := by decide +kernel
theorem dX1_agesDrawn_23 : decode cX1_agesDrawn 23 = .ok (.iaload, 1) := by decide +kernel
theorem dX1_agesDrawn_24 : decode cX1_agesDrawn 24 = .ok (.iload_n 2, 1) := by decide +kernel
theorem dX1_agesDrawn_25 : decode cX1_agesDrawn 25 = .ok (.iadd, 1) := by decide +kernel
theorem dX1_agesDrawn_26 : decode cX1_agesDrawn 26 = .ok (.iconst 1, 1) := by decide +kernel
theorem dX1_agesDrawn_27 : decode cX1_agesDrawn 27 = .ok (.isub, 1) := by decide +kernel
theorem dX1_agesDrawn_28 : decode cX1_agesDrawn 28 = .ok (.iload_n 2, 1) := by decide +kernel
theorem dX1_agesDrawn_29 : decode cX1_agesDrawn 29 = .ok (.idiv, 1) := by decide +kernel
theorem dX1_agesDrawn_30 : decode cX1_agesDrawn 30 = .ok (.ireturn, 1) := by decide +kernel
theorem dX1_costOfAllDrawn_0 : decode cX1_costOfAllDrawn 0 = .ok (.iconst 0, 1) := by decide +kernel
theorem dX1_costOfAllDrawn_1 : decode cX1_costOfAllDrawn 1 = .ok (.istore 4, 2) := by decide +kernel
theorem dX1_costOfAllDrawn_3 : decode cX1_costOfAllDrawn 3 = .ok (.iconst 0, 1) := by decide +kernel
theorem dX1_costOfAllDrawn_4 : decode cX1_costOfAllDrawn 4 = .ok (.istore 5, 2) := by decide +kernel
theorem dX1_costOfAllDrawn_6 : decode cX1_costOfAllDrawn 6 = .ok (.iload 5, 2) := by decide +kernel
theorem dX1_costOfAllDrawn_8 : decode cX1_costOfAllDrawn 8 = .ok (.iload_n 3, 1) := by decide +kernel
theorem dX1_costOfAllDrawn_9 : decode cX1_costOfAllDrawn 9 = .ok (.if_icmp .ge 50, 3) := by decide +kernel
theorem dX1_costOfAllDrawn_12 : decode cX1_costOfAllDrawn 12 = .ok (.iload 4, 2) := by decide +kernel
theorem dX1_costOfAllDrawn_14 : decode cX1_costOfAllDrawn 14 = .ok (.iload_n 2, 1) := by decide +kernel
theorem dX1_costOfAllDrawn_15 : decode cX1_costOfAllDrawn 15 = .ok (.iload 5, 2) := by decide +kernel
theorem dX1_costOfAllDrawn_17 : decode cX1_costOfAllDrawn 17 = .ok (.if_icmp .gt 14, 3) := by decide +kernel
theorem dX1_costOfAllDrawn_20 : decode cX1_costOfAllDrawn 20 = .ok (.aload_n 0, 1) := by decide +kernel
theorem dX1_costOfAllDrawn_21 : decode cX1_costOfAllDrawn 21 = .ok (.getfield 9, 3) := by decide +kernel
theorem dX1_costOfAllDrawn_24 : decode cX1_costOfAllDrawn 24 = .ok (.iconst 0, 1) := by decide +kernel
theorem dX1_costOfAllDrawn_25 : decode cX1_costOfAllDrawn 25 = .ok (.iaload, 1) := by decide +kernel
theorem dX1_costOfAllDrawn_26 : decode cX1_costOfAllDrawn 26 = .ok (.iload_n 2, 1) := by decide +kernel
theorem dX1_costOfAllDrawn_27 : decode cX1_costOfAllDrawn 27 = .ok (.imul, 1) := by decide +kernel
theorem dX1_costOfAllDrawn_28 : decode cX1_costOfAllDrawn 28 = .ok (.goto 22, 3) := by decide +kernel
theorem dX1_costOfAllDrawn_31 : decode cX1_costOfAllDrawn 31 = .ok (.aload_n 0, 1) := by decide +kernel
theorem dX1_costOfAllDrawn_32 : decode cX1_costOfAllDrawn 32 = .ok (.getfield 9, 3) := by decide +kernel
theorem dX1_costOfAllDrawn_35 : decode cX1_costOfAllDrawn 35 = .ok (.iconst 0, 1) := by decide +kernel
theorem dX1_costOfAllDrawn_36 : decode cX1_costOfAllDrawn 36 = .ok (.iaload, 1) := by decide +kernel
theorem dX1_costOfAllDrawn_37 : decode cX1_costOfAllDrawn 37 = .ok (.iload 5, 2) := by decide +kernel
theorem dX1_costOfAllDrawn_39 : decode cX1_costOfAllDrawn 39 = .ok (.imul, 1) := by decide +kernel
theorem dX1_costOfAllDrawn_40 : decode cX1_costOfAllDrawn 40 = .ok (.aload_n 0, 1) := by decide +kernel
theorem dX1_costOfAllDrawn_41 : decode cX1_costOfAllDrawn 41 = .ok (.iload_n 1, 1) := by decide +kernel
theorem dX1_costOfAllDrawn_42 : decode cX1_costOfAllDrawn 42 = .ok (.iload_n 2, 1) := by decide +kernel
theorem dX1_costOfAllDrawn_43 : decode cX1_costOfAllDrawn 43 = .ok (.iload 5, 2) := by decide +kernel
theorem dX1_costOfAllDrawn_45 : decode cX1_costOfAllDrawn 45 = .ok (.isub, 1) := by decide +kernel
theorem dX1_costOfAllDrawn_46 : decode cX1_costOfAllDrawn 46 = .ok (.invokevirtual 51, 3) := by decide +kernel
theorem dX1_costOfAllDrawn_49 : decode cX1_costOfAllDrawn 49 = .ok (.iadd, 1) := by decide +kernel
theorem dX1_costOfAllDrawn_50 : decode cX1_costOfAllDrawn 50 = .ok (.iadd, 1) := by decide +kernel
theorem dX1_costOfAllDrawn_51 : decode cX1_costOfAllDrawn 51 = .ok (.istore 4, 2) := by decide +kernel
theorem dX1_costOfAllDrawn_53 : decode cX1_costOfAllDrawn 53 = .ok (.iinc 5 1, 3) := by decide +kernel
theorem dX1_costOfAllDrawn_56 : decode cX1_costOfAllDrawn 56 = .ok (.goto (-50), 3) := by decide +kernel
theorem dX1_costOfAllDrawn_59 : decode cX1_costOfAllDrawn 59 = .ok (.iload 4, 2) := by decide +kernel
theorem dX1_costOfAllDrawn_61 : decode cX1_costOfAllDrawn 61 = .ok (.ireturn, 1) := by decide +kernel
theorem dX2_init_0 : decode cX2_init 0 = .ok (.aload_n 0, 1) := by decide +kernel
theorem dX2_init_1 : decode cX2_init 1 = .ok (.invokespecial 3, 3) := by decide +kernel
theorem dX2_init_4 : decode cX2_init 4 = .ok (.aload_n 0, 1) := by decide +kernel
theorem dX2_init_5 : decode cX2_init 5 = .ok (.bipush 40, 2) := by decide +kernel
theorem dX2_init_7 : decode cX2_init 7 = .ok (.newarray .int, 2) := by decide +kernel
theorem dX2_init_9 : decode cX2_init 9 = .ok (.putfield 9, 3) := by decide +kernel
theorem dX2_init_12 : decode cX2_init 12 = .ok (.aload_n 0, 1) := by decide +kernel
theorem dX2_init_13 : decode cX2_init 13 = .ok (.bipush 41, 2) := by decide +kernel
theorem dX2_init_15 : decode cX2_init 15 = .ok (.newarray .int, 2) := by decide +kernel
theorem dX2_init_17 : decode cX2_init 17 = .ok (.putfield 15, 3) := by decide +kernel
theorem dX2_init_20 : decode cX2_init 20 = .ok (.aload_n 0, 1) := by decide +kernel
theorem dX2_init_21 : decode cX2_init 21 = .ok (.bipush 41, 2) := by decide +kernel
theorem dX2_init_23 : decode cX2_init 23 = .ok (.newarray .int, 2) := by decide +kernel
theorem dX2_init_25 : decode cX2_init 25 = .ok (.putfield 18, 3) := by decide +kernel
theorem dX2_init_28 : decode cX2_init 28 = .ok (.aload_n 0, 1) := by decide +kernel
theorem dX2_init_29 : decode cX2_init 29 = .ok (.bipush 41, 2) := by decide +kernel
theorem dX2_init_31 : decode cX2_init 31 = .ok (.newarray .int, 2) := by decide +kernel
theorem dX2_init_33 : decode cX2_init 33 = .ok (.putfield 21, 3) := by decide +kernel
theorem dX2_init_36 : decode cX2_init 36 = .ok (.return_, 1) := by decide +kernel
theorem dX2_find_0 : decode cX2_find 0 = .ok (.aload_n 1, 1) := by decide +kernel
theorem dX2_find_1 : decode cX2_find 1 = .ok (.getfield 24, 3) := by decide +kernel
theorem dX2_find_4 : decode cX2_find 4 = .ok (.astore_n 3, 1) := by decide +kernel
theorem dX2_find_5 : decode cX2_find 5 = .ok (.aload_n 1, 1) := by decide +kernel
theorem dX2_find_6 : decode cX2_find 6 = .ok (.getfield 30, 3) := by decide +kernel
theorem dX2_find_9 : decode cX2_find 9 = .ok (.iload_n 2, 1) := by decide +kernel
theorem dX2_find_10 : decode cX2_find 10 = .ok (.aaload, 1) := by decide +kernel
theorem dX2_find_11 : decode cX2_find 11 = .ok (.astore 4, 2) := by decide +kernel
theorem dX2_find_13 : decode cX2_find 13 = .ok (.aload_n 3, 1) := by decide +kernel
theorem dX2_find_14 : decode cX2_find 14 = .ok (.aload_n 0, 1) := by decide +kernel
theorem dX2_find_15 : decode cX2_find 15 = .ok (.getfield 9, 3) := by decide +kernel
theorem dX2_find_18 : decode cX2_find 18 = .ok (.invokevirtual 34, 3) := by decide +kernel
theorem dX2_find_21 : decode cX2_find 21 = .ok (.aload_n 0, 1) := by decide +kernel
theorem dX2_find_22 : decode cX2_find 22 = .ok (.iconst 0, 1) := by decide +kernel
theorem dX2_find_23 : decode cX2_find 23 = .ok (.putfield 40, 3) := by decide +kernel
theorem dX2_find_26 : decode cX2_find 26 = .ok (.iconst 0, 1) := by decide +kernel
theorem dX2_find_27 : decode cX2_find 27 = .ok (.istore 5, 2) := by decide +kernel
theorem dX2_find_29 : decode cX2_find 29 = .ok (.iconst 0, 1) := by decide +kernel
theorem dX2_find_30 : decode cX2_find 30 = .ok (.istore 6, 2) := by decide +kernel
theorem dX2_find_32 : decode cX2_find 32 = .ok (.iload 6, 2) := by decide +kernel
theorem dX2_find_34 : decode cX2_find 34 = .ok (.aload_n 3, 1) := by decide +kernel
theorem dX2_find_35 : decode cX2_find 35 = .ok (.getfield 44, 3) := by decide +kernel
theorem dX2_find_38 : decode cX2_find 38 = .ok (.if_icmp .ge 88, 3) := by decide +kernel
theorem dX2_find_41 : decode cX2_find 41 = .ok (.aload_n 3, 1) := by decide +kernel
theorem dX2_find_42 : decode cX2_find 42 = .ok (.getfield 45, 3) := by decide +kernel
theorem dX2_find_45 : decode cX2_find 45 = .ok (.aload_n 0, 1) := by decide +kernel
theorem dX2_find_46 : decode cX2_find 46 = .ok (.getfield 9, 3) := by decide +kernel
theorem dX2_find_49 : decode cX2_find 49 = .ok (.iload 6, 2) := by decide +kernel
theorem dX2_find_51 : decode cX2_find 51 = .ok (.iaload, 1) := by decide +kernel
theorem dX2_find_52 : decode cX2_find 52 = .ok (.iaload, 1) := by decide +kernel
theorem dX2_find_53 : decode cX2_find 53 = .ok (.istore 7, 2) := by decide +kernel
theorem dX2_find_55 : decode cX2_find 55 = .ok (.aload_n 3, 1) := by decide +kernel
theorem dX2_find_56 : decode cX2_find 56 = .ok (.getfield 48, 3) := by decide +kernel
theorem dX2_find_59 : decode cX2_find 59 = .ok (.aload_n 0, 1) := by decide +kernel
theorem dX2_find_60 : decode cX2_find 60 = .ok (.getfield 9, 3) := by decide +kernel
theorem dX2_find_63 : decode cX2_find 63 = .ok (.iload 6, 2) := by decide +kernel
theorem dX2_find_65 : decode cX2_find 65 = .ok (.iaload, 1) := by decide +kernel
theorem dX2_find_66 : decode cX2_find 66 = .ok (.iaload, 1) := by decide +kernel
theorem dX2_find_67 : decode cX2_find 67 = .ok (.iload_n 2, 1) := by decide +kernel
theorem dX2_find_68 : decode cX2_find 68 = .ok (.if_icmp .ne 52, 3) := by decide +kernel
theorem dX2_find_71 : decode cX2_find 71 = .ok (.iload 7, 2) := by decide +kernel
theorem dX2_find_73 : decode cX2_find 73 = .ok (.aload_n 1, 1) := by decide +kernel
theorem dX2_find_74 : decode cX2_find 74 = .ok (.getfield 50, 3) := by decide +kernel
theorem dX2_find_77 : decode cX2_find 77 = .ok (.if_icmp .ge 43, 3) := by decide +kernel
theorem dX2_find_80 : decode cX2_find 80 = .ok (.iload 7, 2) := by decide +kernel
theorem dX2_find_82 : decode cX2_find 82 = .ok (.iload 5, 2) := by decide +kernel
theorem dX2_find_84 : decode cX2_find 84 = .ok (.if_icmp .le 36, 3) := by decide +kernel
theorem dX2_find_87 : decode cX2_find 87 = .ok (.aload_n 0, 1) := by decide +kernel
theorem dX2_find_88 : decode cX2_find 88 = .ok (.iload 7, 2) := by decide +kernel
theorem dX2_find_90 : decode cX2_find 90 = .ok (.aload 4, 2) := by decide +kernel
theorem dX2_find_92 : decode cX2_find 92 = .ok (.getfield 53, 3) := by decide +kernel
theorem dX2_find_95 : decode cX2_find 95 = .ok (.iconst 0, 1) := by decide +kernel
theorem dX2_find_96 : decode cX2_find 96 = .ok (.iaload, 1) := by decide +kernel
theorem dX2_find_97 : decode cX2_find 97 = .ok (.iload 7, 2) := by decide +kernel
theorem dX2_find_99 : decode cX2_find 99 = .ok (.iload 5, 2) := by decide +kernel
theorem dX2_find_101 : decode cX2_find 101 = .ok (.isub, 1) := by decide +kernel
theorem dX2_find_102 : decode cX2_find 102 = .ok (.imul, 1) := by decide +kernel
theorem dX2_find_103 : decode cX2_find 103 = .ok (.aload 4, 2) := by decide +kernel
theorem dX2_find_105 : decode cX2_find 105 = .ok (.iload 7, 2) := by decide +kernel
theorem dX2_find_107 : decode cX2_find 107 = .ok (.iload 5, 2) := by decide +kernel
theorem dX2_find_109 : decode cX2_find 109 = .ok (.isub, 1) := by decide +kernel
theorem dX2_find_110 : decode cX2_find 110 = .ok (.invokevirtual 58, 3) := by decide +kernel
theorem dX2_find_113 : decode cX2_find 113 = .ok (.invokevirtual 62, 3) := by decide +kernel
theorem dX2_find_116 : decode cX2_find 116 = .ok (.iload 7, 2) := by decide +kernel
theorem dX2_find_118 : decode cX2_find 118 = .ok (.istore 5, 2) := by decide +kernel
theorem dX2_find_120 : decode cX2_find 120 = .ok (.iinc 6 1, 3) := by decide +kernel
theorem dX2_find_123 : decode cX2_find 123 = .ok (.goto (-91), 3) := by decide +kernel
theorem dX2_find_126 : decode cX2_find 126 = .ok (.aload_n 1, 1) := by decide +kernel
theorem dX2_find_127 : decode cX2_find 127 = .ok (.getfield 50, 3) := by decide +kernel
theorem dX2_find_130 : decode cX2_find 130 = .ok (.iload 5, 2) := by decide +kernel
theorem dX2_find_132 : decode cX2_find 132 = .ok (.isub, 1) := by decide +kernel
theorem dX2_find_133 : decode cX2_find 133 = .ok (.istore 6, 2) := by decide +kernel
theorem dX2_find_135 : decode cX2_find 135 = .ok (.aload_n 0, 1) := by decide +kernel
theorem dX2_find_136 : decode cX2_find 136 = .ok (.aload_n 1, 1) := by decide +kernel
theorem dX2_find_137 : decode cX2_find 137 = .ok (.getfield 50, 3) := by decide +kernel
theorem dX2_find_140 : decode cX2_find 140 = .ok (.aload 4, 2) := by decide +kernel
theorem dX2_find_142 : decode cX2_find 142 = .ok (.getfield 53, 3) := by decide +kernel
theorem dX2_find_145 : decode cX2_find 145 = .ok (.iconst 0, 1) := by decide +kernel
theorem dX2_find_146 : decode cX2_find 146 = .ok (.iaload, 1) := by decide +kernel
theorem dX2_find_147 : decode cX2_find 147 = .ok (.iload 6, 2) := by decide +kernel
theorem dX2_find_149 : decode cX2_find 149 = .ok (.imul, 1) := by decide +kernel
theorem dX2_find_150 : decode cX2_find 150 = .ok (.aload 4, 2) := by decide +kernel
theorem dX2_find_152 : decode cX2_find 152 = .ok (.iload 6, 2) := by decide +kernel
theorem dX2_find_154 : decode cX2_find 154 = .ok (.invokevirtual 66, 3) := by decide +kernel
theorem dX2_find_157 : decode cX2_find 157 = .ok (.invokevirtual 62, 3) := by decide +kernel
theorem dX2_find_160 : decode cX2_find 160 = .ok (.return_, 1) := by decide +kernel
theorem dX2_add_0 : decode cX2_add 0 = .ok (.aload_n 0, 1) := by decide +kernel
theorem dX2_add_1 : decode cX2_add 1 = .ok (.getfield 15, 3) := by decide +kernel
theorem dX2_add_4 : decode cX2_add 4 = .ok (.aload_n 0, 1) := by decide +kernel
theorem dX2_add_5 : decode cX2_add 5 = .ok (.getfield 40, 3) := by decide +kernel
theorem dX2_add_8 : decode cX2_add 8 = .ok (.iload_n 1, 1) := by decide +kernel
theorem dX2_add_9 : decode cX2_add 9 = .ok (.iastore, 1) := by decide +kernel
theorem dX2_add_10 : decode cX2_add 10 = .ok (.aload_n 0, 1) := by decide +kernel
theorem dX2_add_11 : decode cX2_add 11 = .ok (.getfield 18, 3) := by decide +kernel
theorem dX2_add_14 : decode cX2_add 14 = .ok (.aload_n 0, 1) := by decide +kernel
theorem dX2_add_15 : decode cX2_add 15 = .ok (.getfield 40, 3) := by decide +kernel
theorem dX2_add_18 : decode cX2_add 18 = .ok (.iload_n 2, 1) := by decide +kernel
theorem dX2_add_19 : decode cX2_add 19 = .ok (.iastore, 1) := by decide +kernel
theorem dX2_add_20 : decode cX2_add 20 = .ok (.aload_n 0, 1) := by decide +kernel
theorem dX2_add_21 : decode cX2_add 21 = .ok (.getfield 21, 3) := by decide +kernel
theorem dX2_add_24 : decode cX2_add 24 = .ok (.aload_n 0, 1) := by decide +kernel
theorem dX2_add_25 : decode cX2_add 25 = .ok (.getfield 40, 3) := by decide +kernel
theorem dX2_add_28 : decode cX2_add 28 = .ok (.iload_n 2, 1) := by decide +kernel
theorem dX2_add_29 : decode cX2_add 29 = .ok (.iload_n 3, 1) := by decide +kernel
theorem dX2_add_30 : decode cX2_add 30 = .ok (.isub, 1) := by decide +kernel
theorem dX2_add_31 : decode cX2_add 31 = .ok (.iastore, 1) := by decide +kernel
theorem dX2_add_32 : decode cX2_add 32 = .ok (.aload_n 0, 1) := by decide +kernel
theorem dX2_add_33 : decode cX2_add 33 = .ok (.dup, 1) := by decide +kernel
theorem dX2_add_34 : decode cX2_add 34 = .ok (.getfield 40, 3) := by decide +kernel
theorem dX2_add_37 : decode cX2_add 37 = .ok (.iconst 1, 1) := by decide +kernel
theorem dX2_add_38 : decode cX2_add 38 = .ok (.iadd, 1) := by decide +kernel
theorem dX2_add_39 : decode cX2_add 39 = .ok (.putfield 40, 3) := by decide +kernel
theorem dX2_add_42 : decode cX2_add 42 = .ok (.return_, 1) := by decide +kernel
theorem dX2_costAwake_0 : decode cX2_costAwake 0 = .ok (.aload_n 0, 1) := by decide +kernel
theorem dX2_costAwake_1 : decode cX2_costAwake 1 = .ok (.aload_n 0, 1) := by decide +kernel
theorem dX2_costAwake_2 : decode cX2_costAwake 2 = .ok (.getfield 18, 3) := by decide +kernel
theorem dX2_costAwake_5 : decode cX2_costAwake 5 = .ok (.invokevirtual 69, 3) := by decide +kernel
theorem dX2_costAwake_8 : decode cX2_costAwake 8 = .ok (.ireturn, 1) := by decide +kernel
theorem dX2_savedByAll_0 : decode cX2_savedByAll 0 = .ok (.aload_n 0, 1) := by decide +kernel
theorem dX2_savedByAll_1 : decode cX2_savedByAll 1 = .ok (.aload_n 0, 1) := by decide +kernel
theorem dX2_savedByAll_2 : decode cX2_savedByAll 2 = .ok (.getfield 21, 3) := by decide +kernel
theorem dX2_savedByAll_5 : decode cX2_savedByAll 5 = .ok (.invokevirtual 69, 3) := by decide +kernel
theorem dX2_savedByAll_8 : decode cX2_savedByAll 8 = .ok (.ireturn, 1) := by decide +kernel
theorem dX2_sumOf_0 : decode cX2_sumOf 0 = .ok (.iconst 0, 1) := by decide +kernel
theorem dX2_sumOf_1 : decode cX2_sumOf 1 = .ok (.istore_n 2, 1) := by decide +kernel
theorem dX2_sumOf_2 : decode cX2_sumOf 2 = .ok (.iconst 0, 1) := by decide +kernel
theorem dX2_sumOf_3 : decode cX2_sumOf 3 = .ok (.istore_n 3, 1) := by decide +kernel
theorem dX2_sumOf_4 : decode cX2_sumOf 4 = .ok (.iload_n 3, 1) := by decide +kernel
theorem dX2_sumOf_5 : decode cX2_sumOf 5 = .ok (.aload_n 0, 1) := by decide +kernel
theorem dX2_sumOf_6 : decode cX2_sumOf 6 = .ok (.getfield 40, 3) := by decide +kernel
theorem dX2_sumOf_9 : decode cX2_sumOf 9 = .ok (.if_icmp .ge 15, 3) := by decide +kernel
theorem dX2_sumOf_12 : decode cX2_sumOf 12 = .ok (.iload_n 2, 1) := by decide +kernel
theorem dX2_sumOf_13 : decode cX2_sumOf 13 = .ok (.aload_n 1, 1) := by decide +kernel
theorem dX2_sumOf_14 : decode cX2_sumOf 14 = .ok (.iload_n 3, 1) := by decide +kernel
theorem dX2_sumOf_15 : decode cX2_sumOf 15 = .ok (.iaload, 1) := by decide +kernel
theorem dX2_sumOf_16 : decode cX2_sumOf 16 = .ok (.iadd, 1) := by decide +kernel
theorem dX2_sumOf_17 : decode cX2_sumOf 17 = .ok (.istore_n 2, 1) := by decide +kernel
theorem dX2_sumOf_18 : decode cX2_sumOf 18 = .ok (.iinc 3 1, 3) := by decide +kernel
theorem dX2_sumOf_21 : decode cX2_sumOf 21 = .ok (.goto (-17), 3) := by decide +kernel
theorem dX2_sumOf_24 : decode cX2_sumOf 24 = .ok (.iload_n 2, 1) := by decide +kernel
theorem dX2_sumOf_25 : decode cX2_sumOf 25 = .ok (.ireturn, 1) := by decide +kernel
theorem dX2_worthSleeping_0 : decode cX2_worthSleeping 0 = .ok (.iconst 0, 1) := by decide +kernel
theorem dX2_worthSleeping_1 : decode cX2_worthSleeping 1 = .ok (.istore_n 1, 1) := by decide +kernel
theorem dX2_worthSleeping_2 : decode cX2_worthSleeping 2 = .ok (.iconst 0, 1) := by decide +kernel
theorem dX2_worthSleeping_3 : decode cX2_worthSleeping 3 = .ok (.istore_n 2, 1) := by decide +kernel
theorem dX2_worthSleeping_4 : decode cX2_worthSleeping 4 = .ok (.iload_n 2, 1) := by decide +kernel
theorem dX2_worthSleeping_5 : decode cX2_worthSleeping 5 = .ok (.aload_n 0, 1) := by decide +kernel
theorem dX2_worthSleeping_6 : decode cX2_worthSleeping 6 = .ok (.getfield 40, 3) := by decide +kernel
theorem dX2_worthSleeping_9 : decode cX2_worthSleeping 9 = .ok (.if_icmp .ge 21, 3) := by decide +kernel
theorem dX2_worthSleeping_12 : decode cX2_worthSleeping 12 = .ok (.aload_n 0, 1) := by decide +kernel
theorem dX2_worthSleeping_13 : decode cX2_worthSleeping 13 = .ok (.getfield 21, 3) := by decide +kernel
theorem dX2_worthSleeping_16 : decode cX2_worthSleeping 16 = .ok (.iload_n 2, 1) := by decide +kernel
theorem dX2_worthSleeping_17 : decode cX2_worthSleeping 17 = .ok (.iaload, 1) := by decide +kernel
theorem dX2_worthSleeping_18 : decode cX2_worthSleeping 18 = .ok (.ifCond .le 6, 3) := by decide +kernel
theorem dX2_worthSleeping_21 : decode cX2_worthSleeping 21 = .ok (.iinc 1 1, 3) := by decide +kernel
theorem dX2_worthSleeping_24 : decode cX2_worthSleeping 24 = .ok (.iinc 2 1, 3) := by decide +kernel
theorem dX2_worthSleeping_27 : decode cX2_worthSleeping 27 = .ok (.goto (-23), 3) := by decide +kernel
theorem dX2_worthSleeping_30 : decode cX2_worthSleeping 30 = .ok (.iload_n 1, 1) := by decide +kernel
theorem dX2_worthSleeping_31 : decode cX2_worthSleeping 31 = .ok (.ireturn, 1) := by decide +kernel
theorem dX2_savedByFew_0 : decode cX2_savedByFew 0 = .ok (.iconst 0, 1) := by decide +kernel
theorem dX2_savedByFew_1 : decode cX2_savedByFew 1 = .ok (.istore_n 3, 1) := by decide +kernel
theorem dX2_savedByFew_2 : decode cX2_savedByFew 2 = .ok (.iconst 0, 1) := by decide +kernel
theorem dX2_savedByFew_3 : decode cX2_savedByFew 3 = .ok (.istore 4, 2) := by decide +kernel
theorem dX2_savedByFew_5 : decode cX2_savedByFew 5 = .ok (.iload 4, 2) := by decide +kernel
theorem dX2_savedByFew_7 : decode cX2_savedByFew 7 = .ok (.aload_n 0, 1) := by decide +kernel
theorem dX2_savedByFew_8 : decode cX2_savedByFew 8 = .ok (.getfield 40, 3) := by decide +kernel
theorem dX2_savedByFew_11 : decode cX2_savedByFew 11 = .ok (.if_icmp .ge 45, 3) := by decide +kernel
theorem dX2_savedByFew_14 : decode cX2_savedByFew 14 = .ok (.iload 4, 2) := by decide +kernel
theorem dX2_savedByFew_16 : decode cX2_savedByFew 16 = .ok (.aload_n 0, 1) := by decide +kernel
theorem dX2_savedByFew_17 : decode cX2_savedByFew 17 = .ok (.getfield 40, 3) := by decide +kernel
theorem dX2_savedByFew_20 : decode cX2_savedByFew 20 = .ok (.iconst 1, 1) := by decide +kernel
theorem dX2_savedByFew_21 : decode cX2_savedByFew 21 = .ok (.isub, 1) := by decide +kernel
theorem dX2_savedByFew_22 : decode cX2_savedByFew 22 = .ok (.if_icmp .eq 18, 3) := by decide +kernel
theorem dX2_savedByFew_25 : decode cX2_savedByFew 25 = .ok (.aload_n 0, 1) := by decide +kernel
theorem dX2_savedByFew_26 : decode cX2_savedByFew 26 = .ok (.iload 4, 2) := by decide +kernel
theorem dX2_savedByFew_28 : decode cX2_savedByFew 28 = .ok (.iconst 1, 1) := by decide +kernel
theorem dX2_savedByFew_29 : decode cX2_savedByFew 29 = .ok (.iload_n 1, 1) := by decide +kernel
theorem dX2_savedByFew_30 : decode cX2_savedByFew 30 = .ok (.invokestatic 73, 3) := by decide +kernel
theorem dX2_savedByFew_33 : decode cX2_savedByFew 33 = .ok (.invokevirtual 79, 3) := by decide +kernel
theorem dX2_savedByFew_36 : decode cX2_savedByFew 36 = .ok (.iload_n 2, 1) := by decide +kernel
theorem dX2_savedByFew_37 : decode cX2_savedByFew 37 = .ok (.if_icmp .ge 13, 3) := by decide +kernel
theorem dX2_savedByFew_40 : decode cX2_savedByFew 40 = .ok (.iload_n 3, 1) := by decide +kernel
theorem dX2_savedByFew_41 : decode cX2_savedByFew 41 = .ok (.aload_n 0, 1) := by decide +kernel
theorem dX2_savedByFew_42 : decode cX2_savedByFew 42 = .ok (.getfield 21, 3) := by decide +kernel
theorem dX2_savedByFew_45 : decode cX2_savedByFew 45 = .ok (.iload 4, 2) := by decide +kernel
theorem dX2_savedByFew_47 : decode cX2_savedByFew 47 = .ok (.iaload, 1) := by decide +kernel
theorem dX2_savedByFew_48 : decode cX2_savedByFew 48 = .ok (.iadd, 1) := by decide +kernel
theorem dX2_savedByFew_49 : decode cX2_savedByFew 49 = .ok (.istore_n 3, 1) := by decide +kernel
theorem dX2_savedByFew_50 : decode cX2_savedByFew 50 = .ok (.iinc 4 1, 3) := by decide +kernel
theorem dX2_savedByFew_53 : decode cX2_savedByFew 53 = .ok (.goto (-48), 3) := by decide +kernel
theorem dX2_savedByFew_56 : decode cX2_savedByFew 56 = .ok (.iload_n 3, 1) := by decide +kernel
theorem dX2_savedByFew_57 : decode cX2_savedByFew 57 = .ok (.ireturn, 1) := by decide +kernel
theorem dX2_betterOfSameDay_0 : decode cX2_betterOfSameDay 0 = .ok (.iconst 0, 1) := by decide +kernel
theorem dX2_betterOfSameDay_1 : decode cX2_betterOfSameDay 1 = .ok (.istore_n 3, 1) := by decide +kernel
theorem dX2_betterOfSameDay_2 : decode cX2_betterOfSameDay 2 = .ok (.iconst 0, 1) := by decide +kernel
theorem dX2_betterOfSameDay_3 : decode cX2_betterOfSameDay 3 = .ok (.istore 4, 2) := by decide +kernel
theorem dX2_betterOfSameDay_5 : decode cX2_betterOfSameDay 5 = .ok (.iload 4, 2) := by decide +kernel
theorem dX2_betterOfSameDay_7 : decode cX2_betterOfSameDay 7 = .ok (.aload_n 0, 1) := by decide +kernel
theorem dX2_betterOfSameDay_8 : decode cX2_betterOfSameDay 8 = .ok (.getfield 40, 3) := by decide +kernel
theorem dX2_betterOfSameDay_11 : decode cX2_betterOfSameDay 11 = .ok (.iconst 1, 1) := by decide +kernel
theorem dX2_betterOfSameDay_12 : decode cX2_betterOfSameDay 12 = .ok (.isub, 1) := by decide +kernel
theorem dX2_betterOfSameDay_13 : decode cX2_betterOfSameDay 13 = .ok (.if_icmp .ge 82, 3) := by decide +kernel
theorem dX2_betterOfSameDay_16 : decode cX2_betterOfSameDay 16 = .ok (.aload_n 0, 1) := by decide +kernel
theorem dX2_betterOfSameDay_17 : decode cX2_betterOfSameDay 17 = .ok (.getfield 21, 3) := by decide +kernel
theorem dX2_betterOfSameDay_20 : decode cX2_betterOfSameDay 20 = .ok (.iload 4, 2) := by decide +kernel
theorem dX2_betterOfSameDay_22 : decode cX2_betterOfSameDay 22 = .ok (.iaload, 1) := by decide +kernel
theorem dX2_betterOfSameDay_23 : decode cX2_betterOfSameDay 23 = .ok (.aload_n 0, 1) := by decide +kernel
theorem dX2_betterOfSameDay_24 : decode cX2_betterOfSameDay 24 = .ok (.getfield 21, 3) := by decide +kernel
theorem dX2_betterOfSameDay_27 : decode cX2_betterOfSameDay 27 = .ok (.iload_n 1, 1) := by decide +kernel
theorem dX2_betterOfSameDay_28 : decode cX2_betterOfSameDay 28 = .ok (.iaload, 1) := by decide +kernel
theorem dX2_betterOfSameDay_29 : decode cX2_betterOfSameDay 29 = .ok (.if_icmp .gt 25, 3) := by decide +kernel
theorem dX2_betterOfSameDay_32 : decode cX2_betterOfSameDay 32 = .ok (.aload_n 0, 1) := by decide +kernel
theorem dX2_betterOfSameDay_33 : decode cX2_betterOfSameDay 33 = .ok (.getfield 21, 3) := by decide +kernel
theorem dX2_betterOfSameDay_36 : decode cX2_betterOfSameDay 36 = .ok (.iload 4, 2) := by decide +kernel
theorem dX2_betterOfSameDay_38 : decode cX2_betterOfSameDay 38 = .ok (.iaload, 1) := by decide +kernel
theorem dX2_betterOfSameDay_39 : decode cX2_betterOfSameDay 39 = .ok (.aload_n 0, 1) := by decide +kernel
theorem dX2_betterOfSameDay_40 : decode cX2_betterOfSameDay 40 = .ok (.getfield 21, 3) := by decide +kernel
theorem dX2_betterOfSameDay_43 : decode cX2_betterOfSameDay 43 = .ok (.iload_n 1, 1) := by decide +kernel
theorem dX2_betterOfSameDay_44 : decode cX2_betterOfSameDay 44 = .ok (.iaload, 1) := by decide +kernel
theorem dX2_betterOfSameDay_45 : decode cX2_betterOfSameDay 45 = .ok (.if_icmp .ne 13, 3) := by decide +kernel
theorem dX2_betterOfSameDay_48 : decode cX2_betterOfSameDay 48 = .ok (.iload 4, 2) := by decide +kernel
theorem dX2_betterOfSameDay_50 : decode cX2_betterOfSameDay 50 = .ok (.iload_n 1, 1) := by decide +kernel
theorem dX2_betterOfSameDay_51 : decode cX2_betterOfSameDay 51 = .ok (.if_icmp .ge 7, 3) := by decide +kernel
theorem dX2_betterOfSameDay_54 : decode cX2_betterOfSameDay 54 = .ok (.iconst 1, 1) := by decide +kernel
theorem dX2_betterOfSameDay_55 : decode cX2_betterOfSameDay 55 = .ok (.goto 4, 3) := by decide +kernel
theorem dX2_betterOfSameDay_58 : decode cX2_betterOfSameDay 58 = .ok (.iconst 0, 1) := by decide +kernel
theorem dX2_betterOfSameDay_59 : decode cX2_betterOfSameDay 59 = .ok (.istore 5, 2) := by decide +kernel
theorem dX2_betterOfSameDay_61 : decode cX2_betterOfSameDay 61 = .ok (.iload 5, 2) := by decide +kernel
theorem dX2_betterOfSameDay_63 : decode cX2_betterOfSameDay 63 = .ok (.ifCond .eq 26, 3) := by decide +kernel
theorem dX2_betterOfSameDay_66 : decode cX2_betterOfSameDay 66 = .ok (.aload_n 0, 1) := by decide +kernel
theorem dX2_betterOfSameDay_67 : decode cX2_betterOfSameDay 67 = .ok (.getfield 15, 3) := by decide +kernel
theorem dX2_betterOfSameDay_70 : decode cX2_betterOfSameDay 70 = .ok (.iload 4, 2) := by decide +kernel
theorem dX2_betterOfSameDay_72 : decode cX2_betterOfSameDay 72 = .ok (.iaload, 1) := by decide +kernel
theorem dX2_betterOfSameDay_73 : decode cX2_betterOfSameDay 73 = .ok (.iload_n 2, 1) := by decide +kernel
theorem dX2_betterOfSameDay_74 : decode cX2_betterOfSameDay 74 = .ok (.idiv, 1) := by decide +kernel
theorem dX2_betterOfSameDay_75 : decode cX2_betterOfSameDay 75 = .ok (.aload_n 0, 1) := by decide +kernel
theorem dX2_betterOfSameDay_76 : decode cX2_betterOfSameDay 76 = .ok (.getfield 15, 3) := by decide +kernel
theorem dX2_betterOfSameDay_79 : decode cX2_betterOfSameDay 79 = .ok (.iload_n 1, 1) := by decide +kernel
theorem dX2_betterOfSameDay_80 : decode cX2_betterOfSameDay 80 = .ok (.iaload, 1) := by decide +kernel
theorem dX2_betterOfSameDay_81 : decode cX2_betterOfSameDay 81 = .ok (.iload_n 2, 1) := by decide +kernel
theorem dX2_betterOfSameDay_82 : decode cX2_betterOfSameDay 82 = .ok (.idiv, 1) := by decide +kernel
theorem dX2_betterOfSameDay_83 : decode cX2_betterOfSameDay 83 = .ok (.if_icmp .ne 6, 3) := by decide +kernel
theorem dX2_betterOfSameDay_86 : decode cX2_betterOfSameDay 86 = .ok (.iinc 3 1, 3) := by decide +kernel
theorem dX2_betterOfSameDay_89 : decode cX2_betterOfSameDay 89 = .ok (.iinc 4 1, 3) := by decide +kernel
theorem dX2_betterOfSameDay_92 : decode cX2_betterOfSameDay 92 = .ok (.goto (-87), 3) := by decide +kernel
theorem dX2_betterOfSameDay_95 : decode cX2_betterOfSameDay 95 = .ok (.iload_n 3, 1) := by decide +kernel
theorem dX2_betterOfSameDay_96 : decode cX2_betterOfSameDay 96 = .ok (.ireturn, 1) := by decide +kernel
theorem dX3_init_0 : decode cX3_init 0 = .ok (.aload_n 0, 1) := by decide +kernel
theorem dX3_init_1 : decode cX3_init 1 = .ok (.invokespecial 3, 3) := by decide +kernel
theorem dX3_init_4 : decode cX3_init 4 = .ok (.aload_n 0, 1) := by decide +kernel
theorem dX3_init_5 : decode cX3_init 5 = .ok (.bipush 40, 2) := by decide +kernel
theorem dX3_init_7 : decode cX3_init 7 = .ok (.newarray .int, 2) := by decide +kernel
theorem dX3_init_9 : decode cX3_init 9 = .ok (.putfield 9, 3) := by decide +kernel
theorem dX3_init_12 : decode cX3_init 12 = .ok (.aload_n 0, 1) := by decide +kernel
theorem dX3_init_13 : decode cX3_init 13 = .ok (.bipush 40, 2) := by decide +kernel
theorem dX3_init_15 : decode cX3_init 15 = .ok (.newarray .int, 2) := by decide +kernel
theorem dX3_init_17 : decode cX3_init 17 = .ok (.putfield 15, 3) := by decide +kernel
theorem dX3_init_20 : decode cX3_init 20 = .ok (.aload_n 0, 1) := by decide +kernel
theorem dX3_init_21 : decode cX3_init 21 = .ok (.bipush 40, 2) := by decide +kernel
theorem dX3_init_23 : decode cX3_init 23 = .ok (.newarray .int, 2) := by decide +kernel
theorem dX3_init_25 : decode cX3_init 25 = .ok (.putfield 18, 3) := by decide +kernel
theorem dX3_init_28 : decode cX3_init 28 = .ok (.return_, 1) := by decide +kernel
theorem dX3_copyFrom_0 : decode cX3_copyFrom 0 = .ok (.aload_n 1, 1) := by decide +kernel
theorem dX3_copyFrom_1 : decode cX3_copyFrom 1 = .ok (.getfield 9, 3) := by decide +kernel
theorem dX3_copyFrom_4 : decode cX3_copyFrom 4 = .ok (.iconst 0, 1) := by decide +kernel
theorem dX3_copyFrom_5 : decode cX3_copyFrom 5 = .ok (.aload_n 0, 1) := by decide +kernel
theorem dX3_copyFrom_6 : decode cX3_copyFrom 6 = .ok (.getfield 9, 3) := by decide +kernel
theorem dX3_copyFrom_9 : decode cX3_copyFrom 9 = .ok (.iconst 0, 1) := by decide +kernel
theorem dX3_copyFrom_10 : decode cX3_copyFrom 10 = .ok (.bipush 40, 2) := by decide +kernel
theorem dX3_copyFrom_12 : decode cX3_copyFrom 12 = .ok (.invokestatic 21, 3) := by decide +kernel
theorem dX3_copyFrom_15 : decode cX3_copyFrom 15 = .ok (.aload_n 1, 1) := by decide +kernel
theorem dX3_copyFrom_16 : decode cX3_copyFrom 16 = .ok (.getfield 15, 3) := by decide +kernel
theorem dX3_copyFrom_19 : decode cX3_copyFrom 19 = .ok (.iconst 0, 1) := by decide +kernel
theorem dX3_copyFrom_20 : decode cX3_copyFrom 20 = .ok (.aload_n 0, 1) := by decide +kernel
theorem dX3_copyFrom_21 : decode cX3_copyFrom 21 = .ok (.getfield 15, 3) := by decide +kernel
theorem dX3_copyFrom_24 : decode cX3_copyFrom 24 = .ok (.iconst 0, 1) := by decide +kernel
theorem dX3_copyFrom_25 : decode cX3_copyFrom 25 = .ok (.bipush 40, 2) := by decide +kernel
theorem dX3_copyFrom_27 : decode cX3_copyFrom 27 = .ok (.invokestatic 21, 3) := by decide +kernel
theorem dX3_copyFrom_30 : decode cX3_copyFrom 30 = .ok (.aload_n 1, 1) := by decide +kernel
theorem dX3_copyFrom_31 : decode cX3_copyFrom 31 = .ok (.getfield 18, 3) := by decide +kernel
theorem dX3_copyFrom_34 : decode cX3_copyFrom 34 = .ok (.iconst 0, 1) := by decide +kernel
theorem dX3_copyFrom_35 : decode cX3_copyFrom 35 = .ok (.aload_n 0, 1) := by decide +kernel
theorem dX3_copyFrom_36 : decode cX3_copyFrom 36 = .ok (.getfield 18, 3) := by decide +kernel
theorem dX3_copyFrom_39 : decode cX3_copyFrom 39 = .ok (.iconst 0, 1) := by decide +kernel
theorem dX3_copyFrom_40 : decode cX3_copyFrom 40 = .ok (.bipush 40, 2) := by decide +kernel
theorem dX3_copyFrom_42 : decode cX3_copyFrom 42 = .ok (.invokestatic 21, 3) := by decide +kernel
theorem dX3_copyFrom_45 : decode cX3_copyFrom 45 = .ok (.aload_n 0, 1) := by decide +kernel
theorem dX3_copyFrom_46 : decode cX3_copyFrom 46 = .ok (.aload_n 1, 1) := by decide +kernel
theorem dX3_copyFrom_47 : decode cX3_copyFrom 47 = .ok (.getfield 27, 3) := by decide +kernel
theorem dX3_copyFrom_50 : decode cX3_copyFrom 50 = .ok (.putfield 27, 3) := by decide +kernel
theorem dX3_copyFrom_53 : decode cX3_copyFrom 53 = .ok (.return_, 1) := by decide +kernel
theorem dX3_has_0 : decode cX3_has 0 = .ok (.iload_n 1, 1) := by decide +kernel
theorem dX3_has_1 : decode cX3_has 1 = .ok (.iconst 0, 1) := by decide +kernel
theorem dX3_has_2 : decode cX3_has 2 = .ok (.aload_n 0, 1) := by decide +kernel
theorem dX3_has_3 : decode cX3_has 3 = .ok (.getfield 27, 3) := by decide +kernel
theorem dX3_has_6 : decode cX3_has 6 = .ok (.iconst 1, 1) := by decide +kernel
theorem dX3_has_7 : decode cX3_has 7 = .ok (.isub, 1) := by decide +kernel
theorem dX3_has_8 : decode cX3_has 8 = .ok (.invokestatic 31, 3) := by decide +kernel
theorem dX3_has_11 : decode cX3_has 11 = .ok (.ireturn, 1) := by decide +kernel
theorem dX3_add_0 : decode cX3_add 0 = .ok (.aload_n 0, 1) := by decide +kernel
theorem dX3_add_1 : decode cX3_add 1 = .ok (.getfield 9, 3) := by decide +kernel
theorem dX3_add_4 : decode cX3_add 4 = .ok (.aload_n 0, 1) := by decide +kernel
theorem dX3_add_5 : decode cX3_add 5 = .ok (.getfield 27, 3) := by decide +kernel
theorem dX3_add_8 : decode cX3_add 8 = .ok (.iload_n 1, 1) := by decide +kernel
theorem dX3_add_9 : decode cX3_add 9 = .ok (.iastore, 1) := by decide +kernel
theorem dX3_add_10 : decode cX3_add 10 = .ok (.aload_n 0, 1) := by decide +kernel
theorem dX3_add_11 : decode cX3_add 11 = .ok (.getfield 15, 3) := by decide +kernel
theorem dX3_add_14 : decode cX3_add 14 = .ok (.aload_n 0, 1) := by decide +kernel
theorem dX3_add_15 : decode cX3_add 15 = .ok (.getfield 27, 3) := by decide +kernel
theorem dX3_add_18 : decode cX3_add 18 = .ok (.iload_n 2, 1) := by decide +kernel
theorem dX3_add_19 : decode cX3_add 19 = .ok (.iastore, 1) := by decide +kernel
theorem dX3_add_20 : decode cX3_add 20 = .ok (.aload_n 0, 1) := by decide +kernel
theorem dX3_add_21 : decode cX3_add 21 = .ok (.getfield 18, 3) := by decide +kernel
theorem dX3_add_24 : decode cX3_add 24 = .ok (.aload_n 0, 1) := by decide +kernel
theorem dX3_add_25 : decode cX3_add 25 = .ok (.getfield 27, 3) := by decide +kernel
theorem dX3_add_28 : decode cX3_add 28 = .ok (.iload_n 3, 1) := by decide +kernel
theorem dX3_add_29 : decode cX3_add 29 = .ok (.iastore, 1) := by decide +kernel
theorem dX3_add_30 : decode cX3_add 30 = .ok (.aload_n 0, 1) := by decide +kernel
theorem dX3_add_31 : decode cX3_add 31 = .ok (.dup, 1) := by decide +kernel
theorem dX3_add_32 : decode cX3_add 32 = .ok (.getfield 27, 3) := by decide +kernel
theorem dX3_add_35 : decode cX3_add 35 = .ok (.iconst 1, 1) := by decide +kernel
theorem dX3_add_36 : decode cX3_add 36 = .ok (.iadd, 1) := by decide +kernel
theorem dX3_add_37 : decode cX3_add 37 = .ok (.putfield 27, 3) := by decide +kernel
theorem dX3_add_40 : decode cX3_add 40 = .ok (.return_, 1) := by decide +kernel
theorem dX3_drop_0 : decode cX3_drop 0 = .ok (.aload_n 0, 1) := by decide +kernel
theorem dX3_drop_1 : decode cX3_drop 1 = .ok (.dup, 1) := by decide +kernel
theorem dX3_drop_2 : decode cX3_drop 2 = .ok (.getfield 27, 3) := by decide +kernel
theorem dX3_drop_5 : decode cX3_drop 5 = .ok (.iconst 1, 1) := by decide +kernel
theorem dX3_drop_6 : decode cX3_drop 6 = .ok (.isub, 1) := by decide +kernel
theorem dX3_drop_7 : decode cX3_drop 7 = .ok (.putfield 27, 3) := by decide +kernel
theorem dX3_drop_10 : decode cX3_drop 10 = .ok (.iload_n 1, 1) := by decide +kernel
theorem dX3_drop_11 : decode cX3_drop 11 = .ok (.istore_n 2, 1) := by decide +kernel
theorem dX3_drop_12 : decode cX3_drop 12 = .ok (.iload_n 2, 1) := by decide +kernel
theorem dX3_drop_13 : decode cX3_drop 13 = .ok (.aload_n 0, 1) := by decide +kernel
theorem dX3_drop_14 : decode cX3_drop 14 = .ok (.getfield 27, 3) := by decide +kernel
theorem dX3_drop_17 : decode cX3_drop 17 = .ok (.if_icmp .ge 51, 3) := by decide +kernel
theorem dX3_drop_20 : decode cX3_drop 20 = .ok (.aload_n 0, 1) := by decide +kernel
theorem dX3_drop_21 : decode cX3_drop 21 = .ok (.getfield 9, 3) := by decide +kernel
theorem dX3_drop_24 : decode cX3_drop 24 = .ok (.iload_n 2, 1) := by decide +kernel
theorem dX3_drop_25 : decode cX3_drop 25 = .ok (.aload_n 0, 1) := by decide +kernel
theorem dX3_drop_26 : decode cX3_drop 26 = .ok (.getfield 9, 3) := by decide +kernel
theorem dX3_drop_29 : decode cX3_drop 29 = .ok (.iload_n 2, 1) := by decide +kernel
theorem dX3_drop_30 : decode cX3_drop 30 = .ok (.iconst 1, 1) := by decide +kernel
theorem dX3_drop_31 : decode cX3_drop 31 = .ok (.iadd, 1) := by decide +kernel
theorem dX3_drop_32 : decode cX3_drop 32 = .ok (.iaload, 1) := by decide +kernel
theorem dX3_drop_33 : decode cX3_drop 33 = .ok (.iastore, 1) := by decide +kernel
theorem dX3_drop_34 : decode cX3_drop 34 = .ok (.aload_n 0, 1) := by decide +kernel
theorem dX3_drop_35 : decode cX3_drop 35 = .ok (.getfield 15, 3) := by decide +kernel
theorem dX3_drop_38 : decode cX3_drop 38 = .ok (.iload_n 2, 1) := by decide +kernel
theorem dX3_drop_39 : decode cX3_drop 39 = .ok (.aload_n 0, 1) := by decide +kernel
theorem dX3_drop_40 : decode cX3_drop 40 = .ok (.getfield 15, 3) := by decide +kernel
theorem dX3_drop_43 : decode cX3_drop 43 = .ok (.iload_n 2, 1) := by decide +kernel
theorem dX3_drop_44 : decode cX3_drop 44 = .ok (.iconst 1, 1) := by decide +kernel
theorem dX3_drop_45 : decode cX3_drop 45 = .ok (.iadd, 1) := by decide +kernel
theorem dX3_drop_46 : decode cX3_drop 46 = .ok (.iaload, 1) := by decide +kernel
theorem dX3_drop_47 : decode cX3_drop 47 = .ok (.iastore, 1) := by decide +kernel
theorem dX3_drop_48 : decode cX3_drop 48 = .ok (.aload_n 0, 1) := by decide +kernel
theorem dX3_drop_49 : decode cX3_drop 49 = .ok (.getfield 18, 3) := by decide +kernel
theorem dX3_drop_52 : decode cX3_drop 52 = .ok (.iload_n 2, 1) := by decide +kernel
theorem dX3_drop_53 : decode cX3_drop 53 = .ok (.aload_n 0, 1) := by decide +kernel
theorem dX3_drop_54 : decode cX3_drop 54 = .ok (.getfield 18, 3) := by decide +kernel
theorem dX3_drop_57 : decode cX3_drop 57 = .ok (.iload_n 2, 1) := by decide +kernel
theorem dX3_drop_58 : decode cX3_drop 58 = .ok (.iconst 1, 1) := by decide +kernel
theorem dX3_drop_59 : decode cX3_drop 59 = .ok (.iadd, 1) := by decide +kernel
theorem dX3_drop_60 : decode cX3_drop 60 = .ok (.iaload, 1) := by decide +kernel
theorem dX3_drop_61 : decode cX3_drop 61 = .ok (.iastore, 1) := by decide +kernel
theorem dX3_drop_62 : decode cX3_drop 62 = .ok (.iinc 2 1, 3) := by decide +kernel
theorem dX3_drop_65 : decode cX3_drop 65 = .ok (.goto (-53), 3) := by decide +kernel
theorem dX3_drop_68 : decode cX3_drop 68 = .ok (.return_, 1) := by decide +kernel
theorem dX3_putInOrder_0 : decode cX3_putInOrder 0 = .ok (.iconst 0, 1) := by decide +kernel
theorem dX3_putInOrder_1 : decode cX3_putInOrder 1 = .ok (.istore_n 2, 1) := by decide +kernel
theorem dX3_putInOrder_2 : decode cX3_putInOrder 2 = .ok (.iload_n 2, 1) := by decide +kernel
theorem dX3_putInOrder_3 : decode cX3_putInOrder 3 = .ok (.aload_n 0, 1) := by decide +kernel
theorem dX3_putInOrder_4 : decode cX3_putInOrder 4 = .ok (.getfield 27, 3) := by decide +kernel
theorem dX3_putInOrder_7 : decode cX3_putInOrder 7 = .ok (.if_icmp .ge 52, 3) := by decide +kernel
theorem dX3_putInOrder_10 : decode cX3_putInOrder 10 = .ok (.iload_n 2, 1) := by decide +kernel
theorem dX3_putInOrder_11 : decode cX3_putInOrder 11 = .ok (.istore_n 3, 1) := by decide +kernel
theorem dX3_putInOrder_12 : decode cX3_putInOrder 12 = .ok (.iload_n 3, 1) := by decide +kernel
theorem dX3_putInOrder_13 : decode cX3_putInOrder 13 = .ok (.ifCond .le 36, 3) := by decide +kernel
theorem dX3_putInOrder_16 : decode cX3_putInOrder 16 = .ok (.aload_n 0, 1) := by decide +kernel
theorem dX3_putInOrder_17 : decode cX3_putInOrder 17 = .ok (.getfield 9, 3) := by decide +kernel
theorem dX3_putInOrder_20 : decode cX3_putInOrder 20 = .ok (.aload_n 1, 1) := by decide +kernel
theorem dX3_putInOrder_21 : decode cX3_putInOrder 21 = .ok (.iload_n 3, 1) := by decide +kernel
theorem dX3_putInOrder_22 : decode cX3_putInOrder 22 = .ok (.iconst 1, 1) := by decide +kernel
theorem dX3_putInOrder_23 : decode cX3_putInOrder 23 = .ok (.isub, 1) := by decide +kernel
theorem dX3_putInOrder_24 : decode cX3_putInOrder 24 = .ok (.iaload, 1) := by decide +kernel
theorem dX3_putInOrder_25 : decode cX3_putInOrder 25 = .ok (.iaload, 1) := by decide +kernel
theorem dX3_putInOrder_26 : decode cX3_putInOrder 26 = .ok (.aload_n 0, 1) := by decide +kernel
theorem dX3_putInOrder_27 : decode cX3_putInOrder 27 = .ok (.getfield 9, 3) := by decide +kernel
theorem dX3_putInOrder_30 : decode cX3_putInOrder 30 = .ok (.iload_n 2, 1) := by decide +kernel
theorem dX3_putInOrder_31 : decode cX3_putInOrder 31 = .ok (.iaload, 1) := by decide +kernel
theorem dX3_putInOrder_32 : decode cX3_putInOrder 32 = .ok (.if_icmp .le 17, 3) := by decide +kernel
theorem dX3_putInOrder_35 : decode cX3_putInOrder 35 = .ok (.aload_n 1, 1) := by decide +kernel
theorem dX3_putInOrder_36 : decode cX3_putInOrder 36 = .ok (.iload_n 3, 1) := by decide +kernel
theorem dX3_putInOrder_37 : decode cX3_putInOrder 37 = .ok (.aload_n 1, 1) := by decide +kernel
theorem dX3_putInOrder_38 : decode cX3_putInOrder 38 = .ok (.iload_n 3, 1) := by decide +kernel
theorem dX3_putInOrder_39 : decode cX3_putInOrder 39 = .ok (.iconst 1, 1) := by decide +kernel
theorem dX3_putInOrder_40 : decode cX3_putInOrder 40 = .ok (.isub, 1) := by decide +kernel
theorem dX3_putInOrder_41 : decode cX3_putInOrder 41 = .ok (.iaload, 1) := by decide +kernel
theorem dX3_putInOrder_42 : decode cX3_putInOrder 42 = .ok (.iastore, 1) := by decide +kernel
theorem dX3_putInOrder_43 : decode cX3_putInOrder 43 = .ok (.iinc 3 (-1), 3) := by decide +kernel
theorem dX3_putInOrder_46 : decode cX3_putInOrder 46 = .ok (.goto (-34), 3) := by decide +kernel
theorem dX3_putInOrder_49 : decode cX3_putInOrder 49 = .ok (.aload_n 1, 1) := by decide +kernel
theorem dX3_putInOrder_50 : decode cX3_putInOrder 50 = .ok (.iload_n 3, 1) := by decide +kernel
theorem dX3_putInOrder_51 : decode cX3_putInOrder 51 = .ok (.iload_n 2, 1) := by decide +kernel
theorem dX3_putInOrder_52 : decode cX3_putInOrder 52 = .ok (.iastore, 1) := by decide +kernel
theorem dX3_putInOrder_53 : decode cX3_putInOrder 53 = .ok (.iinc 2 1, 3) := by decide +kernel
theorem dX3_putInOrder_56 : decode cX3_putInOrder 56 = .ok (.goto (-54), 3) := by decide +kernel
theorem dX3_putInOrder_59 : decode cX3_putInOrder 59 = .ok (.return_, 1) := by decide +kernel
theorem dX4_init_0 : decode cX4_init 0 = .ok (.aload_n 0, 1) := by decide +kernel
theorem dX4_init_1 : decode cX4_init 1 = .ok (.invokespecial 3, 3) := by decide +kernel
theorem dX4_init_4 : decode cX4_init 4 = .ok (.aload_n 0, 1) := by decide +kernel
theorem dX4_init_5 : decode cX4_init 5 = .ok (.iconst 4, 1) := by decide +kernel
theorem dX4_init_6 : decode cX4_init 6 = .ok (.anewarray 9, 3) := by decide +kernel
theorem dX4_init_9 : decode cX4_init 9 = .ok (.putfield 11, 3) := by decide +kernel
theorem dX4_init_12 : decode cX4_init 12 = .ok (.aload_n 0, 1) := by decide +kernel
theorem dX4_init_13 : decode cX4_init 13 = .ok (.bipush 40, 2) := by decide +kernel
theorem dX4_init_15 : decode cX4_init 15 = .ok (.newarray .int, 2) := by decide +kernel
theorem dX4_init_17 : decode cX4_init 17 = .ok (.putfield 17, 3) := by decide +kernel
theorem dX4_init_20 : decode cX4_init 20 = .ok (.aload_n 0, 1) := by decide +kernel
theorem dX4_init_21 : decode cX4_init 21 = .ok (.bipush 40, 2) := by decide +kernel
theorem dX4_init_23 : decode cX4_init 23 = .ok (.newarray .int, 2) := by decide +kernel
theorem dX4_init_25 : decode cX4_init 25 = .ok (.putfield 21, 3) := by decide +kernel
theorem dX4_init_28 : decode cX4_init 28 = .ok (.aload_n 0, 1) := by decide +kernel
theorem dX4_init_29 : decode cX4_init 29 = .ok (.bipush 8, 2) := by decide +kernel
theorem dX4_init_31 : decode cX4_init 31 = .ok (.newarray .int, 2) := by decide +kernel
theorem dX4_init_33 : decode cX4_init 33 = .ok (.putfield 24, 3) := by decide +kernel
theorem dX4_init_36 : decode cX4_init 36 = .ok (.aload_n 0, 1) := by decide +kernel
theorem dX4_init_37 : decode cX4_init 37 = .ok (.iconst 1, 1) := by decide +kernel
theorem dX4_init_38 : decode cX4_init 38 = .ok (.putfield 27, 3) := by decide +kernel
theorem dX4_init_41 : decode cX4_init 41 = .ok (.iconst 0, 1) := by decide +kernel
theorem dX4_init_42 : decode cX4_init 42 = .ok (.istore_n 1, 1) := by decide +kernel
theorem dX4_init_43 : decode cX4_init 43 = .ok (.iload_n 1, 1) := by decide +kernel
theorem dX4_init_44 : decode cX4_init 44 = .ok (.iconst 4, 1) := by decide +kernel
theorem dX4_init_45 : decode cX4_init 45 = .ok (.if_icmp .ge 22, 3) := by decide +kernel
theorem dX4_init_48 : decode cX4_init 48 = .ok (.aload_n 0, 1) := by decide +kernel
theorem dX4_init_49 : decode cX4_init 49 = .ok (.getfield 11, 3) := by decide +kernel
theorem dX4_init_52 : decode cX4_init 52 = .ok (.iload_n 1, 1) := by decide +kernel
theorem dX4_init_53 : decode cX4_init 53 = .ok (.new 9, 3) := by decide +kernel
theorem dX4_init_56 : decode cX4_init 56 = .ok (.dup, 1) := by decide +kernel
theorem dX4_init_57 : decode cX4_init 57 = .ok (.invokespecial 31, 3) := by decide +kernel
theorem dX4_init_60 : decode cX4_init 60 = .ok (.aastore, 1) := by decide +kernel
theorem dX4_init_61 : decode cX4_init 61 = .ok (.iinc 1 1, 3) := by decide +kernel
theorem dX4_init_64 : decode cX4_init 64 = .ok (.goto (-21), 3) := by decide +kernel
theorem dX4_init_67 : decode cX4_init 67 = .ok (.return_, 1) := by decide +kernel
theorem dX4_makeStale_0 : decode cX4_makeStale 0 = .ok (.aload_n 0, 1) := by decide +kernel
theorem dX4_makeStale_1 : decode cX4_makeStale 1 = .ok (.iconst 1, 1) := by decide +kernel
theorem dX4_makeStale_2 : decode cX4_makeStale 2 = .ok (.putfield 27, 3) := by decide +kernel
theorem dX4_makeStale_5 : decode cX4_makeStale 5 = .ok (.return_, 1) := by decide +kernel
theorem dX4_goOnTo_0 : decode cX4_goOnTo 0 = .ok (.aload_n 0, 1) := by decide +kernel
theorem dX4_goOnTo_1 : decode cX4_goOnTo 1 = .ok (.getfield 27, 3) := by decide +kernel
theorem dX4_goOnTo_4 : decode cX4_goOnTo 4 = .ok (.ifCond .ne 11, 3) := by decide +kernel
theorem dX4_goOnTo_7 : decode cX4_goOnTo 7 = .ok (.aload_n 0, 1) := by decide +kernel
theorem dX4_goOnTo_8 : decode cX4_goOnTo 8 = .ok (.getfield 32, 3) := by decide +kernel
theorem dX4_goOnTo_11 : decode cX4_goOnTo 11 = .ok (.iload_n 2, 1) := by decide +kernel
theorem dX4_goOnTo_12 : decode cX4_goOnTo 12 = .ok (.if_icmp .le 11, 3) := by decide +kernel
theorem dX4_goOnTo_15 : decode cX4_goOnTo 15 = .ok (.aload_n 0, 1) := by decide +kernel
theorem dX4_goOnTo_16 : decode cX4_goOnTo 16 = .ok (.aload_n 1, 1) := by decide +kernel
theorem dX4_goOnTo_17 : decode cX4_goOnTo 17 = .ok (.getfield 36, 3) := by decide +kernel
theorem dX4_goOnTo_20 : decode cX4_goOnTo 20 = .ok (.invokevirtual 42, 3) := by decide +kernel
theorem dX4_goOnTo_23 : decode cX4_goOnTo 23 = .ok (.aload_n 0, 1) := by decide +kernel
theorem dX4_goOnTo_24 : decode cX4_goOnTo 24 = .ok (.getfield 32, 3) := by decide +kernel
theorem dX4_goOnTo_27 : decode cX4_goOnTo 27 = .ok (.istore_n 3, 1) := by decide +kernel
theorem dX4_goOnTo_28 : decode cX4_goOnTo 28 = .ok (.iload_n 3, 1) := by decide +kernel
theorem dX4_goOnTo_29 : decode cX4_goOnTo 29 = .ok (.iload_n 2, 1) := by decide +kernel
theorem dX4_goOnTo_30 : decode cX4_goOnTo 30 = .ok (.if_icmp .ge 47, 3) := by decide +kernel
theorem dX4_goOnTo_33 : decode cX4_goOnTo 33 = .ok (.aload_n 0, 1) := by decide +kernel
theorem dX4_goOnTo_34 : decode cX4_goOnTo 34 = .ok (.aload_n 1, 1) := by decide +kernel
theorem dX4_goOnTo_35 : decode cX4_goOnTo 35 = .ok (.iload_n 3, 1) := by decide +kernel
theorem dX4_goOnTo_36 : decode cX4_goOnTo 36 = .ok (.invokevirtual 46, 3) := by decide +kernel
theorem dX4_goOnTo_39 : decode cX4_goOnTo 39 = .ok (.iconst 0, 1) := by decide +kernel
theorem dX4_goOnTo_40 : decode cX4_goOnTo 40 = .ok (.istore 4, 2) := by decide +kernel
theorem dX4_goOnTo_42 : decode cX4_goOnTo 42 = .ok (.iload 4, 2) := by decide +kernel
theorem dX4_goOnTo_44 : decode cX4_goOnTo 44 = .ok (.iconst 4, 1) := by decide +kernel
theorem dX4_goOnTo_45 : decode cX4_goOnTo 45 = .ok (.if_icmp .ge 26, 3) := by decide +kernel
theorem dX4_goOnTo_48 : decode cX4_goOnTo 48 = .ok (.aload_n 0, 1) := by decide +kernel
theorem dX4_goOnTo_49 : decode cX4_goOnTo 49 = .ok (.getfield 11, 3) := by decide +kernel
theorem dX4_goOnTo_52 : decode cX4_goOnTo 52 = .ok (.iload 4, 2) := by decide +kernel
theorem dX4_goOnTo_54 : decode cX4_goOnTo 54 = .ok (.aaload, 1) := by decide +kernel
theorem dX4_goOnTo_55 : decode cX4_goOnTo 55 = .ok (.aload_n 1, 1) := by decide +kernel
theorem dX4_goOnTo_56 : decode cX4_goOnTo 56 = .ok (.getfield 50, 3) := by decide +kernel
theorem dX4_goOnTo_59 : decode cX4_goOnTo 59 = .ok (.iload 4, 2) := by decide +kernel
theorem dX4_goOnTo_61 : decode cX4_goOnTo 61 = .ok (.aaload, 1) := by decide +kernel
theorem dX4_goOnTo_62 : decode cX4_goOnTo 62 = .ok (.invokevirtual 54, 3) := by decide +kernel
theorem dX4_goOnTo_65 : decode cX4_goOnTo 65 = .ok (.iinc 4 1, 3) := by decide +kernel
theorem dX4_goOnTo_68 : decode cX4_goOnTo 68 = .ok (.goto (-26), 3) := by decide +kernel
theorem dX4_goOnTo_71 : decode cX4_goOnTo 71 = .ok (.iinc 3 1, 3) := by decide +kernel
theorem dX4_goOnTo_74 : decode cX4_goOnTo 74 = .ok (.goto (-46), 3) := by decide +kernel
theorem dX4_goOnTo_77 : decode cX4_goOnTo 77 = .ok (.aload_n 0, 1) := by decide +kernel
theorem dX4_goOnTo_78 : decode cX4_goOnTo 78 = .ok (.iload_n 2, 1) := by decide +kernel
theorem dX4_goOnTo_79 : decode cX4_goOnTo 79 = .ok (.putfield 32, 3) := by decide +kernel
theorem dX4_goOnTo_82 : decode cX4_goOnTo 82 = .ok (.return_, 1) := by decide +kernel
theorem dX4_begin_0 : decode cX4_begin 0 = .ok (.iconst 0, 1) := by decide +kernel
theorem dX4_begin_1 : decode cX4_begin 1 = .ok (.istore_n 2, 1) := by decide +kernel
theorem dX4_begin_2 : decode cX4_begin 2 = .ok (.iload_n 2, 1) := by decide +kernel
theorem dX4_begin_3 : decode cX4_begin 3 = .ok (.iconst 4, 1) := by decide +kernel
theorem dX4_begin_4 : decode cX4_begin 4 = .ok (.if_icmp .ge 18, 3) := by decide +kernel
theorem dX4_begin_7 : decode cX4_begin 7 = .ok (.aload_n 0, 1) := by decide +kernel
theorem dX4_begin_8 : decode cX4_begin 8 = .ok (.getfield 11, 3) := by decide +kernel
theorem dX4_begin_11 : decode cX4_begin 11 = .ok (.iload_n 2, 1) := by decide +kernel
theorem dX4_begin_12 : decode cX4_begin 12 = .ok (.aaload, 1) := by decide +kernel
theorem dX4_begin_13 : decode cX4_begin 13 = .ok (.invokevirtual 58, 3) := by decide +kernel
theorem dX4_begin_16 : decode cX4_begin 16 = .ok (.iinc 2 1, 3) := by decide +kernel
theorem dX4_begin_19 : decode cX4_begin 19 = .ok (.goto (-17), 3) := by decide +kernel
theorem dX4_begin_22 : decode cX4_begin 22 = .ok (.iconst 0, 1) := by decide +kernel
theorem dX4_begin_23 : decode cX4_begin 23 = .ok (.istore_n 2, 1) := by decide +kernel
theorem dX4_begin_24 : decode cX4_begin 24 = .ok (.iload_n 2, 1) := by decide +kernel
theorem dX4_begin_25 : decode cX4_begin 25 = .ok (.bipush 40, 2) := by decide +kernel
theorem dX4_begin_27 : decode cX4_begin 27 = .ok (.if_icmp .ge 16, 3) := by decide +kernel
theorem dX4_begin_30 : decode cX4_begin 30 = .ok (.aload_n 0, 1) := by decide +kernel
theorem dX4_begin_31 : decode cX4_begin 31 = .ok (.getfield 21, 3) := by decide +kernel
theorem dX4_begin_34 : decode cX4_begin 34 = .ok (.iload_n 2, 1) := by decide +kernel
theorem dX4_begin_35 : decode cX4_begin 35 = .ok (.iconst 0, 1) := by decide +kernel
theorem dX4_begin_36 : decode cX4_begin 36 = .ok (.iastore, 1) := by decide +kernel
theorem dX4_begin_37 : decode cX4_begin 37 = .ok (.iinc 2 1, 3) := by decide +kernel
theorem dX4_begin_40 : decode cX4_begin 40 = .ok (.goto (-16), 3) := by decide +kernel
theorem dX4_begin_43 : decode cX4_begin 43 = .ok (.aload_n 1, 1) := by decide +kernel
theorem dX4_begin_44 : decode cX4_begin 44 = .ok (.aload_n 0, 1) := by decide +kernel
theorem dX4_begin_45 : decode cX4_begin 45 = .ok (.getfield 17, 3) := by decide +kernel
theorem dX4_begin_48 : decode cX4_begin 48 = .ok (.invokevirtual 60, 3) := by decide +kernel
theorem dX4_begin_51 : decode cX4_begin 51 = .ok (.aload_n 0, 1) := by decide +kernel
theorem dX4_begin_52 : decode cX4_begin 52 = .ok (.iconst 0, 1) := by decide +kernel
theorem dX4_begin_53 : decode cX4_begin 53 = .ok (.putfield 66, 3) := by decide +kernel
theorem dX4_begin_56 : decode cX4_begin 56 = .ok (.aload_n 0, 1) := by decide +kernel
theorem dX4_begin_57 : decode cX4_begin 57 = .ok (.iconst 0, 1) := by decide +kernel
theorem dX4_begin_58 : decode cX4_begin 58 = .ok (.putfield 69, 3) := by decide +kernel
theorem dX4_begin_61 : decode cX4_begin 61 = .ok (.aload_n 0, 1) := by decide +kernel
theorem dX4_begin_62 : decode cX4_begin 62 = .ok (.iconst 0, 1) := by decide +kernel
theorem dX4_begin_63 : decode cX4_begin 63 = .ok (.putfield 72, 3) := by decide +kernel
theorem dX4_begin_66 : decode cX4_begin 66 = .ok (.aload_n 0, 1) := by decide +kernel
theorem dX4_begin_67 : decode cX4_begin 67 = .ok (.iconst 0, 1) := by decide +kernel
theorem dX4_begin_68 : decode cX4_begin 68 = .ok (.putfield 32, 3) := by decide +kernel
theorem dX4_begin_71 : decode cX4_begin 71 = .ok (.aload_n 0, 1) := by decide +kernel
theorem dX4_begin_72 : decode cX4_begin 72 = .ok (.iconst 0, 1) := by decide +kernel
theorem dX4_begin_73 : decode cX4_begin 73 = .ok (.putfield 27, 3) := by decide +kernel
theorem dX4_begin_76 : decode cX4_begin 76 = .ok (.return_, 1) := by decide +kernel
theorem dX4_serveAllOf_0 : decode cX4_serveAllOf 0 = .ok (.aload_n 1, 1) := by decide +kernel
theorem dX4_serveAllOf_1 : decode cX4_serveAllOf 1 = .ok (.getfield 36, 3) := by decide +kernel
theorem dX4_serveAllOf_4 : decode cX4_serveAllOf 4 = .ok (.astore_n 3, 1) := by decide +kernel
theorem dX4_serveAllOf_5 : decode cX4_serveAllOf 5 = .ok (.aload_n 0, 1) := by decide +kernel
theorem dX4_serveAllOf_6 : decode cX4_serveAllOf 6 = .ok (.getfield 72, 3) := by decide +kernel
theorem dX4_serveAllOf_9 : decode cX4_serveAllOf 9 = .ok (.istore 4, 2) := by decide +kernel
theorem dX4_serveAllOf_11 : decode cX4_serveAllOf 11 = .ok (.iload 4, 2) := by decide +kernel
theorem dX4_serveAllOf_13 : decode cX4_serveAllOf 13 = .ok (.aload_n 3, 1) := by decide +kernel
theorem dX4_serveAllOf_14 : decode cX4_serveAllOf 14 = .ok (.getfield 75, 3) := by decide +kernel
theorem dX4_serveAllOf_17 : decode cX4_serveAllOf 17 = .ok (.if_icmp .ge 37, 3) := by decide +kernel
theorem dX4_serveAllOf_20 : decode cX4_serveAllOf 20 = .ok (.aload_n 3, 1) := by decide +kernel
theorem dX4_serveAllOf_21 : decode cX4_serveAllOf 21 = .ok (.getfield 76, 3) := by decide +kernel
theorem dX4_serveAllOf_24 : decode cX4_serveAllOf 24 = .ok (.aload_n 0, 1) := by decide +kernel
theorem dX4_serveAllOf_25 : decode cX4_serveAllOf 25 = .ok (.getfield 17, 3) := by decide +kernel
theorem dX4_serveAllOf_28 : decode cX4_serveAllOf 28 = .ok (.iload 4, 2) := by decide +kernel
theorem dX4_serveAllOf_30 : decode cX4_serveAllOf 30 = .ok (.iaload, 1) := by decide +kernel
theorem dX4_serveAllOf_31 : decode cX4_serveAllOf 31 = .ok (.iaload, 1) := by decide +kernel
theorem dX4_serveAllOf_32 : decode cX4_serveAllOf 32 = .ok (.iload_n 2, 1) := by decide +kernel
theorem dX4_serveAllOf_33 : decode cX4_serveAllOf 33 = .ok (.if_icmp .ne 21, 3) := by decide +kernel
theorem dX4_serveAllOf_36 : decode cX4_serveAllOf 36 = .ok (.aload_n 0, 1) := by decide +kernel
theorem dX4_serveAllOf_37 : decode cX4_serveAllOf 37 = .ok (.aload_n 1, 1) := by decide +kernel
theorem dX4_serveAllOf_38 : decode cX4_serveAllOf 38 = .ok (.aload_n 0, 1) := by decide +kernel
theorem dX4_serveAllOf_39 : decode cX4_serveAllOf 39 = .ok (.getfield 17, 3) := by decide +kernel
theorem dX4_serveAllOf_42 : decode cX4_serveAllOf 42 = .ok (.iload 4, 2) := by decide +kernel
theorem dX4_serveAllOf_44 : decode cX4_serveAllOf 44 = .ok (.iaload, 1) := by decide +kernel
theorem dX4_serveAllOf_45 : decode cX4_serveAllOf 45 = .ok (.invokevirtual 79, 3) := by decide +kernel
theorem dX4_serveAllOf_48 : decode cX4_serveAllOf 48 = .ok (.iinc 4 1, 3) := by decide +kernel
theorem dX4_serveAllOf_51 : decode cX4_serveAllOf 51 = .ok (.goto (-40), 3) := by decide +kernel
theorem dX4_serveAllOf_54 : decode cX4_serveAllOf 54 = .ok (.aload_n 0, 1) := by decide +kernel
theorem dX4_serveAllOf_55 : decode cX4_serveAllOf 55 = .ok (.iload 4, 2) := by decide +kernel
theorem dX4_serveAllOf_57 : decode cX4_serveAllOf 57 = .ok (.putfield 72, 3) := by decide +kernel
theorem dX4_serveAllOf_60 : decode cX4_serveAllOf 60 = .ok (.return_, 1) := by decide +kernel
theorem dX4_serve_0 : decode cX4_serve 0 = .ok (.aload_n 1, 1) := by decide +kernel
theorem dX4_serve_1 : decode cX4_serve 1 = .ok (.getfield 36, 3) := by decide +kernel
theorem dX4_serve_4 : decode cX4_serve 4 = .ok (.getfield 82, 3) := by decide +kernel
theorem dX4_serve_7 : decode cX4_serve 7 = .ok (.iload_n 2, 1) := by decide +kernel
theorem dX4_serve_8 : decode cX4_serve 8 = .ok (.iaload, 1) := by decide +kernel
theorem dX4_serve_9 : decode cX4_serve 9 = .ok (.istore_n 3, 1) := by decide +kernel
theorem dX4_serve_10 : decode cX4_serve 10 = .ok (.aload_n 1, 1) := by decide +kernel
theorem dX4_serve_11 : decode cX4_serve 11 = .ok (.getfield 36, 3) := by decide +kernel
theorem dX4_serve_14 : decode cX4_serve 14 = .ok (.getfield 84, 3) := by decide +kernel
theorem dX4_serve_17 : decode cX4_serve 17 = .ok (.iload_n 2, 1) := by decide +kernel
theorem dX4_serve_18 : decode cX4_serve 18 = .ok (.iaload, 1) := by decide +kernel
theorem dX4_serve_19 : decode cX4_serve 19 = .ok (.iconst 1, 1) := by decide +kernel
theorem dX4_serve_20 : decode cX4_serve 20 = .ok (.if_icmp .ne 7, 3) := by decide +kernel
theorem dX4_serve_23 : decode cX4_serve 23 = .ok (.iconst 1, 1) := by decide +kernel
theorem dX4_serve_24 : decode cX4_serve 24 = .ok (.goto 4, 3) := by decide +kernel
theorem dX4_serve_27 : decode cX4_serve 27 = .ok (.iconst 0, 1) := by decide +kernel
theorem dX4_serve_28 : decode cX4_serve 28 = .ok (.istore 4, 2) := by decide +kernel
theorem dX4_serve_30 : decode cX4_serve 30 = .ok (.aload_n 0, 1) := by decide +kernel
theorem dX4_serve_31 : decode cX4_serve 31 = .ok (.getfield 11, 3) := by decide +kernel
theorem dX4_serve_34 : decode cX4_serve 34 = .ok (.iload_n 3, 1) := by decide +kernel
theorem dX4_serve_35 : decode cX4_serve 35 = .ok (.aaload, 1) := by decide +kernel
theorem dX4_serve_36 : decode cX4_serve 36 = .ok (.astore 5, 2) := by decide +kernel
theorem dX4_serve_38 : decode cX4_serve 38 = .ok (.aload 5, 2) := by decide +kernel
theorem dX4_serve_40 : decode cX4_serve 40 = .ok (.invokevirtual 87, 3) := by decide +kernel
theorem dX4_serve_43 : decode cX4_serve 43 = .ok (.istore 6, 2) := by decide +kernel
theorem dX4_serve_45 : decode cX4_serve 45 = .ok (.iload 4, 2) := by decide +kernel
theorem dX4_serve_47 : decode cX4_serve 47 = .ok (.ifCond .eq 32, 3) := by decide +kernel
theorem dX4_serve_50 : decode cX4_serve 50 = .ok (.iload 6, 2) := by decide +kernel
theorem dX4_serve_52 : decode cX4_serve 52 = .ok (.ifCond .eq 27, 3) := by decide +kernel
theorem dX4_serve_55 : decode cX4_serve 55 = .ok (.aload_n 0, 1) := by decide +kernel
theorem dX4_serve_56 : decode cX4_serve 56 = .ok (.getfield 66, 3) := by decide +kernel
theorem dX4_serve_59 : decode cX4_serve 59 = .ok (.aload_n 1, 1) := by decide +kernel
theorem dX4_serve_60 : decode cX4_serve 60 = .ok (.getfield 91, 3) := by decide +kernel
theorem dX4_serve_63 : decode cX4_serve 63 = .ok (.bipush 8, 2) := by decide +kernel
theorem dX4_serve_65 : decode cX4_serve 65 = .ok (.invokestatic 94, 3) := by decide +kernel
theorem dX4_serve_68 : decode cX4_serve 68 = .ok (.if_icmp .ge 11, 3) := by decide +kernel
theorem dX4_serve_71 : decode cX4_serve 71 = .ok (.aload_n 0, 1) := by decide +kernel
theorem dX4_serve_72 : decode cX4_serve 72 = .ok (.aload 5, 2) := by decide +kernel
theorem dX4_serve_74 : decode cX4_serve 74 = .ok (.iload_n 2, 1) := by decide +kernel
theorem dX4_serve_75 : decode cX4_serve 75 = .ok (.invokevirtual 100, 3) := by decide +kernel
theorem dX4_serve_78 : decode cX4_serve 78 = .ok (.return_, 1) := by decide +kernel
theorem dX4_serve_79 : decode cX4_serve 79 = .ok (.iload 6, 2) := by decide +kernel
theorem dX4_serve_81 : decode cX4_serve 81 = .ok (.ifCond .eq 9, 3) := by decide +kernel
theorem dX4_serve_84 : decode cX4_serve 84 = .ok (.aload_n 0, 1) := by decide +kernel
theorem dX4_serve_85 : decode cX4_serve 85 = .ok (.aload_n 1, 1) := by decide +kernel
theorem dX4_serve_86 : decode cX4_serve 86 = .ok (.iload_n 3, 1) := by decide +kernel
theorem dX4_serve_87 : decode cX4_serve 87 = .ok (.invokevirtual 104, 3) := by decide +kernel
theorem dX4_serve_90 : decode cX4_serve 90 = .ok (.aload 5, 2) := by decide +kernel
theorem dX4_serve_92 : decode cX4_serve 92 = .ok (.aload_n 1, 1) := by decide +kernel
theorem dX4_serve_93 : decode cX4_serve 93 = .ok (.getfield 50, 3) := by decide +kernel
theorem dX4_serve_96 : decode cX4_serve 96 = .ok (.iload_n 3, 1) := by decide +kernel
theorem dX4_serve_97 : decode cX4_serve 97 = .ok (.aaload, 1) := by decide +kernel
theorem dX4_serve_98 : decode cX4_serve 98 = .ok (.invokevirtual 107, 3) := by decide +kernel
theorem dX4_serve_101 : decode cX4_serve 101 = .ok (.invokevirtual 113, 3) := by decide +kernel
theorem dX4_serve_104 : decode cX4_serve 104 = .ok (.iload 4, 2) := by decide +kernel
theorem dX4_serve_106 : decode cX4_serve 106 = .ok (.ifCond .eq 34, 3) := by decide +kernel
theorem dX4_serve_109 : decode cX4_serve 109 = .ok (.aload 5, 2) := by decide +kernel
theorem dX4_serve_111 : decode cX4_serve 111 = .ok (.dup, 1) := by decide +kernel
theorem dX4_serve_112 : decode cX4_serve 112 = .ok (.getfield 117, 3) := by decide +kernel
theorem dX4_serve_115 : decode cX4_serve 115 = .ok (.iconst 1, 1) := by decide +kernel
theorem dX4_serve_116 : decode cX4_serve 116 = .ok (.iadd, 1) := by decide +kernel
theorem dX4_serve_117 : decode cX4_serve 117 = .ok (.putfield 117, 3) := by decide +kernel
theorem dX4_serve_120 : decode cX4_serve 120 = .ok (.aload_n 0, 1) := by decide +kernel
theorem dX4_serve_121 : decode cX4_serve 121 = .ok (.getfield 21, 3) := by decide +kernel
theorem dX4_serve_124 : decode cX4_serve 124 = .ok (.iload_n 2, 1) := by decide +kernel
theorem dX4_serve_125 : decode cX4_serve 125 = .ok (.iload 6, 2) := by decide +kernel
theorem dX4_serve_127 : decode cX4_serve 127 = .ok (.ifCond .eq 8, 3) := by decide +kernel
theorem dX4_serve_130 : decode cX4_serve 130 = .ok (.bipush 6, 2) := by decide +kernel
theorem dX4_serve_132 : decode cX4_serve 132 = .ok (.goto 4, 3) := by decide +kernel
theorem dX4_serve_135 : decode cX4_serve 135 = .ok (.iconst 3, 1) := by decide +kernel
theorem dX4_serve_136 : decode cX4_serve 136 = .ok (.iastore, 1) := by decide +kernel
theorem dX4_serve_137 : decode cX4_serve 137 = .ok (.goto 30, 3) := by decide +kernel
theorem dX4_serve_140 : decode cX4_serve 140 = .ok (.aload 5, 2) := by decide +kernel
theorem dX4_serve_142 : decode cX4_serve 142 = .ok (.dup, 1) := by decide +kernel
theorem dX4_serve_143 : decode cX4_serve 143 = .ok (.getfield 120, 3) := by decide +kernel
theorem dX4_serve_146 : decode cX4_serve 146 = .ok (.iconst 1, 1) := by decide +kernel
theorem dX4_serve_147 : decode cX4_serve 147 = .ok (.iadd, 1) := by decide +kernel
theorem dX4_serve_148 : decode cX4_serve 148 = .ok (.putfield 120, 3) := by decide +kernel
theorem dX4_serve_151 : decode cX4_serve 151 = .ok (.aload_n 0, 1) := by decide +kernel
theorem dX4_serve_152 : decode cX4_serve 152 = .ok (.getfield 21, 3) := by decide +kernel
theorem dX4_serve_155 : decode cX4_serve 155 = .ok (.iload_n 2, 1) := by decide +kernel
theorem dX4_serve_156 : decode cX4_serve 156 = .ok (.iload 6, 2) := by decide +kernel
theorem dX4_serve_158 : decode cX4_serve 158 = .ok (.ifCond .eq 7, 3) := by decide +kernel
theorem dX4_serve_161 : decode cX4_serve 161 = .ok (.iconst 2, 1) := by decide +kernel
theorem dX4_serve_162 : decode cX4_serve 162 = .ok (.goto 4, 3) := by decide +kernel
theorem dX4_serve_165 : decode cX4_serve 165 = .ok (.iconst 1, 1) := by decide +kernel
theorem dX4_serve_166 : decode cX4_serve 166 = .ok (.iastore, 1) := by decide +kernel
theorem dX4_serve_167 : decode cX4_serve 167 = .ok (.return_, 1) := by decide +kernel
theorem dX4_enter_0 : decode cX4_enter 0 = .ok (.aload_n 0, 1) := by decide +kernel
theorem dX4_enter_1 : decode cX4_enter 1 = .ok (.getfield 24, 3) := by decide +kernel
theorem dX4_enter_4 : decode cX4_enter 4 = .ok (.aload_n 0, 1) := by decide +kernel
theorem dX4_enter_5 : decode cX4_enter 5 = .ok (.getfield 66, 3) := by decide +kernel
theorem dX4_enter_8 : decode cX4_enter 8 = .ok (.iload_n 2, 1) := by decide +kernel
theorem dX4_enter_9 : decode cX4_enter 9 = .ok (.iastore, 1) := by decide +kernel
theorem dX4_enter_10 : decode cX4_enter 10 = .ok (.aload_n 0, 1) := by decide +kernel
theorem dX4_enter_11 : decode cX4_enter 11 = .ok (.dup, 1) := by decide +kernel
theorem dX4_enter_12 : decode cX4_enter 12 = .ok (.getfield 66, 3) := by decide +kernel
theorem dX4_enter_15 : decode cX4_enter 15 = .ok (.iconst 1, 1) := by decide +kernel
theorem dX4_enter_16 : decode cX4_enter 16 = .ok (.iadd, 1) := by decide +kernel
theorem dX4_enter_17 : decode cX4_enter 17 = .ok (.putfield 66, 3) := by decide +kernel
theorem dX4_enter_20 : decode cX4_enter 20 = .ok (.aload_n 0, 1) := by decide +kernel
theorem dX4_enter_21 : decode cX4_enter 21 = .ok (.aload_n 0, 1) := by decide +kernel
theorem dX4_enter_22 : decode cX4_enter 22 = .ok (.getfield 69, 3) := by decide +kernel
theorem dX4_enter_25 : decode cX4_enter 25 = .ok (.aload_n 0, 1) := by decide +kernel
theorem dX4_enter_26 : decode cX4_enter 26 = .ok (.getfield 66, 3) := by decide +kernel
theorem dX4_enter_29 : decode cX4_enter 29 = .ok (.invokestatic 123, 3) := by decide +kernel
theorem dX4_enter_32 : decode cX4_enter 32 = .ok (.putfield 69, 3) := by decide +kernel
theorem dX4_enter_35 : decode cX4_enter 35 = .ok (.aload_n 1, 1) := by decide +kernel
theorem dX4_enter_36 : decode cX4_enter 36 = .ok (.dup, 1) := by decide +kernel
theorem dX4_enter_37 : decode cX4_enter 37 = .ok (.getfield 126, 3) := by decide +kernel
theorem dX4_enter_40 : decode cX4_enter 40 = .ok (.iconst 1, 1) := by decide +kernel
theorem dX4_enter_41 : decode cX4_enter 41 = .ok (.iadd, 1) := by decide +kernel
theorem dX4_enter_42 : decode cX4_enter 42 = .ok (.putfield 126, 3) := by decide +kernel
theorem dX4_enter_45 : decode cX4_enter 45 = .ok (.aload_n 0, 1) := by decide +kernel
theorem dX4_enter_46 : decode cX4_enter 46 = .ok (.getfield 21, 3) := by decide +kernel
theorem dX4_enter_49 : decode cX4_enter 49 = .ok (.iload_n 2, 1) := by decide +kernel
theorem dX4_enter_50 : decode cX4_enter 50 = .ok (.iconst 5, 1) := by decide +kernel
theorem dX4_enter_51 : decode cX4_enter 51 = .ok (.iastore, 1) := by decide +kernel
theorem dX4_enter_52 : decode cX4_enter 52 = .ok (.return_, 1) := by decide +kernel
theorem dX4_wakeUp_0 : decode cX4_wakeUp 0 = .ok (.aload_n 0, 1) := by decide +kernel
theorem dX4_wakeUp_1 : decode cX4_wakeUp 1 = .ok (.getfield 11, 3) := by decide +kernel
theorem dX4_wakeUp_4 : decode cX4_wakeUp 4 = .ok (.iload_n 2, 1) := by decide +kernel
theorem dX4_wakeUp_5 : decode cX4_wakeUp 5 = .ok (.aaload, 1) := by decide +kernel
theorem dX4_wakeUp_6 : decode cX4_wakeUp 6 = .ok (.astore_n 3, 1) := by decide +kernel
theorem dX4_wakeUp_7 : decode cX4_wakeUp 7 = .ok (.aload_n 3, 1) := by decide +kernel
theorem dX4_wakeUp_8 : decode cX4_wakeUp 8 = .ok (.dup, 1) := by decide +kernel
theorem dX4_wakeUp_9 : decode cX4_wakeUp 9 = .ok (.getfield 129, 3) := by decide +kernel
theorem dX4_wakeUp_12 : decode cX4_wakeUp 12 = .ok (.aload_n 1, 1) := by decide +kernel
theorem dX4_wakeUp_13 : decode cX4_wakeUp 13 = .ok (.getfield 50, 3) := by decide +kernel
theorem dX4_wakeUp_16 : decode cX4_wakeUp 16 = .ok (.iload_n 2, 1) := by decide +kernel
theorem dX4_wakeUp_17 : decode cX4_wakeUp 17 = .ok (.aaload, 1) := by decide +kernel
theorem dX4_wakeUp_18 : decode cX4_wakeUp 18 = .ok (.getfield 132, 3) := by decide +kernel
theorem dX4_wakeUp_21 : decode cX4_wakeUp 21 = .ok (.aload_n 3, 1) := by decide +kernel
theorem dX4_wakeUp_22 : decode cX4_wakeUp 22 = .ok (.getfield 135, 3) := by decide +kernel
theorem dX4_wakeUp_25 : decode cX4_wakeUp 25 = .ok (.iaload, 1) := by decide +kernel
theorem dX4_wakeUp_26 : decode cX4_wakeUp 26 = .ok (.iadd, 1) := by decide +kernel
theorem dX4_wakeUp_27 : decode cX4_wakeUp 27 = .ok (.putfield 129, 3) := by decide +kernel
theorem dX4_wakeUp_30 : decode cX4_wakeUp 30 = .ok (.aload_n 3, 1) := by decide +kernel
theorem dX4_wakeUp_31 : decode cX4_wakeUp 31 = .ok (.dup, 1) := by decide +kernel
theorem dX4_wakeUp_32 : decode cX4_wakeUp 32 = .ok (.getfield 138, 3) := by decide +kernel
theorem dX4_wakeUp_35 : decode cX4_wakeUp 35 = .ok (.iconst 1, 1) := by decide +kernel
theorem dX4_wakeUp_36 : decode cX4_wakeUp 36 = .ok (.iadd, 1) := by decide +kernel
theorem dX4_wakeUp_37 : decode cX4_wakeUp 37 = .ok (.putfield 138, 3) := by decide +kernel
theorem dX4_wakeUp_40 : decode cX4_wakeUp 40 = .ok (.aload_n 0, 1) := by decide +kernel
theorem dX4_wakeUp_41 : decode cX4_wakeUp 41 = .ok (.aload_n 1, 1) := by decide +kernel
theorem dX4_wakeUp_42 : decode cX4_wakeUp 42 = .ok (.getfield 36, 3) := by decide +kernel
theorem dX4_wakeUp_45 : decode cX4_wakeUp 45 = .ok (.iload_n 2, 1) := by decide +kernel
theorem dX4_wakeUp_46 : decode cX4_wakeUp 46 = .ok (.invokevirtual 141, 3) := by decide +kernel
theorem dX4_wakeUp_49 : decode cX4_wakeUp 49 = .ok (.return_, 1) := by decide +kernel
theorem dX4_letEntriesLeave_0 : decode cX4_letEntriesLeave 0 = .ok (.iconst 0, 1) := by decide +kernel
theorem dX4_letEntriesLeave_1 : decode cX4_letEntriesLeave 1 = .ok (.istore_n 3, 1) := by decide +kernel
theorem dX4_letEntriesLeave_2 : decode cX4_letEntriesLeave 2 = .ok (.iconst 0, 1) := by decide +kernel
theorem dX4_letEntriesLeave_3 : decode cX4_letEntriesLeave 3 = .ok (.istore 4, 2) := by decide +kernel
theorem dX4_letEntriesLeave_5 : decode cX4_letEntriesLeave 5 = .ok (.iload 4, 2) := by decide +kernel
theorem dX4_letEntriesLeave_7 : decode cX4_letEntriesLeave 7 = .ok (.aload_n 0, 1) := by decide +kernel
theorem dX4_letEntriesLeave_8 : decode cX4_letEntriesLeave 8 = .ok (.getfield 66, 3) := by decide +kernel
theorem dX4_letEntriesLeave_11 : decode cX4_letEntriesLeave 11 = .ok (.if_icmp .ge 51, 3) := by decide +kernel
theorem dX4_letEntriesLeave_14 : decode cX4_letEntriesLeave 14 = .ok (.aload_n 0, 1) := by decide +kernel
theorem dX4_letEntriesLeave_15 : decode cX4_letEntriesLeave 15 = .ok (.getfield 24, 3) := by decide +kernel
theorem dX4_letEntriesLeave_18 : decode cX4_letEntriesLeave 18 = .ok (.iload 4, 2) := by decide +kernel
theorem dX4_letEntriesLeave_20 : decode cX4_letEntriesLeave 20 = .ok (.iaload, 1) := by decide +kernel
theorem dX4_letEntriesLeave_21 : decode cX4_letEntriesLeave 21 = .ok (.istore 5, 2) := by decide +kernel
theorem dX4_letEntriesLeave_23 : decode cX4_letEntriesLeave 23 = .ok (.aload_n 1, 1) := by decide +kernel
theorem dX4_letEntriesLeave_24 : decode cX4_letEntriesLeave 24 = .ok (.getfield 82, 3) := by decide +kernel
theorem dX4_letEntriesLeave_27 : decode cX4_letEntriesLeave 27 = .ok (.iload 5, 2) := by decide +kernel
theorem dX4_letEntriesLeave_29 : decode cX4_letEntriesLeave 29 = .ok (.iaload, 1) := by decide +kernel
end
section
theorem dX4_letEntriesLeave_30 : decode cX4_letEntriesLeave 30 = .ok (.iload_n 2, 1) := by decide +kernel
theorem dX4_letEntriesLeave_31 : decode cX4_letEntriesLeave 31 = .ok (.if_icmp .ne 14, 3) := by decide +kernel
theorem dX4_letEntriesLeave_34 : decode cX4_letEntriesLeave 34 = .ok (.aload_n 0, 1) := by decide +kernel
theorem dX4_letEntriesLeave_35 : decode cX4_letEntriesLeave 35 = .ok (.getfield 21, 3) := by decide +kernel
theorem dX4_letEntriesLeave_38 : decode cX4_letEntriesLeave 38 = .ok (.iload 5, 2) := by decide +kernel
theorem dX4_letEntriesLeave_40 : decode cX4_letEntriesLeave 40 = .ok (.iconst 4, 1) := by decide +kernel
theorem dX4_letEntriesLeave_41 : decode cX4_letEntriesLeave 41 = .ok (.iastore, 1) := by decide +kernel
theorem dX4_letEntriesLeave_42 : decode cX4_letEntriesLeave 42 = .ok (.goto 14, 3) := by decide +kernel
theorem dX4_letEntriesLeave_45 : decode cX4_letEntriesLeave 45 = .ok (.aload_n 0, 1) := by decide +kernel
theorem dX4_letEntriesLeave_46 : decode cX4_letEntriesLeave 46 = .ok (.getfield 24, 3) := by decide +kernel
theorem dX4_letEntriesLeave_49 : decode cX4_letEntriesLeave 49 = .ok (.iload_n 3, 1) := by decide +kernel
theorem dX4_letEntriesLeave_50 : decode cX4_letEntriesLeave 50 = .ok (.iload 5, 2) := by decide +kernel
theorem dX4_letEntriesLeave_52 : decode cX4_letEntriesLeave 52 = .ok (.iastore, 1) := by decide +kernel
theorem dX4_letEntriesLeave_53 : decode cX4_letEntriesLeave 53 = .ok (.iinc 3 1, 3) := by decide +kernel
theorem dX4_letEntriesLeave_56 : decode cX4_letEntriesLeave 56 = .ok (.iinc 4 1, 3) := by decide +kernel
theorem dX4_letEntriesLeave_59 : decode cX4_letEntriesLeave 59 = .ok (.goto (-54), 3) := by decide +kernel
theorem dX4_letEntriesLeave_62 : decode cX4_letEntriesLeave 62 = .ok (.aload_n 0, 1) := by decide +kernel
theorem dX4_letEntriesLeave_63 : decode cX4_letEntriesLeave 63 = .ok (.iload_n 3, 1) := by decide +kernel
theorem dX4_letEntriesLeave_64 : decode cX4_letEntriesLeave 64 = .ok (.putfield 66, 3) := by decide +kernel
theorem dX4_letEntriesLeave_67 : decode cX4_letEntriesLeave 67 = .ok (.return_, 1) := by decide +kernel
theorem dX4_entriesOf_0 : decode cX4_entriesOf 0 = .ok (.iconst 0, 1) := by decide +kernel
theorem dX4_entriesOf_1 : decode cX4_entriesOf 1 = .ok (.istore_n 3, 1) := by decide +kernel
theorem dX4_entriesOf_2 : decode cX4_entriesOf 2 = .ok (.iconst 0, 1) := by decide +kernel
theorem dX4_entriesOf_3 : decode cX4_entriesOf 3 = .ok (.istore 4, 2) := by decide +kernel
theorem dX4_entriesOf_5 : decode cX4_entriesOf 5 = .ok (.iload 4, 2) := by decide +kernel
theorem dX4_entriesOf_7 : decode cX4_entriesOf 7 = .ok (.aload_n 0, 1) := by decide +kernel
theorem dX4_entriesOf_8 : decode cX4_entriesOf 8 = .ok (.getfield 66, 3) := by decide +kernel
theorem dX4_entriesOf_11 : decode cX4_entriesOf 11 = .ok (.if_icmp .ge 28, 3) := by decide +kernel
theorem dX4_entriesOf_14 : decode cX4_entriesOf 14 = .ok (.aload_n 1, 1) := by decide +kernel
theorem dX4_entriesOf_15 : decode cX4_entriesOf 15 = .ok (.getfield 82, 3) := by decide +kernel
theorem dX4_entriesOf_18 : decode cX4_entriesOf 18 = .ok (.aload_n 0, 1) := by decide +kernel
theorem dX4_entriesOf_19 : decode cX4_entriesOf 19 = .ok (.getfield 24, 3) := by decide +kernel
theorem dX4_entriesOf_22 : decode cX4_entriesOf 22 = .ok (.iload 4, 2) := by decide +kernel
theorem dX4_entriesOf_24 : decode cX4_entriesOf 24 = .ok (.iaload, 1) := by decide +kernel
theorem dX4_entriesOf_25 : decode cX4_entriesOf 25 = .ok (.iaload, 1) := by decide +kernel
theorem dX4_entriesOf_26 : decode cX4_entriesOf 26 = .ok (.iload_n 2, 1) := by decide +kernel
theorem dX4_entriesOf_27 : decode cX4_entriesOf 27 = .ok (.if_icmp .ne 6, 3) := by decide +kernel
theorem dX4_entriesOf_30 : decode cX4_entriesOf 30 = .ok (.iinc 3 1, 3) := by decide +kernel
theorem dX4_entriesOf_33 : decode cX4_entriesOf 33 = .ok (.iinc 4 1, 3) := by decide +kernel
theorem dX4_entriesOf_36 : decode cX4_entriesOf 36 = .ok (.goto (-31), 3) := by decide +kernel
theorem dX4_entriesOf_39 : decode cX4_entriesOf 39 = .ok (.iload_n 3, 1) := by decide +kernel
theorem dX4_entriesOf_40 : decode cX4_entriesOf 40 = .ok (.ireturn, 1) := by decide +kernel
theorem dX4_energyOfAll_0 : decode cX4_energyOfAll 0 = .ok (.iconst 0, 1) := by decide +kernel
theorem dX4_energyOfAll_1 : decode cX4_energyOfAll 1 = .ok (.istore_n 1, 1) := by decide +kernel
theorem dX4_energyOfAll_2 : decode cX4_energyOfAll 2 = .ok (.iconst 0, 1) := by decide +kernel
theorem dX4_energyOfAll_3 : decode cX4_energyOfAll 3 = .ok (.istore_n 2, 1) := by decide +kernel
theorem dX4_energyOfAll_4 : decode cX4_energyOfAll 4 = .ok (.iload_n 2, 1) := by decide +kernel
theorem dX4_energyOfAll_5 : decode cX4_energyOfAll 5 = .ok (.iconst 4, 1) := by decide +kernel
theorem dX4_energyOfAll_6 : decode cX4_energyOfAll 6 = .ok (.if_icmp .ge 21, 3) := by decide +kernel
theorem dX4_energyOfAll_9 : decode cX4_energyOfAll 9 = .ok (.iload_n 1, 1) := by decide +kernel
theorem dX4_energyOfAll_10 : decode cX4_energyOfAll 10 = .ok (.aload_n 0, 1) := by decide +kernel
theorem dX4_energyOfAll_11 : decode cX4_energyOfAll 11 = .ok (.getfield 11, 3) := by decide +kernel
theorem dX4_energyOfAll_14 : decode cX4_energyOfAll 14 = .ok (.iload_n 2, 1) := by decide +kernel
theorem dX4_energyOfAll_15 : decode cX4_energyOfAll 15 = .ok (.aaload, 1) := by decide +kernel
theorem dX4_energyOfAll_16 : decode cX4_energyOfAll 16 = .ok (.getfield 129, 3) := by decide +kernel
theorem dX4_energyOfAll_19 : decode cX4_energyOfAll 19 = .ok (.iadd, 1) := by decide +kernel
theorem dX4_energyOfAll_20 : decode cX4_energyOfAll 20 = .ok (.istore_n 1, 1) := by decide +kernel
theorem dX4_energyOfAll_21 : decode cX4_energyOfAll 21 = .ok (.iinc 2 1, 3) := by decide +kernel
theorem dX4_energyOfAll_24 : decode cX4_energyOfAll 24 = .ok (.goto (-20), 3) := by decide +kernel
theorem dX4_energyOfAll_27 : decode cX4_energyOfAll 27 = .ok (.iload_n 1, 1) := by decide +kernel
theorem dX4_energyOfAll_28 : decode cX4_energyOfAll 28 = .ok (.ireturn, 1) := by decide +kernel
theorem dX5_init_0 : decode cX5_init 0 = .ok (.aload_n 0, 1) := by decide +kernel
theorem dX5_init_1 : decode cX5_init 1 = .ok (.invokespecial 3, 3) := by decide +kernel
theorem dX5_init_4 : decode cX5_init 4 = .ok (.aload_n 0, 1) := by decide +kernel
theorem dX5_init_5 : decode cX5_init 5 = .ok (.iconst 4, 1) := by decide +kernel
theorem dX5_init_6 : decode cX5_init 6 = .ok (.anewarray 9, 3) := by decide +kernel
theorem dX5_init_9 : decode cX5_init 9 = .ok (.putfield 11, 3) := by decide +kernel
theorem dX5_init_12 : decode cX5_init 12 = .ok (.aload_n 0, 1) := by decide +kernel
theorem dX5_init_13 : decode cX5_init 13 = .ok (.new 17, 3) := by decide +kernel
theorem dX5_init_16 : decode cX5_init 16 = .ok (.dup, 1) := by decide +kernel
theorem dX5_init_17 : decode cX5_init 17 = .ok (.invokespecial 19, 3) := by decide +kernel
theorem dX5_init_20 : decode cX5_init 20 = .ok (.putfield 20, 3) := by decide +kernel
theorem dX5_init_23 : decode cX5_init 23 = .ok (.aload_n 0, 1) := by decide +kernel
theorem dX5_init_24 : decode cX5_init 24 = .ok (.bipush 100, 2) := by decide +kernel
theorem dX5_init_26 : decode cX5_init 26 = .ok (.putfield 24, 3) := by decide +kernel
theorem dX5_init_29 : decode cX5_init 29 = .ok (.iconst 0, 1) := by decide +kernel
theorem dX5_init_30 : decode cX5_init 30 = .ok (.istore_n 1, 1) := by decide +kernel
theorem dX5_init_31 : decode cX5_init 31 = .ok (.iload_n 1, 1) := by decide +kernel
theorem dX5_init_32 : decode cX5_init 32 = .ok (.iconst 4, 1) := by decide +kernel
theorem dX5_init_33 : decode cX5_init 33 = .ok (.if_icmp .ge 22, 3) := by decide +kernel
theorem dX5_init_36 : decode cX5_init 36 = .ok (.aload_n 0, 1) := by decide +kernel
theorem dX5_init_37 : decode cX5_init 37 = .ok (.getfield 11, 3) := by decide +kernel
theorem dX5_init_40 : decode cX5_init 40 = .ok (.iload_n 1, 1) := by decide +kernel
theorem dX5_init_41 : decode cX5_init 41 = .ok (.new 9, 3) := by decide +kernel
theorem dX5_init_44 : decode cX5_init 44 = .ok (.dup, 1) := by decide +kernel
theorem dX5_init_45 : decode cX5_init 45 = .ok (.invokespecial 28, 3) := by decide +kernel
theorem dX5_init_48 : decode cX5_init 48 = .ok (.aastore, 1) := by decide +kernel
theorem dX5_init_49 : decode cX5_init 49 = .ok (.iinc 1 1, 3) := by decide +kernel
theorem dX5_init_52 : decode cX5_init 52 = .ok (.goto (-21), 3) := by decide +kernel
theorem dX5_init_55 : decode cX5_init 55 = .ok (.return_, 1) := by decide +kernel
theorem dX5_copyFrom_0 : decode cX5_copyFrom 0 = .ok (.iconst 0, 1) := by decide +kernel
theorem dX5_copyFrom_1 : decode cX5_copyFrom 1 = .ok (.istore_n 2, 1) := by decide +kernel
theorem dX5_copyFrom_2 : decode cX5_copyFrom 2 = .ok (.iload_n 2, 1) := by decide +kernel
theorem dX5_copyFrom_3 : decode cX5_copyFrom 3 = .ok (.iconst 4, 1) := by decide +kernel
theorem dX5_copyFrom_4 : decode cX5_copyFrom 4 = .ok (.if_icmp .ge 24, 3) := by decide +kernel
theorem dX5_copyFrom_7 : decode cX5_copyFrom 7 = .ok (.aload_n 0, 1) := by decide +kernel
theorem dX5_copyFrom_8 : decode cX5_copyFrom 8 = .ok (.getfield 11, 3) := by decide +kernel
theorem dX5_copyFrom_11 : decode cX5_copyFrom 11 = .ok (.iload_n 2, 1) := by decide +kernel
theorem dX5_copyFrom_12 : decode cX5_copyFrom 12 = .ok (.aaload, 1) := by decide +kernel
theorem dX5_copyFrom_13 : decode cX5_copyFrom 13 = .ok (.aload_n 1, 1) := by decide +kernel
theorem dX5_copyFrom_14 : decode cX5_copyFrom 14 = .ok (.getfield 11, 3) := by decide +kernel
theorem dX5_copyFrom_17 : decode cX5_copyFrom 17 = .ok (.iload_n 2, 1) := by decide +kernel
theorem dX5_copyFrom_18 : decode cX5_copyFrom 18 = .ok (.aaload, 1) := by decide +kernel
theorem dX5_copyFrom_19 : decode cX5_copyFrom 19 = .ok (.invokevirtual 29, 3) := by decide +kernel
theorem dX5_copyFrom_22 : decode cX5_copyFrom 22 = .ok (.iinc 2 1, 3) := by decide +kernel
theorem dX5_copyFrom_25 : decode cX5_copyFrom 25 = .ok (.goto (-23), 3) := by decide +kernel
theorem dX5_copyFrom_28 : decode cX5_copyFrom 28 = .ok (.aload_n 0, 1) := by decide +kernel
theorem dX5_copyFrom_29 : decode cX5_copyFrom 29 = .ok (.getfield 20, 3) := by decide +kernel
theorem dX5_copyFrom_32 : decode cX5_copyFrom 32 = .ok (.aload_n 1, 1) := by decide +kernel
theorem dX5_copyFrom_33 : decode cX5_copyFrom 33 = .ok (.getfield 20, 3) := by decide +kernel
theorem dX5_copyFrom_36 : decode cX5_copyFrom 36 = .ok (.invokevirtual 33, 3) := by decide +kernel
theorem dX5_copyFrom_39 : decode cX5_copyFrom 39 = .ok (.aload_n 0, 1) := by decide +kernel
theorem dX5_copyFrom_40 : decode cX5_copyFrom 40 = .ok (.aload_n 1, 1) := by decide +kernel
theorem dX5_copyFrom_41 : decode cX5_copyFrom 41 = .ok (.getfield 24, 3) := by decide +kernel
theorem dX5_copyFrom_44 : decode cX5_copyFrom 44 = .ok (.putfield 24, 3) := by decide +kernel
theorem dX5_copyFrom_47 : decode cX5_copyFrom 47 = .ok (.aload_n 0, 1) := by decide +kernel
theorem dX5_copyFrom_48 : decode cX5_copyFrom 48 = .ok (.aload_n 1, 1) := by decide +kernel
theorem dX5_copyFrom_49 : decode cX5_copyFrom 49 = .ok (.getfield 36, 3) := by decide +kernel
theorem dX5_copyFrom_52 : decode cX5_copyFrom 52 = .ok (.putfield 36, 3) := by decide +kernel
theorem dX5_copyFrom_55 : decode cX5_copyFrom 55 = .ok (.return_, 1) := by decide +kernel
theorem dX6_init_0 : decode cX6_init 0 = .ok (.aload_n 0, 1) := by decide +kernel
theorem dX6_init_1 : decode cX6_init 1 = .ok (.invokespecial 1, 3) := by decide +kernel
theorem dX6_init_4 : decode cX6_init 4 = .ok (.aload_n 0, 1) := by decide +kernel
theorem dX6_init_5 : decode cX6_init 5 = .ok (.new 7, 3) := by decide +kernel
theorem dX6_init_8 : decode cX6_init 8 = .ok (.dup, 1) := by decide +kernel
theorem dX6_init_9 : decode cX6_init 9 = .ok (.invokespecial 9, 3) := by decide +kernel
theorem dX6_init_12 : decode cX6_init 12 = .ok (.putfield 10, 3) := by decide +kernel
theorem dX6_init_15 : decode cX6_init 15 = .ok (.aload_n 0, 1) := by decide +kernel
theorem dX6_init_16 : decode cX6_init 16 = .ok (.iconst 2, 1) := by decide +kernel
theorem dX6_init_17 : decode cX6_init 17 = .ok (.anewarray 7, 3) := by decide +kernel
theorem dX6_init_20 : decode cX6_init 20 = .ok (.putfield 16, 3) := by decide +kernel
theorem dX6_init_23 : decode cX6_init 23 = .ok (.aload_n 0, 1) := by decide +kernel
theorem dX6_init_24 : decode cX6_init 24 = .ok (.iconst 2, 1) := by decide +kernel
theorem dX6_init_25 : decode cX6_init 25 = .ok (.newarray .boolean, 2) := by decide +kernel
theorem dX6_init_27 : decode cX6_init 27 = .ok (.putfield 20, 3) := by decide +kernel
theorem dX6_init_30 : decode cX6_init 30 = .ok (.aload_n 0, 1) := by decide +kernel
theorem dX6_init_31 : decode cX6_init 31 = .ok (.new 24, 3) := by decide +kernel
theorem dX6_init_34 : decode cX6_init 34 = .ok (.dup, 1) := by decide +kernel
theorem dX6_init_35 : decode cX6_init 35 = .ok (.invokespecial 26, 3) := by decide +kernel
theorem dX6_init_38 : decode cX6_init 38 = .ok (.putfield 27, 3) := by decide +kernel
theorem dX6_init_41 : decode cX6_init 41 = .ok (.aload_n 0, 1) := by decide +kernel
theorem dX6_init_42 : decode cX6_init 42 = .ok (.new 31, 3) := by decide +kernel
theorem dX6_init_45 : decode cX6_init 45 = .ok (.dup, 1) := by decide +kernel
theorem dX6_init_46 : decode cX6_init 46 = .ok (.invokespecial 33, 3) := by decide +kernel
theorem dX6_init_49 : decode cX6_init 49 = .ok (.putfield 34, 3) := by decide +kernel
theorem dX6_init_52 : decode cX6_init 52 = .ok (.iconst 0, 1) := by decide +kernel
theorem dX6_init_53 : decode cX6_init 53 = .ok (.istore_n 1, 1) := by decide +kernel
theorem dX6_init_54 : decode cX6_init 54 = .ok (.iload_n 1, 1) := by decide +kernel
theorem dX6_init_55 : decode cX6_init 55 = .ok (.iconst 2, 1) := by decide +kernel
theorem dX6_init_56 : decode cX6_init 56 = .ok (.if_icmp .ge 22, 3) := by decide +kernel
theorem dX6_init_59 : decode cX6_init 59 = .ok (.aload_n 0, 1) := by decide +kernel
theorem dX6_init_60 : decode cX6_init 60 = .ok (.getfield 16, 3) := by decide +kernel
theorem dX6_init_63 : decode cX6_init 63 = .ok (.iload_n 1, 1) := by decide +kernel
theorem dX6_init_64 : decode cX6_init 64 = .ok (.new 7, 3) := by decide +kernel
theorem dX6_init_67 : decode cX6_init 67 = .ok (.dup, 1) := by decide +kernel
theorem dX6_init_68 : decode cX6_init 68 = .ok (.invokespecial 9, 3) := by decide +kernel
theorem dX6_init_71 : decode cX6_init 71 = .ok (.aastore, 1) := by decide +kernel
theorem dX6_init_72 : decode cX6_init 72 = .ok (.iinc 1 1, 3) := by decide +kernel
theorem dX6_init_75 : decode cX6_init 75 = .ok (.goto (-21), 3) := by decide +kernel
theorem dX6_init_78 : decode cX6_init 78 = .ok (.return_, 1) := by decide +kernel
theorem dX6_power_0 : decode cX6_power 0 = .ok (.iload_n 1, 1) := by decide +kernel
theorem dX6_power_1 : decode cX6_power 1 = .ok (.invokestatic 38, 3) := by decide +kernel
theorem dX6_power_4 : decode cX6_power 4 = .ok (.ifCond .ne 5, 3) := by decide +kernel
theorem dX6_power_7 : decode cX6_power 7 = .ok (.iconst (-1), 1) := by decide +kernel
theorem dX6_power_8 : decode cX6_power 8 = .ok (.ireturn, 1) := by decide +kernel
theorem dX6_power_9 : decode cX6_power 9 = .ok (.iload_n 2, 1) := by decide +kernel
theorem dX6_power_10 : decode cX6_power 10 = .ok (.iconst 1, 1) := by decide +kernel
theorem dX6_power_11 : decode cX6_power 11 = .ok (.bipush 100, 2) := by decide +kernel
theorem dX6_power_13 : decode cX6_power 13 = .ok (.invokestatic 42, 3) := by decide +kernel
theorem dX6_power_16 : decode cX6_power 16 = .ok (.ifCond .ne 6, 3) := by decide +kernel
theorem dX6_power_19 : decode cX6_power 19 = .ok (.bipush (-2), 2) := by decide +kernel
theorem dX6_power_21 : decode cX6_power 21 = .ok (.ireturn, 1) := by decide +kernel
theorem dX6_power_22 : decode cX6_power 22 = .ok (.aload_n 0, 1) := by decide +kernel
theorem dX6_power_23 : decode cX6_power 23 = .ok (.getfield 10, 3) := by decide +kernel
theorem dX6_power_26 : decode cX6_power 26 = .ok (.getfield 46, 3) := by decide +kernel
theorem dX6_power_29 : decode cX6_power 29 = .ok (.iload_n 1, 1) := by decide +kernel
theorem dX6_power_30 : decode cX6_power 30 = .ok (.aaload, 1) := by decide +kernel
theorem dX6_power_31 : decode cX6_power 31 = .ok (.astore_n 3, 1) := by decide +kernel
theorem dX6_power_32 : decode cX6_power 32 = .ok (.aload_n 3, 1) := by decide +kernel
theorem dX6_power_33 : decode cX6_power 33 = .ok (.getfield 50, 3) := by decide +kernel
theorem dX6_power_36 : decode cX6_power 36 = .ok (.iconst 0, 1) := by decide +kernel
theorem dX6_power_37 : decode cX6_power 37 = .ok (.iaload, 1) := by decide +kernel
theorem dX6_power_38 : decode cX6_power 38 = .ok (.istore 4, 2) := by decide +kernel
theorem dX6_power_40 : decode cX6_power 40 = .ok (.aload_n 3, 1) := by decide +kernel
theorem dX6_power_41 : decode cX6_power 41 = .ok (.getfield 50, 3) := by decide +kernel
theorem dX6_power_44 : decode cX6_power 44 = .ok (.iconst 0, 1) := by decide +kernel
theorem dX6_power_45 : decode cX6_power 45 = .ok (.iload_n 2, 1) := by decide +kernel
theorem dX6_power_46 : decode cX6_power 46 = .ok (.iastore, 1) := by decide +kernel
theorem dX6_power_47 : decode cX6_power 47 = .ok (.aload_n 3, 1) := by decide +kernel
theorem dX6_power_48 : decode cX6_power 48 = .ok (.iconst 0, 1) := by decide +kernel
theorem dX6_power_49 : decode cX6_power 49 = .ok (.putfield 56, 3) := by decide +kernel
theorem dX6_power_52 : decode cX6_power 52 = .ok (.aload_n 0, 1) := by decide +kernel
theorem dX6_power_53 : decode cX6_power 53 = .ok (.getfield 27, 3) := by decide +kernel
theorem dX6_power_56 : decode cX6_power 56 = .ok (.invokevirtual 60, 3) := by decide +kernel
theorem dX6_power_59 : decode cX6_power 59 = .ok (.iload 4, 2) := by decide +kernel
theorem dX6_power_61 : decode cX6_power 61 = .ok (.ireturn, 1) := by decide +kernel
theorem dX6_deeper_0 : decode cX6_deeper 0 = .ok (.iload_n 1, 1) := by decide +kernel
theorem dX6_deeper_1 : decode cX6_deeper 1 = .ok (.invokestatic 38, 3) := by decide +kernel
theorem dX6_deeper_4 : decode cX6_deeper 4 = .ok (.ifCond .ne 5, 3) := by decide +kernel
theorem dX6_deeper_7 : decode cX6_deeper 7 = .ok (.iconst (-1), 1) := by decide +kernel
theorem dX6_deeper_8 : decode cX6_deeper 8 = .ok (.ireturn, 1) := by decide +kernel
theorem dX6_deeper_9 : decode cX6_deeper 9 = .ok (.iload_n 2, 1) := by decide +kernel
theorem dX6_deeper_10 : decode cX6_deeper 10 = .ok (.iconst 0, 1) := by decide +kernel
theorem dX6_deeper_11 : decode cX6_deeper 11 = .ok (.bipush 99, 2) := by decide +kernel
theorem dX6_deeper_13 : decode cX6_deeper 13 = .ok (.invokestatic 42, 3) := by decide +kernel
theorem dX6_deeper_16 : decode cX6_deeper 16 = .ok (.ifCond .eq 14, 3) := by decide +kernel
theorem dX6_deeper_19 : decode cX6_deeper 19 = .ok (.iload_n 3, 1) := by decide +kernel
theorem dX6_deeper_20 : decode cX6_deeper 20 = .ok (.iconst 1, 1) := by decide +kernel
theorem dX6_deeper_21 : decode cX6_deeper 21 = .ok (.sipush 999, 3) := by decide +kernel
theorem dX6_deeper_24 : decode cX6_deeper 24 = .ok (.invokestatic 42, 3) := by decide +kernel
theorem dX6_deeper_27 : decode cX6_deeper 27 = .ok (.ifCond .ne 6, 3) := by decide +kernel
theorem dX6_deeper_30 : decode cX6_deeper 30 = .ok (.bipush (-2), 2) := by decide +kernel
theorem dX6_deeper_32 : decode cX6_deeper 32 = .ok (.ireturn, 1) := by decide +kernel
theorem dX6_deeper_33 : decode cX6_deeper 33 = .ok (.aload_n 0, 1) := by decide +kernel
theorem dX6_deeper_34 : decode cX6_deeper 34 = .ok (.getfield 10, 3) := by decide +kernel
theorem dX6_deeper_37 : decode cX6_deeper 37 = .ok (.getfield 46, 3) := by decide +kernel
theorem dX6_deeper_40 : decode cX6_deeper 40 = .ok (.iload_n 1, 1) := by decide +kernel
theorem dX6_deeper_41 : decode cX6_deeper 41 = .ok (.aaload, 1) := by decide +kernel
theorem dX6_deeper_42 : decode cX6_deeper 42 = .ok (.astore 4, 2) := by decide +kernel
theorem dX6_deeper_44 : decode cX6_deeper 44 = .ok (.iload_n 2, 1) := by decide +kernel
theorem dX6_deeper_45 : decode cX6_deeper 45 = .ok (.aload 4, 2) := by decide +kernel
theorem dX6_deeper_47 : decode cX6_deeper 47 = .ok (.getfield 50, 3) := by decide +kernel
theorem dX6_deeper_50 : decode cX6_deeper 50 = .ok (.aload 4, 2) := by decide +kernel
theorem dX6_deeper_52 : decode cX6_deeper 52 = .ok (.getfield 56, 3) := by decide +kernel
theorem dX6_deeper_55 : decode cX6_deeper 55 = .ok (.iaload, 1) := by decide +kernel
theorem dX6_deeper_56 : decode cX6_deeper 56 = .ok (.if_icmp .ge 18, 3) := by decide +kernel
theorem dX6_deeper_59 : decode cX6_deeper 59 = .ok (.iload_n 3, 1) := by decide +kernel
theorem dX6_deeper_60 : decode cX6_deeper 60 = .ok (.aload 4, 2) := by decide +kernel
theorem dX6_deeper_62 : decode cX6_deeper 62 = .ok (.getfield 63, 3) := by decide +kernel
theorem dX6_deeper_65 : decode cX6_deeper 65 = .ok (.aload 4, 2) := by decide +kernel
theorem dX6_deeper_67 : decode cX6_deeper 67 = .ok (.getfield 56, 3) := by decide +kernel
theorem dX6_deeper_70 : decode cX6_deeper 70 = .ok (.iaload, 1) := by decide +kernel
theorem dX6_deeper_71 : decode cX6_deeper 71 = .ok (.if_icmp .gt 6, 3) := by decide +kernel
theorem dX6_deeper_74 : decode cX6_deeper 74 = .ok (.bipush (-5), 2) := by decide +kernel
theorem dX6_deeper_76 : decode cX6_deeper 76 = .ok (.ireturn, 1) := by decide +kernel
theorem dX6_deeper_77 : decode cX6_deeper 77 = .ok (.aload 4, 2) := by decide +kernel
theorem dX6_deeper_79 : decode cX6_deeper 79 = .ok (.getfield 56, 3) := by decide +kernel
theorem dX6_deeper_82 : decode cX6_deeper 82 = .ok (.iconst 3, 1) := by decide +kernel
theorem dX6_deeper_83 : decode cX6_deeper 83 = .ok (.if_icmp .lt 6, 3) := by decide +kernel
theorem dX6_deeper_86 : decode cX6_deeper 86 = .ok (.bipush (-4), 2) := by decide +kernel
theorem dX6_deeper_88 : decode cX6_deeper 88 = .ok (.ireturn, 1) := by decide +kernel
theorem dX6_deeper_89 : decode cX6_deeper 89 = .ok (.aload 4, 2) := by decide +kernel
theorem dX6_deeper_91 : decode cX6_deeper 91 = .ok (.iload_n 2, 1) := by decide +kernel
theorem dX6_deeper_92 : decode cX6_deeper 92 = .ok (.iload_n 3, 1) := by decide +kernel
theorem dX6_deeper_93 : decode cX6_deeper 93 = .ok (.invokevirtual 66, 3) := by decide +kernel
theorem dX6_deeper_96 : decode cX6_deeper 96 = .ok (.aload_n 0, 1) := by decide +kernel
theorem dX6_deeper_97 : decode cX6_deeper 97 = .ok (.getfield 27, 3) := by decide +kernel
theorem dX6_deeper_100 : decode cX6_deeper 100 = .ok (.invokevirtual 60, 3) := by decide +kernel
theorem dX6_deeper_103 : decode cX6_deeper 103 = .ok (.aload 4, 2) := by decide +kernel
theorem dX6_deeper_105 : decode cX6_deeper 105 = .ok (.getfield 56, 3) := by decide +kernel
theorem dX6_deeper_108 : decode cX6_deeper 108 = .ok (.ireturn, 1) := by decide +kernel
theorem dX6_level_0 : decode cX6_level 0 = .ok (.iload_n 1, 1) := by decide +kernel
theorem dX6_level_1 : decode cX6_level 1 = .ok (.invokestatic 38, 3) := by decide +kernel
theorem dX6_level_4 : decode cX6_level 4 = .ok (.ifCond .eq 19, 3) := by decide +kernel
theorem dX6_level_7 : decode cX6_level 7 = .ok (.aload_n 0, 1) := by decide +kernel
theorem dX6_level_8 : decode cX6_level 8 = .ok (.getfield 10, 3) := by decide +kernel
theorem dX6_level_11 : decode cX6_level 11 = .ok (.getfield 46, 3) := by decide +kernel
theorem dX6_level_14 : decode cX6_level 14 = .ok (.iload_n 1, 1) := by decide +kernel
theorem dX6_level_15 : decode cX6_level 15 = .ok (.aaload, 1) := by decide +kernel
theorem dX6_level_16 : decode cX6_level 16 = .ok (.iload_n 2, 1) := by decide +kernel
theorem dX6_level_17 : decode cX6_level 17 = .ok (.invokevirtual 70, 3) := by decide +kernel
theorem dX6_level_20 : decode cX6_level 20 = .ok (.ifCond .ne 5, 3) := by decide +kernel
theorem dX6_level_23 : decode cX6_level 23 = .ok (.iconst (-1), 1) := by decide +kernel
theorem dX6_level_24 : decode cX6_level 24 = .ok (.ireturn, 1) := by decide +kernel
theorem dX6_level_25 : decode cX6_level 25 = .ok (.iload_n 3, 1) := by decide +kernel
theorem dX6_level_26 : decode cX6_level 26 = .ok (.lookupswitch 56 #[(0, 26), (1, 41)], 26) := by decide +kernel
theorem dX6_level_52 : decode cX6_level 52 = .ok (.aload_n 0, 1) := by decide +kernel
theorem dX6_level_53 : decode cX6_level 53 = .ok (.getfield 10, 3) := by decide +kernel
theorem dX6_level_56 : decode cX6_level 56 = .ok (.getfield 46, 3) := by decide +kernel
theorem dX6_level_59 : decode cX6_level 59 = .ok (.iload_n 1, 1) := by decide +kernel
theorem dX6_level_60 : decode cX6_level 60 = .ok (.aaload, 1) := by decide +kernel
theorem dX6_level_61 : decode cX6_level 61 = .ok (.getfield 50, 3) := by decide +kernel
theorem dX6_level_64 : decode cX6_level 64 = .ok (.iload_n 2, 1) := by decide +kernel
theorem dX6_level_65 : decode cX6_level 65 = .ok (.iaload, 1) := by decide +kernel
theorem dX6_level_66 : decode cX6_level 66 = .ok (.ireturn, 1) := by decide +kernel
theorem dX6_level_67 : decode cX6_level 67 = .ok (.aload_n 0, 1) := by decide +kernel
theorem dX6_level_68 : decode cX6_level 68 = .ok (.getfield 10, 3) := by decide +kernel
theorem dX6_level_71 : decode cX6_level 71 = .ok (.getfield 46, 3) := by decide +kernel
theorem dX6_level_74 : decode cX6_level 74 = .ok (.iload_n 1, 1) := by decide +kernel
theorem dX6_level_75 : decode cX6_level 75 = .ok (.aaload, 1) := by decide +kernel
theorem dX6_level_76 : decode cX6_level 76 = .ok (.getfield 63, 3) := by decide +kernel
theorem dX6_level_79 : decode cX6_level 79 = .ok (.iload_n 2, 1) := by decide +kernel
theorem dX6_level_80 : decode cX6_level 80 = .ok (.iaload, 1) := by decide +kernel
theorem dX6_level_81 : decode cX6_level 81 = .ok (.ireturn, 1) := by decide +kernel
theorem dX6_level_82 : decode cX6_level 82 = .ok (.bipush (-2), 2) := by decide +kernel
theorem dX6_level_84 : decode cX6_level 84 = .ok (.ireturn, 1) := by decide +kernel
theorem dX6_policy_0 : decode cX6_policy 0 = .ok (.iload_n 1, 1) := by decide +kernel
theorem dX6_policy_1 : decode cX6_policy 1 = .ok (.invokestatic 38, 3) := by decide +kernel
theorem dX6_policy_4 : decode cX6_policy 4 = .ok (.ifCond .ne 5, 3) := by decide +kernel
theorem dX6_policy_7 : decode cX6_policy 7 = .ok (.iconst (-1), 1) := by decide +kernel
theorem dX6_policy_8 : decode cX6_policy 8 = .ok (.ireturn, 1) := by decide +kernel
theorem dX6_policy_9 : decode cX6_policy 9 = .ok (.iload_n 2, 1) := by decide +kernel
theorem dX6_policy_10 : decode cX6_policy 10 = .ok (.iload_n 3, 1) := by decide +kernel
theorem dX6_policy_11 : decode cX6_policy 11 = .ok (.invokestatic 73, 3) := by decide +kernel
theorem dX6_policy_14 : decode cX6_policy 14 = .ok (.ifCond .ne 6, 3) := by decide +kernel
theorem dX6_policy_17 : decode cX6_policy 17 = .ok (.bipush (-2), 2) := by decide +kernel
theorem dX6_policy_19 : decode cX6_policy 19 = .ok (.ireturn, 1) := by decide +kernel
theorem dX6_policy_20 : decode cX6_policy 20 = .ok (.aload_n 0, 1) := by decide +kernel
theorem dX6_policy_21 : decode cX6_policy 21 = .ok (.getfield 10, 3) := by decide +kernel
theorem dX6_policy_24 : decode cX6_policy 24 = .ok (.getfield 46, 3) := by decide +kernel
theorem dX6_policy_27 : decode cX6_policy 27 = .ok (.iload_n 1, 1) := by decide +kernel
theorem dX6_policy_28 : decode cX6_policy 28 = .ok (.aaload, 1) := by decide +kernel
theorem dX6_policy_29 : decode cX6_policy 29 = .ok (.astore 4, 2) := by decide +kernel
theorem dX6_policy_31 : decode cX6_policy 31 = .ok (.aload 4, 2) := by decide +kernel
theorem dX6_policy_33 : decode cX6_policy 33 = .ok (.getfield 77, 3) := by decide +kernel
theorem dX6_policy_36 : decode cX6_policy 36 = .ok (.istore 5, 2) := by decide +kernel
theorem dX6_policy_38 : decode cX6_policy 38 = .ok (.aload 4, 2) := by decide +kernel
theorem dX6_policy_40 : decode cX6_policy 40 = .ok (.iload_n 2, 1) := by decide +kernel
theorem dX6_policy_41 : decode cX6_policy 41 = .ok (.putfield 77, 3) := by decide +kernel
theorem dX6_policy_44 : decode cX6_policy 44 = .ok (.aload 4, 2) := by decide +kernel
theorem dX6_policy_46 : decode cX6_policy 46 = .ok (.iload_n 3, 1) := by decide +kernel
theorem dX6_policy_47 : decode cX6_policy 47 = .ok (.putfield 80, 3) := by decide +kernel
theorem dX6_policy_50 : decode cX6_policy 50 = .ok (.aload_n 0, 1) := by decide +kernel
theorem dX6_policy_51 : decode cX6_policy 51 = .ok (.getfield 27, 3) := by decide +kernel
theorem dX6_policy_54 : decode cX6_policy 54 = .ok (.invokevirtual 60, 3) := by decide +kernel
theorem dX6_policy_57 : decode cX6_policy 57 = .ok (.iload 5, 2) := by decide +kernel
theorem dX6_policy_59 : decode cX6_policy 59 = .ok (.ireturn, 1) := by decide +kernel
theorem dX6_request_0 : decode cX6_request 0 = .ok (.iload_n 2, 1) := by decide +kernel
theorem dX6_request_1 : decode cX6_request 1 = .ok (.invokestatic 38, 3) := by decide +kernel
theorem dX6_request_4 : decode cX6_request 4 = .ok (.ifCond .ne 5, 3) := by decide +kernel
theorem dX6_request_7 : decode cX6_request 7 = .ok (.iconst (-1), 1) := by decide +kernel
theorem dX6_request_8 : decode cX6_request 8 = .ok (.ireturn, 1) := by decide +kernel
theorem dX6_request_9 : decode cX6_request 9 = .ok (.iload_n 1, 1) := by decide +kernel
theorem dX6_request_10 : decode cX6_request 10 = .ok (.iconst 0, 1) := by decide +kernel
theorem dX6_request_11 : decode cX6_request 11 = .ok (.sipush 999, 3) := by decide +kernel
theorem dX6_request_14 : decode cX6_request 14 = .ok (.invokestatic 42, 3) := by decide +kernel
theorem dX6_request_17 : decode cX6_request 17 = .ok (.ifCond .eq 12, 3) := by decide +kernel
theorem dX6_request_20 : decode cX6_request 20 = .ok (.iload_n 3, 1) := by decide +kernel
theorem dX6_request_21 : decode cX6_request 21 = .ok (.iconst 0, 1) := by decide +kernel
theorem dX6_request_22 : decode cX6_request 22 = .ok (.iconst 1, 1) := by decide +kernel
theorem dX6_request_23 : decode cX6_request 23 = .ok (.invokestatic 42, 3) := by decide +kernel
theorem dX6_request_26 : decode cX6_request 26 = .ok (.ifCond .ne 6, 3) := by decide +kernel
theorem dX6_request_29 : decode cX6_request 29 = .ok (.bipush (-2), 2) := by decide +kernel
theorem dX6_request_31 : decode cX6_request 31 = .ok (.ireturn, 1) := by decide +kernel
theorem dX6_request_32 : decode cX6_request 32 = .ok (.aload_n 0, 1) := by decide +kernel
theorem dX6_request_33 : decode cX6_request 33 = .ok (.getfield 10, 3) := by decide +kernel
theorem dX6_request_36 : decode cX6_request 36 = .ok (.getfield 83, 3) := by decide +kernel
theorem dX6_request_39 : decode cX6_request 39 = .ok (.getfield 87, 3) := by decide +kernel
theorem dX6_request_42 : decode cX6_request 42 = .ok (.bipush 40, 2) := by decide +kernel
theorem dX6_request_44 : decode cX6_request 44 = .ok (.if_icmp .lt 6, 3) := by decide +kernel
theorem dX6_request_47 : decode cX6_request 47 = .ok (.bipush (-4), 2) := by decide +kernel
theorem dX6_request_49 : decode cX6_request 49 = .ok (.ireturn, 1) := by decide +kernel
theorem dX6_request_50 : decode cX6_request 50 = .ok (.aload_n 0, 1) := by decide +kernel
theorem dX6_request_51 : decode cX6_request 51 = .ok (.getfield 10, 3) := by decide +kernel
theorem dX6_request_54 : decode cX6_request 54 = .ok (.getfield 83, 3) := by decide +kernel
theorem dX6_request_57 : decode cX6_request 57 = .ok (.iload_n 1, 1) := by decide +kernel
theorem dX6_request_58 : decode cX6_request 58 = .ok (.iload_n 2, 1) := by decide +kernel
theorem dX6_request_59 : decode cX6_request 59 = .ok (.iload_n 3, 1) := by decide +kernel
theorem dX6_request_60 : decode cX6_request 60 = .ok (.invokevirtual 92, 3) := by decide +kernel
theorem dX6_request_63 : decode cX6_request 63 = .ok (.aload_n 0, 1) := by decide +kernel
theorem dX6_request_64 : decode cX6_request 64 = .ok (.getfield 27, 3) := by decide +kernel
theorem dX6_request_67 : decode cX6_request 67 = .ok (.invokevirtual 60, 3) := by decide +kernel
theorem dX6_request_70 : decode cX6_request 70 = .ok (.aload_n 0, 1) := by decide +kernel
theorem dX6_request_71 : decode cX6_request 71 = .ok (.getfield 10, 3) := by decide +kernel
theorem dX6_request_74 : decode cX6_request 74 = .ok (.getfield 83, 3) := by decide +kernel
theorem dX6_request_77 : decode cX6_request 77 = .ok (.getfield 87, 3) := by decide +kernel
theorem dX6_request_80 : decode cX6_request 80 = .ok (.iconst 1, 1) := by decide +kernel
theorem dX6_request_81 : decode cX6_request 81 = .ok (.isub, 1) := by decide +kernel
theorem dX6_request_82 : decode cX6_request 82 = .ok (.ireturn, 1) := by decide +kernel
theorem dX6_forget_0 : decode cX6_forget 0 = .ok (.aload_n 0, 1) := by decide +kernel
theorem dX6_forget_1 : decode cX6_forget 1 = .ok (.getfield 10, 3) := by decide +kernel
theorem dX6_forget_4 : decode cX6_forget 4 = .ok (.getfield 83, 3) := by decide +kernel
theorem dX6_forget_7 : decode cX6_forget 7 = .ok (.iload_n 1, 1) := by decide +kernel
theorem dX6_forget_8 : decode cX6_forget 8 = .ok (.invokevirtual 96, 3) := by decide +kernel
theorem dX6_forget_11 : decode cX6_forget 11 = .ok (.ifCond .ne 5, 3) := by decide +kernel
theorem dX6_forget_14 : decode cX6_forget 14 = .ok (.iconst (-1), 1) := by decide +kernel
theorem dX6_forget_15 : decode cX6_forget 15 = .ok (.ireturn, 1) := by decide +kernel
theorem dX6_forget_16 : decode cX6_forget 16 = .ok (.aload_n 0, 1) := by decide +kernel
theorem dX6_forget_17 : decode cX6_forget 17 = .ok (.getfield 10, 3) := by decide +kernel
theorem dX6_forget_20 : decode cX6_forget 20 = .ok (.getfield 83, 3) := by decide +kernel
theorem dX6_forget_23 : decode cX6_forget 23 = .ok (.iload_n 1, 1) := by decide +kernel
theorem dX6_forget_24 : decode cX6_forget 24 = .ok (.invokevirtual 99, 3) := by decide +kernel
theorem dX6_forget_27 : decode cX6_forget 27 = .ok (.aload_n 0, 1) := by decide +kernel
theorem dX6_forget_28 : decode cX6_forget 28 = .ok (.getfield 27, 3) := by decide +kernel
theorem dX6_forget_31 : decode cX6_forget 31 = .ok (.invokevirtual 60, 3) := by decide +kernel
theorem dX6_forget_34 : decode cX6_forget 34 = .ok (.aload_n 0, 1) := by decide +kernel
theorem dX6_forget_35 : decode cX6_forget 35 = .ok (.getfield 10, 3) := by decide +kernel
theorem dX6_forget_38 : decode cX6_forget 38 = .ok (.getfield 83, 3) := by decide +kernel
theorem dX6_forget_41 : decode cX6_forget 41 = .ok (.getfield 87, 3) := by decide +kernel
theorem dX6_forget_44 : decode cX6_forget 44 = .ok (.ireturn, 1) := by decide +kernel
theorem dX6_told_0 : decode cX6_told 0 = .ok (.aload_n 0, 1) := by decide +kernel
theorem dX6_told_1 : decode cX6_told 1 = .ok (.getfield 10, 3) := by decide +kernel
theorem dX6_told_4 : decode cX6_told 4 = .ok (.getfield 83, 3) := by decide +kernel
theorem dX6_told_7 : decode cX6_told 7 = .ok (.iload_n 1, 1) := by decide +kernel
theorem dX6_told_8 : decode cX6_told 8 = .ok (.invokevirtual 96, 3) := by decide +kernel
theorem dX6_told_11 : decode cX6_told 11 = .ok (.ifCond .ne 5, 3) := by decide +kernel
theorem dX6_told_14 : decode cX6_told 14 = .ok (.iconst (-1), 1) := by decide +kernel
theorem dX6_told_15 : decode cX6_told 15 = .ok (.ireturn, 1) := by decide +kernel
theorem dX6_told_16 : decode cX6_told 16 = .ok (.iload_n 2, 1) := by decide +kernel
theorem dX6_told_17 : decode cX6_told 17 = .ok (.tableswitch 66 0 2 #[27, 40, 53], 27) := by decide +kernel
theorem dX6_told_44 : decode cX6_told 44 = .ok (.aload_n 0, 1) := by decide +kernel
theorem dX6_told_45 : decode cX6_told 45 = .ok (.getfield 10, 3) := by decide +kernel
theorem dX6_told_48 : decode cX6_told 48 = .ok (.getfield 83, 3) := by decide +kernel
theorem dX6_told_51 : decode cX6_told 51 = .ok (.getfield 103, 3) := by decide +kernel
theorem dX6_told_54 : decode cX6_told 54 = .ok (.iload_n 1, 1) := by decide +kernel
theorem dX6_told_55 : decode cX6_told 55 = .ok (.iaload, 1) := by decide +kernel
theorem dX6_told_56 : decode cX6_told 56 = .ok (.ireturn, 1) := by decide +kernel
theorem dX6_told_57 : decode cX6_told 57 = .ok (.aload_n 0, 1) := by decide +kernel
theorem dX6_told_58 : decode cX6_told 58 = .ok (.getfield 10, 3) := by decide +kernel
theorem dX6_told_61 : decode cX6_told 61 = .ok (.getfield 83, 3) := by decide +kernel
theorem dX6_told_64 : decode cX6_told 64 = .ok (.getfield 106, 3) := by decide +kernel
theorem dX6_told_67 : decode cX6_told 67 = .ok (.iload_n 1, 1) := by decide +kernel
theorem dX6_told_68 : decode cX6_told 68 = .ok (.iaload, 1) := by decide +kernel
theorem dX6_told_69 : decode cX6_told 69 = .ok (.ireturn, 1) := by decide +kernel
theorem dX6_told_70 : decode cX6_told 70 = .ok (.aload_n 0, 1) := by decide +kernel
theorem dX6_told_71 : decode cX6_told 71 = .ok (.getfield 10, 3) := by decide +kernel
theorem dX6_told_74 : decode cX6_told 74 = .ok (.getfield 83, 3) := by decide +kernel
theorem dX6_told_77 : decode cX6_told 77 = .ok (.getfield 108, 3) := by decide +kernel
theorem dX6_told_80 : decode cX6_told 80 = .ok (.iload_n 1, 1) := by decide +kernel
theorem dX6_told_81 : decode cX6_told 81 = .ok (.iaload, 1) := by decide +kernel
theorem dX6_told_82 : decode cX6_told 82 = .ok (.ireturn, 1) := by decide +kernel
theorem dX6_told_83 : decode cX6_told 83 = .ok (.bipush (-2), 2) := by decide +kernel
theorem dX6_told_85 : decode cX6_told 85 = .ok (.ireturn, 1) := by decide +kernel
theorem dX6_end_0 : decode cX6_end 0 = .ok (.iload_n 1, 1) := by decide +kernel
theorem dX6_end_1 : decode cX6_end 1 = .ok (.iconst 1, 1) := by decide +kernel
theorem dX6_end_2 : decode cX6_end 2 = .ok (.sipush 1000, 3) := by decide +kernel
theorem dX6_end_5 : decode cX6_end 5 = .ok (.invokestatic 42, 3) := by decide +kernel
theorem dX6_end_8 : decode cX6_end 8 = .ok (.ifCond .ne 6, 3) := by decide +kernel
theorem dX6_end_11 : decode cX6_end 11 = .ok (.bipush (-2), 2) := by decide +kernel
theorem dX6_end_13 : decode cX6_end 13 = .ok (.ireturn, 1) := by decide +kernel
theorem dX6_end_14 : decode cX6_end 14 = .ok (.aload_n 0, 1) := by decide +kernel
theorem dX6_end_15 : decode cX6_end 15 = .ok (.getfield 10, 3) := by decide +kernel
theorem dX6_end_18 : decode cX6_end 18 = .ok (.getfield 111, 3) := by decide +kernel
theorem dX6_end_21 : decode cX6_end 21 = .ok (.istore_n 2, 1) := by decide +kernel
theorem dX6_end_22 : decode cX6_end 22 = .ok (.aload_n 0, 1) := by decide +kernel
theorem dX6_end_23 : decode cX6_end 23 = .ok (.getfield 10, 3) := by decide +kernel
theorem dX6_end_26 : decode cX6_end 26 = .ok (.iload_n 1, 1) := by decide +kernel
theorem dX6_end_27 : decode cX6_end 27 = .ok (.putfield 111, 3) := by decide +kernel
theorem dX6_end_30 : decode cX6_end 30 = .ok (.aload_n 0, 1) := by decide +kernel
theorem dX6_end_31 : decode cX6_end 31 = .ok (.getfield 27, 3) := by decide +kernel
theorem dX6_end_34 : decode cX6_end 34 = .ok (.invokevirtual 60, 3) := by decide +kernel
theorem dX6_end_37 : decode cX6_end 37 = .ok (.iload_n 2, 1) := by decide +kernel
theorem dX6_end_38 : decode cX6_end 38 = .ok (.ireturn, 1) := by decide +kernel
theorem dX6_journal_0 : decode cX6_journal 0 = .ok (.iload_n 1, 1) := by decide +kernel
theorem dX6_journal_1 : decode cX6_journal 1 = .ok (.iconst 0, 1) := by decide +kernel
theorem dX6_journal_2 : decode cX6_journal 2 = .ok (.bipush 8, 2) := by decide +kernel
theorem dX6_journal_4 : decode cX6_journal 4 = .ok (.invokestatic 42, 3) := by decide +kernel
theorem dX6_journal_7 : decode cX6_journal 7 = .ok (.ifCond .ne 6, 3) := by decide +kernel
theorem dX6_journal_10 : decode cX6_journal 10 = .ok (.bipush (-2), 2) := by decide +kernel
theorem dX6_journal_12 : decode cX6_journal 12 = .ok (.ireturn, 1) := by decide +kernel
theorem dX6_journal_13 : decode cX6_journal 13 = .ok (.aload_n 0, 1) := by decide +kernel
theorem dX6_journal_14 : decode cX6_journal 14 = .ok (.getfield 10, 3) := by decide +kernel
theorem dX6_journal_17 : decode cX6_journal 17 = .ok (.getfield 114, 3) := by decide +kernel
theorem dX6_journal_20 : decode cX6_journal 20 = .ok (.istore_n 2, 1) := by decide +kernel
theorem dX6_journal_21 : decode cX6_journal 21 = .ok (.aload_n 0, 1) := by decide +kernel
theorem dX6_journal_22 : decode cX6_journal 22 = .ok (.getfield 10, 3) := by decide +kernel
theorem dX6_journal_25 : decode cX6_journal 25 = .ok (.iload_n 1, 1) := by decide +kernel
theorem dX6_journal_26 : decode cX6_journal 26 = .ok (.putfield 114, 3) := by decide +kernel
theorem dX6_journal_29 : decode cX6_journal 29 = .ok (.aload_n 0, 1) := by decide +kernel
theorem dX6_journal_30 : decode cX6_journal 30 = .ok (.getfield 27, 3) := by decide +kernel
theorem dX6_journal_33 : decode cX6_journal 33 = .ok (.invokevirtual 60, 3) := by decide +kernel
theorem dX6_journal_36 : decode cX6_journal 36 = .ok (.iload_n 2, 1) := by decide +kernel
theorem dX6_journal_37 : decode cX6_journal 37 = .ok (.ireturn, 1) := by decide +kernel
theorem dX6_disk_0 : decode cX6_disk 0 = .ok (.iload_n 1, 1) := by decide +kernel
theorem dX6_disk_1 : decode cX6_disk 1 = .ok (.invokestatic 38, 3) := by decide +kernel
theorem dX6_disk_4 : decode cX6_disk 4 = .ok (.ifCond .ne 5, 3) := by decide +kernel
theorem dX6_disk_7 : decode cX6_disk 7 = .ok (.iconst (-1), 1) := by decide +kernel
theorem dX6_disk_8 : decode cX6_disk 8 = .ok (.ireturn, 1) := by decide +kernel
theorem dX6_disk_9 : decode cX6_disk 9 = .ok (.iload_n 2, 1) := by decide +kernel
theorem dX6_disk_10 : decode cX6_disk 10 = .ok (.iconst 0, 1) := by decide +kernel
theorem dX6_disk_11 : decode cX6_disk 11 = .ok (.bipush 9, 2) := by decide +kernel
theorem dX6_disk_13 : decode cX6_disk 13 = .ok (.invokestatic 42, 3) := by decide +kernel
theorem dX6_disk_16 : decode cX6_disk 16 = .ok (.ifCond .ne 6, 3) := by decide +kernel
theorem dX6_disk_19 : decode cX6_disk 19 = .ok (.bipush (-2), 2) := by decide +kernel
theorem dX6_disk_21 : decode cX6_disk 21 = .ok (.ireturn, 1) := by decide +kernel
theorem dX6_disk_22 : decode cX6_disk 22 = .ok (.aload_n 0, 1) := by decide +kernel
theorem dX6_disk_23 : decode cX6_disk 23 = .ok (.invokevirtual 117, 3) := by decide +kernel
theorem dX6_disk_26 : decode cX6_disk 26 = .ok (.getfield 121, 3) := by decide +kernel
theorem dX6_disk_29 : decode cX6_disk 29 = .ok (.iload_n 1, 1) := by decide +kernel
theorem dX6_disk_30 : decode cX6_disk 30 = .ok (.aaload, 1) := by decide +kernel
theorem dX6_disk_31 : decode cX6_disk 31 = .ok (.astore_n 3, 1) := by decide +kernel
theorem dX6_disk_32 : decode cX6_disk 32 = .ok (.iload_n 2, 1) := by decide +kernel
theorem dX6_disk_33 : decode cX6_disk 33 = .ok (.tableswitch 107 0 8 #[51, 56, 61, 66, 71, 76, 92, 97, 102], 51) := by decide +kernel
theorem dX6_disk_84 : decode cX6_disk 84 = .ok (.aload_n 3, 1) := by decide +kernel
theorem dX6_disk_85 : decode cX6_disk 85 = .ok (.getfield 125, 3) := by decide +kernel
theorem dX6_disk_88 : decode cX6_disk 88 = .ok (.ireturn, 1) := by decide +kernel
theorem dX6_disk_89 : decode cX6_disk 89 = .ok (.aload_n 3, 1) := by decide +kernel
theorem dX6_disk_90 : decode cX6_disk 90 = .ok (.getfield 130, 3) := by decide +kernel
theorem dX6_disk_93 : decode cX6_disk 93 = .ok (.ireturn, 1) := by decide +kernel
theorem dX6_disk_94 : decode cX6_disk 94 = .ok (.aload_n 3, 1) := by decide +kernel
theorem dX6_disk_95 : decode cX6_disk 95 = .ok (.getfield 133, 3) := by decide +kernel
theorem dX6_disk_98 : decode cX6_disk 98 = .ok (.ireturn, 1) := by decide +kernel
theorem dX6_disk_99 : decode cX6_disk 99 = .ok (.aload_n 3, 1) := by decide +kernel
theorem dX6_disk_100 : decode cX6_disk 100 = .ok (.getfield 136, 3) := by decide +kernel
theorem dX6_disk_103 : decode cX6_disk 103 = .ok (.ireturn, 1) := by decide +kernel
theorem dX6_disk_104 : decode cX6_disk 104 = .ok (.aload_n 3, 1) := by decide +kernel
theorem dX6_disk_105 : decode cX6_disk 105 = .ok (.getfield 139, 3) := by decide +kernel
theorem dX6_disk_108 : decode cX6_disk 108 = .ok (.ireturn, 1) := by decide +kernel
theorem dX6_disk_109 : decode cX6_disk 109 = .ok (.aload_n 0, 1) := by decide +kernel
theorem dX6_disk_110 : decode cX6_disk 110 = .ok (.getfield 27, 3) := by decide +kernel
theorem dX6_disk_113 : decode cX6_disk 113 = .ok (.aload_n 0, 1) := by decide +kernel
theorem dX6_disk_114 : decode cX6_disk 114 = .ok (.getfield 10, 3) := by decide +kernel
theorem dX6_disk_117 : decode cX6_disk 117 = .ok (.getfield 83, 3) := by decide +kernel
theorem dX6_disk_120 : decode cX6_disk 120 = .ok (.iload_n 1, 1) := by decide +kernel
theorem dX6_disk_121 : decode cX6_disk 121 = .ok (.invokevirtual 142, 3) := by decide +kernel
theorem dX6_disk_124 : decode cX6_disk 124 = .ok (.ireturn, 1) := by decide +kernel
theorem dX6_disk_125 : decode cX6_disk 125 = .ok (.aload_n 3, 1) := by decide +kernel
theorem dX6_disk_126 : decode cX6_disk 126 = .ok (.getfield 146, 3) := by decide +kernel
theorem dX6_disk_129 : decode cX6_disk 129 = .ok (.ireturn, 1) := by decide +kernel
theorem dX6_disk_130 : decode cX6_disk 130 = .ok (.aload_n 3, 1) := by decide +kernel
theorem dX6_disk_131 : decode cX6_disk 131 = .ok (.getfield 149, 3) := by decide +kernel
theorem dX6_disk_134 : decode cX6_disk 134 = .ok (.ireturn, 1) := by decide +kernel
theorem dX6_disk_135 : decode cX6_disk 135 = .ok (.aload_n 3, 1) := by decide +kernel
theorem dX6_disk_136 : decode cX6_disk 136 = .ok (.getfield 152, 3) := by decide +kernel
theorem dX6_disk_139 : decode cX6_disk 139 = .ok (.ireturn, 1) := by decide +kernel
theorem dX6_disk_140 : decode cX6_disk 140 = .ok (.aload_n 3, 1) := by decide +kernel
theorem dX6_disk_141 : decode cX6_disk 141 = .ok (.getfield 155, 3) := by decide +kernel
theorem dX6_disk_144 : decode cX6_disk 144 = .ok (.ireturn, 1) := by decide +kernel
theorem dX6_at_0 : decode cX6_at 0 = .ok (.iload_n 1, 1) := by decide +kernel
theorem dX6_at_1 : decode cX6_at 1 = .ok (.invokestatic 38, 3) := by decide +kernel
theorem dX6_at_4 : decode cX6_at 4 = .ok (.ifCond .ne 5, 3) := by decide +kernel
theorem dX6_at_7 : decode cX6_at 7 = .ok (.iconst (-1), 1) := by decide +kernel
theorem dX6_at_8 : decode cX6_at 8 = .ok (.ireturn, 1) := by decide +kernel
theorem dX6_at_9 : decode cX6_at 9 = .ok (.iload_n 2, 1) := by decide +kernel
theorem dX6_at_10 : decode cX6_at 10 = .ok (.iconst 0, 1) := by decide +kernel
theorem dX6_at_11 : decode cX6_at 11 = .ok (.aload_n 0, 1) := by decide +kernel
theorem dX6_at_12 : decode cX6_at 12 = .ok (.getfield 10, 3) := by decide +kernel
theorem dX6_at_15 : decode cX6_at 15 = .ok (.getfield 111, 3) := by decide +kernel
theorem dX6_at_18 : decode cX6_at 18 = .ok (.iconst 1, 1) := by decide +kernel
theorem dX6_at_19 : decode cX6_at 19 = .ok (.isub, 1) := by decide +kernel
theorem dX6_at_20 : decode cX6_at 20 = .ok (.invokestatic 42, 3) := by decide +kernel
theorem dX6_at_23 : decode cX6_at 23 = .ok (.ifCond .eq 12, 3) := by decide +kernel
theorem dX6_at_26 : decode cX6_at 26 = .ok (.iload_n 3, 1) := by decide +kernel
theorem dX6_at_27 : decode cX6_at 27 = .ok (.iconst 0, 1) := by decide +kernel
theorem dX6_at_28 : decode cX6_at 28 = .ok (.iconst 2, 1) := by decide +kernel
theorem dX6_at_29 : decode cX6_at 29 = .ok (.invokestatic 42, 3) := by decide +kernel
theorem dX6_at_32 : decode cX6_at 32 = .ok (.ifCond .ne 6, 3) := by decide +kernel
theorem dX6_at_35 : decode cX6_at 35 = .ok (.bipush (-2), 2) := by decide +kernel
theorem dX6_at_37 : decode cX6_at 37 = .ok (.ireturn, 1) := by decide +kernel
theorem dX6_at_38 : decode cX6_at 38 = .ok (.aload_n 0, 1) := by decide +kernel
theorem dX6_at_39 : decode cX6_at 39 = .ok (.getfield 27, 3) := by decide +kernel
theorem dX6_at_42 : decode cX6_at 42 = .ok (.aload_n 0, 1) := by decide +kernel
theorem dX6_at_43 : decode cX6_at 43 = .ok (.getfield 10, 3) := by decide +kernel
theorem dX6_at_46 : decode cX6_at 46 = .ok (.iload_n 2, 1) := by decide +kernel
theorem dX6_at_47 : decode cX6_at 47 = .ok (.iconst 1, 1) := by decide +kernel
theorem dX6_at_48 : decode cX6_at 48 = .ok (.iadd, 1) := by decide +kernel
theorem dX6_at_49 : decode cX6_at 49 = .ok (.invokevirtual 158, 3) := by decide +kernel
theorem dX6_at_52 : decode cX6_at 52 = .ok (.aload_n 0, 1) := by decide +kernel
theorem dX6_at_53 : decode cX6_at 53 = .ok (.getfield 27, 3) := by decide +kernel
theorem dX6_at_56 : decode cX6_at 56 = .ok (.getfield 121, 3) := by decide +kernel
theorem dX6_at_59 : decode cX6_at 59 = .ok (.iload_n 1, 1) := by decide +kernel
theorem dX6_at_60 : decode cX6_at 60 = .ok (.aaload, 1) := by decide +kernel
theorem dX6_at_61 : decode cX6_at 61 = .ok (.astore 4, 2) := by decide +kernel
theorem dX6_at_63 : decode cX6_at 63 = .ok (.iload_n 3, 1) := by decide +kernel
theorem dX6_at_64 : decode cX6_at 64 = .ok (.lookupswitch 42 #[(0, 28), (1, 34)], 28) := by decide +kernel
theorem dX6_at_92 : decode cX6_at 92 = .ok (.aload 4, 2) := by decide +kernel
theorem dX6_at_94 : decode cX6_at 94 = .ok (.getfield 152, 3) := by decide +kernel
theorem dX6_at_97 : decode cX6_at 97 = .ok (.ireturn, 1) := by decide +kernel
theorem dX6_at_98 : decode cX6_at 98 = .ok (.aload 4, 2) := by decide +kernel
theorem dX6_at_100 : decode cX6_at 100 = .ok (.getfield 149, 3) := by decide +kernel
theorem dX6_at_103 : decode cX6_at 103 = .ok (.iconst 1, 1) := by decide +kernel
theorem dX6_at_104 : decode cX6_at 104 = .ok (.isub, 1) := by decide +kernel
theorem dX6_at_105 : decode cX6_at 105 = .ok (.ireturn, 1) := by decide +kernel
theorem dX6_at_106 : decode cX6_at 106 = .ok (.aload 4, 2) := by decide +kernel
theorem dX6_at_108 : decode cX6_at 108 = .ok (.getfield 125, 3) := by decide +kernel
theorem dX6_at_111 : decode cX6_at 111 = .ok (.ireturn, 1) := by decide +kernel
theorem dX6_fate_0 : decode cX6_fate 0 = .ok (.aload_n 0, 1) := by decide +kernel
theorem dX6_fate_1 : decode cX6_fate 1 = .ok (.getfield 10, 3) := by decide +kernel
theorem dX6_fate_4 : decode cX6_fate 4 = .ok (.getfield 83, 3) := by decide +kernel
theorem dX6_fate_7 : decode cX6_fate 7 = .ok (.iload_n 1, 1) := by decide +kernel
theorem dX6_fate_8 : decode cX6_fate 8 = .ok (.invokevirtual 96, 3) := by decide +kernel
theorem dX6_fate_11 : decode cX6_fate 11 = .ok (.ifCond .ne 5, 3) := by decide +kernel
theorem dX6_fate_14 : decode cX6_fate 14 = .ok (.iconst (-1), 1) := by decide +kernel
theorem dX6_fate_15 : decode cX6_fate 15 = .ok (.ireturn, 1) := by decide +kernel
theorem dX6_fate_16 : decode cX6_fate 16 = .ok (.aload_n 0, 1) := by decide +kernel
theorem dX6_fate_17 : decode cX6_fate 17 = .ok (.invokevirtual 117, 3) := by decide +kernel
theorem dX6_fate_20 : decode cX6_fate 20 = .ok (.getfield 162, 3) := by decide +kernel
theorem dX6_fate_23 : decode cX6_fate 23 = .ok (.iload_n 1, 1) := by decide +kernel
theorem dX6_fate_24 : decode cX6_fate 24 = .ok (.iaload, 1) := by decide +kernel
theorem dX6_fate_25 : decode cX6_fate 25 = .ok (.ireturn, 1) := by decide +kernel
theorem dX6_waiting_0 : decode cX6_waiting 0 = .ok (.aload_n 0, 1) := by decide +kernel
theorem dX6_waiting_1 : decode cX6_waiting 1 = .ok (.invokevirtual 117, 3) := by decide +kernel
theorem dX6_waiting_4 : decode cX6_waiting 4 = .ok (.astore_n 2, 1) := by decide +kernel
theorem dX6_waiting_5 : decode cX6_waiting 5 = .ok (.iload_n 1, 1) := by decide +kernel
theorem dX6_waiting_6 : decode cX6_waiting 6 = .ok (.iconst 0, 1) := by decide +kernel
theorem dX6_waiting_7 : decode cX6_waiting 7 = .ok (.aload_n 2, 1) := by decide +kernel
theorem dX6_waiting_8 : decode cX6_waiting 8 = .ok (.getfield 165, 3) := by decide +kernel
theorem dX6_waiting_11 : decode cX6_waiting 11 = .ok (.iconst 1, 1) := by decide +kernel
theorem dX6_waiting_12 : decode cX6_waiting 12 = .ok (.isub, 1) := by decide +kernel
theorem dX6_waiting_13 : decode cX6_waiting 13 = .ok (.invokestatic 42, 3) := by decide +kernel
theorem dX6_waiting_16 : decode cX6_waiting 16 = .ok (.ifCond .eq 12, 3) := by decide +kernel
theorem dX6_waiting_19 : decode cX6_waiting 19 = .ok (.aload_n 2, 1) := by decide +kernel
theorem dX6_waiting_20 : decode cX6_waiting 20 = .ok (.getfield 166, 3) := by decide +kernel
theorem dX6_waiting_23 : decode cX6_waiting 23 = .ok (.iload_n 1, 1) := by decide +kernel
theorem dX6_waiting_24 : decode cX6_waiting 24 = .ok (.iaload, 1) := by decide +kernel
theorem dX6_waiting_25 : decode cX6_waiting 25 = .ok (.goto 5, 3) := by decide +kernel
theorem dX6_waiting_28 : decode cX6_waiting 28 = .ok (.bipush (-6), 2) := by decide +kernel
theorem dX6_waiting_30 : decode cX6_waiting 30 = .ok (.ireturn, 1) := by decide +kernel
theorem dX6_least_0 : decode cX6_least 0 = .ok (.iload_n 1, 1) := by decide +kernel
theorem dX6_least_1 : decode cX6_least 1 = .ok (.invokestatic 38, 3) := by decide +kernel
theorem dX6_least_4 : decode cX6_least 4 = .ok (.ifCond .ne 5, 3) := by decide +kernel
theorem dX6_least_7 : decode cX6_least 7 = .ok (.iconst (-1), 1) := by decide +kernel
theorem dX6_least_8 : decode cX6_least 8 = .ok (.ireturn, 1) := by decide +kernel
theorem dX6_least_9 : decode cX6_least 9 = .ok (.iload_n 2, 1) := by decide +kernel
theorem dX6_least_10 : decode cX6_least 10 = .ok (.iconst 0, 1) := by decide +kernel
theorem dX6_least_11 : decode cX6_least 11 = .ok (.iconst 2, 1) := by decide +kernel
theorem dX6_least_12 : decode cX6_least 12 = .ok (.invokestatic 42, 3) := by decide +kernel
theorem dX6_least_15 : decode cX6_least 15 = .ok (.ifCond .ne 6, 3) := by decide +kernel
theorem dX6_least_18 : decode cX6_least 18 = .ok (.bipush (-2), 2) := by decide +kernel
theorem dX6_least_20 : decode cX6_least 20 = .ok (.ireturn, 1) := by decide +kernel
theorem dX6_least_21 : decode cX6_least 21 = .ok (.aload_n 0, 1) := by decide +kernel
theorem dX6_least_22 : decode cX6_least 22 = .ok (.getfield 34, 3) := by decide +kernel
theorem dX6_least_25 : decode cX6_least 25 = .ok (.aload_n 0, 1) := by decide +kernel
theorem dX6_least_26 : decode cX6_least 26 = .ok (.getfield 10, 3) := by decide +kernel
theorem dX6_least_29 : decode cX6_least 29 = .ok (.iload_n 1, 1) := by decide +kernel
theorem dX6_least_30 : decode cX6_least 30 = .ok (.invokevirtual 169, 3) := by decide +kernel
theorem dX6_least_33 : decode cX6_least 33 = .ok (.iload_n 2, 1) := by decide +kernel
theorem dX6_least_34 : decode cX6_least 34 = .ok (.lookupswitch 50 #[(0, 26), (1, 42)], 26) := by decide +kernel
theorem dX6_least_60 : decode cX6_least 60 = .ok (.aload_n 0, 1) := by decide +kernel
theorem dX6_least_61 : decode cX6_least 61 = .ok (.getfield 34, 3) := by decide +kernel
theorem dX6_least_64 : decode cX6_least 64 = .ok (.invokevirtual 172, 3) := by decide +kernel
theorem dX6_least_67 : decode cX6_least 67 = .ok (.aload_n 0, 1) := by decide +kernel
theorem dX6_least_68 : decode cX6_least 68 = .ok (.getfield 34, 3) := by decide +kernel
theorem dX6_least_71 : decode cX6_least 71 = .ok (.invokevirtual 176, 3) := by decide +kernel
theorem dX6_least_74 : decode cX6_least 74 = .ok (.isub, 1) := by decide +kernel
theorem dX6_least_75 : decode cX6_least 75 = .ok (.ireturn, 1) := by decide +kernel
theorem dX6_least_76 : decode cX6_least 76 = .ok (.aload_n 0, 1) := by decide +kernel
theorem dX6_least_77 : decode cX6_least 77 = .ok (.getfield 34, 3) := by decide +kernel
theorem dX6_least_80 : decode cX6_least 80 = .ok (.getfield 179, 3) := by decide +kernel
theorem dX6_least_83 : decode cX6_least 83 = .ok (.ireturn, 1) := by decide +kernel
theorem dX6_least_84 : decode cX6_least 84 = .ok (.aload_n 0, 1) := by decide +kernel
theorem dX6_least_85 : decode cX6_least 85 = .ok (.getfield 34, 3) := by decide +kernel
theorem dX6_least_88 : decode cX6_least 88 = .ok (.invokevirtual 180, 3) := by decide +kernel
theorem dX6_least_91 : decode cX6_least 91 = .ok (.ireturn, 1) := by decide +kernel
theorem dX6_limited_0 : decode cX6_limited 0 = .ok (.iload_n 1, 1) := by decide +kernel
theorem dX6_limited_1 : decode cX6_limited 1 = .ok (.invokestatic 38, 3) := by decide +kernel
theorem dX6_limited_4 : decode cX6_limited 4 = .ok (.ifCond .ne 5, 3) := by decide +kernel
theorem dX6_limited_7 : decode cX6_limited 7 = .ok (.iconst (-1), 1) := by decide +kernel
theorem dX6_limited_8 : decode cX6_limited 8 = .ok (.ireturn, 1) := by decide +kernel
theorem dX6_limited_9 : decode cX6_limited 9 = .ok (.iload_n 2, 1) := by decide +kernel
theorem dX6_limited_10 : decode cX6_limited 10 = .ok (.iconst 1, 1) := by decide +kernel
theorem dX6_limited_11 : decode cX6_limited 11 = .ok (.sipush 1000, 3) := by decide +kernel
theorem dX6_limited_14 : decode cX6_limited 14 = .ok (.invokestatic 42, 3) := by decide +kernel
theorem dX6_limited_17 : decode cX6_limited 17 = .ok (.ifCond .eq 13, 3) := by decide +kernel
theorem dX6_limited_20 : decode cX6_limited 20 = .ok (.iload_n 3, 1) := by decide +kernel
theorem dX6_limited_21 : decode cX6_limited 21 = .ok (.iconst 0, 1) := by decide +kernel
theorem dX6_limited_22 : decode cX6_limited 22 = .ok (.bipush 40, 2) := by decide +kernel
theorem dX6_limited_24 : decode cX6_limited 24 = .ok (.invokestatic 42, 3) := by decide +kernel
theorem dX6_limited_27 : decode cX6_limited 27 = .ok (.ifCond .ne 6, 3) := by decide +kernel
theorem dX6_limited_30 : decode cX6_limited 30 = .ok (.bipush (-2), 2) := by decide +kernel
theorem dX6_limited_32 : decode cX6_limited 32 = .ok (.ireturn, 1) := by decide +kernel
theorem dX6_limited_33 : decode cX6_limited 33 = .ok (.aload_n 0, 1) := by decide +kernel
theorem dX6_limited_34 : decode cX6_limited 34 = .ok (.getfield 34, 3) := by decide +kernel
theorem dX6_limited_37 : decode cX6_limited 37 = .ok (.aload_n 0, 1) := by decide +kernel
theorem dX6_limited_38 : decode cX6_limited 38 = .ok (.getfield 10, 3) := by decide +kernel
theorem dX6_limited_41 : decode cX6_limited 41 = .ok (.iload_n 1, 1) := by decide +kernel
theorem dX6_limited_42 : decode cX6_limited 42 = .ok (.invokevirtual 169, 3) := by decide +kernel
theorem dX6_limited_45 : decode cX6_limited 45 = .ok (.aload_n 0, 1) := by decide +kernel
theorem dX6_limited_46 : decode cX6_limited 46 = .ok (.getfield 34, 3) := by decide +kernel
theorem dX6_limited_49 : decode cX6_limited 49 = .ok (.invokevirtual 172, 3) := by decide +kernel
theorem dX6_limited_52 : decode cX6_limited 52 = .ok (.aload_n 0, 1) := by decide +kernel
theorem dX6_limited_53 : decode cX6_limited 53 = .ok (.getfield 34, 3) := by decide +kernel
theorem dX6_limited_56 : decode cX6_limited 56 = .ok (.iload_n 2, 1) := by decide +kernel
theorem dX6_limited_57 : decode cX6_limited 57 = .ok (.iload_n 3, 1) := by decide +kernel
theorem dX6_limited_58 : decode cX6_limited 58 = .ok (.invokevirtual 183, 3) := by decide +kernel
theorem dX6_limited_61 : decode cX6_limited 61 = .ok (.isub, 1) := by decide +kernel
theorem dX6_limited_62 : decode cX6_limited 62 = .ok (.ireturn, 1) := by decide +kernel
theorem dX6_costs_0 : decode cX6_costs 0 = .ok (.iload_n 1, 1) := by decide +kernel
theorem dX6_costs_1 : decode cX6_costs 1 = .ok (.invokestatic 38, 3) := by decide +kernel
theorem dX6_costs_4 : decode cX6_costs 4 = .ok (.ifCond .ne 5, 3) := by decide +kernel
theorem dX6_costs_7 : decode cX6_costs 7 = .ok (.iconst (-1), 1) := by decide +kernel
theorem dX6_costs_8 : decode cX6_costs 8 = .ok (.ireturn, 1) := by decide +kernel
theorem dX6_costs_9 : decode cX6_costs 9 = .ok (.iload_n 2, 1) := by decide +kernel
theorem dX6_costs_10 : decode cX6_costs 10 = .ok (.iconst 1, 1) := by decide +kernel
theorem dX6_costs_11 : decode cX6_costs 11 = .ok (.sipush 1000, 3) := by decide +kernel
theorem dX6_costs_14 : decode cX6_costs 14 = .ok (.invokestatic 42, 3) := by decide +kernel
theorem dX6_costs_17 : decode cX6_costs 17 = .ok (.ifCond .ne 6, 3) := by decide +kernel
theorem dX6_costs_20 : decode cX6_costs 20 = .ok (.bipush (-2), 2) := by decide +kernel
theorem dX6_costs_22 : decode cX6_costs 22 = .ok (.ireturn, 1) := by decide +kernel
theorem dX6_costs_23 : decode cX6_costs 23 = .ok (.aload_n 0, 1) := by decide +kernel
theorem dX6_costs_24 : decode cX6_costs 24 = .ok (.getfield 10, 3) := by decide +kernel
theorem dX6_costs_27 : decode cX6_costs 27 = .ok (.getfield 46, 3) := by decide +kernel
theorem dX6_costs_30 : decode cX6_costs 30 = .ok (.iload_n 1, 1) := by decide +kernel
theorem dX6_costs_31 : decode cX6_costs 31 = .ok (.aaload, 1) := by decide +kernel
theorem dX6_costs_32 : decode cX6_costs 32 = .ok (.getfield 77, 3) := by decide +kernel
theorem dX6_costs_35 : decode cX6_costs 35 = .ok (.iconst 3, 1) := by decide +kernel
theorem dX6_costs_36 : decode cX6_costs 36 = .ok (.if_icmp .ne 6, 3) := by decide +kernel
theorem dX6_costs_39 : decode cX6_costs 39 = .ok (.bipush (-3), 2) := by decide +kernel
theorem dX6_costs_41 : decode cX6_costs 41 = .ok (.ireturn, 1) := by decide +kernel
theorem dX6_costs_42 : decode cX6_costs 42 = .ok (.aload_n 0, 1) := by decide +kernel
theorem dX6_costs_43 : decode cX6_costs 43 = .ok (.getfield 10, 3) := by decide +kernel
theorem dX6_costs_46 : decode cX6_costs 46 = .ok (.getfield 46, 3) := by decide +kernel
theorem dX6_costs_49 : decode cX6_costs 49 = .ok (.iload_n 1, 1) := by decide +kernel
theorem dX6_costs_50 : decode cX6_costs 50 = .ok (.aaload, 1) := by decide +kernel
theorem dX6_costs_51 : decode cX6_costs 51 = .ok (.iload_n 2, 1) := by decide +kernel
theorem dX6_costs_52 : decode cX6_costs 52 = .ok (.invokevirtual 187, 3) := by decide +kernel
theorem dX6_costs_55 : decode cX6_costs 55 = .ok (.ireturn, 1) := by decide +kernel
theorem dX6_worst_0 : decode cX6_worst 0 = .ok (.iload_n 1, 1) := by decide +kernel
theorem dX6_worst_1 : decode cX6_worst 1 = .ok (.invokestatic 38, 3) := by decide +kernel
theorem dX6_worst_4 : decode cX6_worst 4 = .ok (.ifCond .ne 5, 3) := by decide +kernel
theorem dX6_worst_7 : decode cX6_worst 7 = .ok (.iconst (-1), 1) := by decide +kernel
theorem dX6_worst_8 : decode cX6_worst 8 = .ok (.ireturn, 1) := by decide +kernel
theorem dX6_worst_9 : decode cX6_worst 9 = .ok (.iload_n 2, 1) := by decide +kernel
theorem dX6_worst_10 : decode cX6_worst 10 = .ok (.iconst 1, 1) := by decide +kernel
theorem dX6_worst_11 : decode cX6_worst 11 = .ok (.sipush 1000, 3) := by decide +kernel
theorem dX6_worst_14 : decode cX6_worst 14 = .ok (.invokestatic 42, 3) := by decide +kernel
theorem dX6_worst_17 : decode cX6_worst 17 = .ok (.ifCond .eq 12, 3) := by decide +kernel
theorem dX6_worst_20 : decode cX6_worst 20 = .ok (.iload_n 3, 1) := by decide +kernel
theorem dX6_worst_21 : decode cX6_worst 21 = .ok (.iconst 0, 1) := by decide +kernel
theorem dX6_worst_22 : decode cX6_worst 22 = .ok (.iconst 2, 1) := by decide +kernel
theorem dX6_worst_23 : decode cX6_worst 23 = .ok (.invokestatic 42, 3) := by decide +kernel
theorem dX6_worst_26 : decode cX6_worst 26 = .ok (.ifCond .ne 6, 3) := by decide +kernel
theorem dX6_worst_29 : decode cX6_worst 29 = .ok (.bipush (-2), 2) := by decide +kernel
theorem dX6_worst_31 : decode cX6_worst 31 = .ok (.ireturn, 1) := by decide +kernel
theorem dX6_worst_32 : decode cX6_worst 32 = .ok (.aload_n 0, 1) := by decide +kernel
theorem dX6_worst_33 : decode cX6_worst 33 = .ok (.getfield 10, 3) := by decide +kernel
theorem dX6_worst_36 : decode cX6_worst 36 = .ok (.getfield 46, 3) := by decide +kernel
theorem dX6_worst_39 : decode cX6_worst 39 = .ok (.iload_n 1, 1) := by decide +kernel
theorem dX6_worst_40 : decode cX6_worst 40 = .ok (.aaload, 1) := by decide +kernel
theorem dX6_worst_41 : decode cX6_worst 41 = .ok (.astore 4, 2) := by decide +kernel
theorem dX6_worst_43 : decode cX6_worst 43 = .ok (.aload 4, 2) := by decide +kernel
theorem dX6_worst_45 : decode cX6_worst 45 = .ok (.getfield 77, 3) := by decide +kernel
theorem dX6_worst_48 : decode cX6_worst 48 = .ok (.iconst 3, 1) := by decide +kernel
theorem dX6_worst_49 : decode cX6_worst 49 = .ok (.if_icmp .ne 6, 3) := by decide +kernel
theorem dX6_worst_52 : decode cX6_worst 52 = .ok (.bipush (-3), 2) := by decide +kernel
theorem dX6_worst_54 : decode cX6_worst 54 = .ok (.ireturn, 1) := by decide +kernel
theorem dX6_worst_55 : decode cX6_worst 55 = .ok (.aload 4, 2) := by decide +kernel
theorem dX6_worst_57 : decode cX6_worst 57 = .ok (.iload_n 2, 1) := by decide +kernel
theorem dX6_worst_58 : decode cX6_worst 58 = .ok (.invokevirtual 191, 3) := by decide +kernel
theorem dX6_worst_61 : decode cX6_worst 61 = .ok (.istore 5, 2) := by decide +kernel
theorem dX6_worst_63 : decode cX6_worst 63 = .ok (.iload_n 3, 1) := by decide +kernel
theorem dX6_worst_64 : decode cX6_worst 64 = .ok (.iconst 2, 1) := by decide +kernel
theorem dX6_worst_65 : decode cX6_worst 65 = .ok (.if_icmp .ne 6, 3) := by decide +kernel
theorem dX6_worst_68 : decode cX6_worst 68 = .ok (.iload 5, 2) := by decide +kernel
theorem dX6_worst_70 : decode cX6_worst 70 = .ok (.ireturn, 1) := by decide +kernel
theorem dX6_worst_71 : decode cX6_worst 71 = .ok (.aload 4, 2) := by decide +kernel
theorem dX6_worst_73 : decode cX6_worst 73 = .ok (.iload 5, 2) := by decide +kernel
theorem dX6_worst_75 : decode cX6_worst 75 = .ok (.invokevirtual 187, 3) := by decide +kernel
theorem dX6_worst_78 : decode cX6_worst 78 = .ok (.aload 4, 2) := by decide +kernel
theorem dX6_worst_80 : decode cX6_worst 80 = .ok (.iload 5, 2) := by decide +kernel
theorem dX6_worst_82 : decode cX6_worst 82 = .ok (.invokevirtual 194, 3) := by decide +kernel
theorem dX6_worst_85 : decode cX6_worst 85 = .ok (.iload_n 3, 1) := by decide +kernel
theorem dX6_worst_86 : decode cX6_worst 86 = .ok (.invokestatic 197, 3) := by decide +kernel
theorem dX6_worst_89 : decode cX6_worst 89 = .ok (.ireturn, 1) := by decide +kernel
theorem dX6_drawn_0 : decode cX6_drawn 0 = .ok (.iload_n 1, 1) := by decide +kernel
theorem dX6_drawn_1 : decode cX6_drawn 1 = .ok (.invokestatic 38, 3) := by decide +kernel
theorem dX6_drawn_4 : decode cX6_drawn 4 = .ok (.ifCond .eq 23, 3) := by decide +kernel
theorem dX6_drawn_7 : decode cX6_drawn 7 = .ok (.iload_n 2, 1) := by decide +kernel
theorem dX6_drawn_8 : decode cX6_drawn 8 = .ok (.ifCond .eq 19, 3) := by decide +kernel
theorem dX6_drawn_11 : decode cX6_drawn 11 = .ok (.aload_n 0, 1) := by decide +kernel
theorem dX6_drawn_12 : decode cX6_drawn 12 = .ok (.getfield 10, 3) := by decide +kernel
theorem dX6_drawn_15 : decode cX6_drawn 15 = .ok (.getfield 46, 3) := by decide +kernel
theorem dX6_drawn_18 : decode cX6_drawn 18 = .ok (.iload_n 1, 1) := by decide +kernel
theorem dX6_drawn_19 : decode cX6_drawn 19 = .ok (.aaload, 1) := by decide +kernel
theorem dX6_drawn_20 : decode cX6_drawn 20 = .ok (.iload_n 2, 1) := by decide +kernel
theorem dX6_drawn_21 : decode cX6_drawn 21 = .ok (.invokevirtual 70, 3) := by decide +kernel
theorem dX6_drawn_24 : decode cX6_drawn 24 = .ok (.ifCond .ne 5, 3) := by decide +kernel
theorem dX6_drawn_27 : decode cX6_drawn 27 = .ok (.iconst (-1), 1) := by decide +kernel
theorem dX6_drawn_28 : decode cX6_drawn 28 = .ok (.ireturn, 1) := by decide +kernel
theorem dX6_drawn_29 : decode cX6_drawn 29 = .ok (.iload_n 3, 1) := by decide +kernel
theorem dX6_drawn_30 : decode cX6_drawn 30 = .ok (.iconst 1, 1) := by decide +kernel
theorem dX6_drawn_31 : decode cX6_drawn 31 = .ok (.sipush 1000, 3) := by decide +kernel
theorem dX6_drawn_34 : decode cX6_drawn 34 = .ok (.invokestatic 42, 3) := by decide +kernel
theorem dX6_drawn_37 : decode cX6_drawn 37 = .ok (.ifCond .eq 13, 3) := by decide +kernel
theorem dX6_drawn_40 : decode cX6_drawn 40 = .ok (.iload 4, 2) := by decide +kernel
theorem dX6_drawn_42 : decode cX6_drawn 42 = .ok (.iconst 0, 1) := by decide +kernel
theorem dX6_drawn_43 : decode cX6_drawn 43 = .ok (.iconst 2, 1) := by decide +kernel
theorem dX6_drawn_44 : decode cX6_drawn 44 = .ok (.invokestatic 42, 3) := by decide +kernel
theorem dX6_drawn_47 : decode cX6_drawn 47 = .ok (.ifCond .ne 6, 3) := by decide +kernel
theorem dX6_drawn_50 : decode cX6_drawn 50 = .ok (.bipush (-2), 2) := by decide +kernel
theorem dX6_drawn_52 : decode cX6_drawn 52 = .ok (.ireturn, 1) := by decide +kernel
theorem dX6_drawn_53 : decode cX6_drawn 53 = .ok (.aload_n 0, 1) := by decide +kernel
theorem dX6_drawn_54 : decode cX6_drawn 54 = .ok (.getfield 10, 3) := by decide +kernel
theorem dX6_drawn_57 : decode cX6_drawn 57 = .ok (.getfield 46, 3) := by decide +kernel
theorem dX6_drawn_60 : decode cX6_drawn 60 = .ok (.iload_n 1, 1) := by decide +kernel
theorem dX6_drawn_61 : decode cX6_drawn 61 = .ok (.aaload, 1) := by decide +kernel
theorem dX6_drawn_62 : decode cX6_drawn 62 = .ok (.iload_n 2, 1) := by decide +kernel
theorem dX6_drawn_63 : decode cX6_drawn 63 = .ok (.invokevirtual 201, 3) := by decide +kernel
theorem dX6_drawn_66 : decode cX6_drawn 66 = .ok (.istore 5, 2) := by decide +kernel
theorem dX6_drawn_68 : decode cX6_drawn 68 = .ok (.iload 4, 2) := by decide +kernel
theorem dX6_drawn_70 : decode cX6_drawn 70 = .ok (.iconst 2, 1) := by decide +kernel
theorem dX6_drawn_71 : decode cX6_drawn 71 = .ok (.if_icmp .ne 6, 3) := by decide +kernel
theorem dX6_drawn_74 : decode cX6_drawn 74 = .ok (.iload 5, 2) := by decide +kernel
theorem dX6_drawn_76 : decode cX6_drawn 76 = .ok (.ireturn, 1) := by decide +kernel
theorem dX6_drawn_77 : decode cX6_drawn 77 = .ok (.aload_n 0, 1) := by decide +kernel
theorem dX6_drawn_78 : decode cX6_drawn 78 = .ok (.getfield 10, 3) := by decide +kernel
theorem dX6_drawn_81 : decode cX6_drawn 81 = .ok (.getfield 46, 3) := by decide +kernel
theorem dX6_drawn_84 : decode cX6_drawn 84 = .ok (.iload_n 1, 1) := by decide +kernel
theorem dX6_drawn_85 : decode cX6_drawn 85 = .ok (.aaload, 1) := by decide +kernel
theorem dX6_drawn_86 : decode cX6_drawn 86 = .ok (.iload_n 2, 1) := by decide +kernel
theorem dX6_drawn_87 : decode cX6_drawn 87 = .ok (.iload_n 3, 1) := by decide +kernel
theorem dX6_drawn_88 : decode cX6_drawn 88 = .ok (.iload 5, 2) := by decide +kernel
theorem dX6_drawn_90 : decode cX6_drawn 90 = .ok (.invokevirtual 204, 3) := by decide +kernel
theorem dX6_drawn_93 : decode cX6_drawn 93 = .ok (.iload 5, 2) := by decide +kernel
theorem dX6_drawn_95 : decode cX6_drawn 95 = .ok (.iload 4, 2) := by decide +kernel
theorem dX6_drawn_97 : decode cX6_drawn 97 = .ok (.invokestatic 197, 3) := by decide +kernel
theorem dX6_drawn_100 : decode cX6_drawn 100 = .ok (.ireturn, 1) := by decide +kernel
theorem dX6_count_0 : decode cX6_count 0 = .ok (.iload_n 1, 1) := by decide +kernel
theorem dX6_count_1 : decode cX6_count 1 = .ok (.tableswitch 124 0 6 #[43, 54, 62, 70, 78, 86, 94], 43) := by decide +kernel
theorem dX6_count_44 : decode cX6_count 44 = .ok (.aload_n 0, 1) := by decide +kernel
theorem dX6_count_45 : decode cX6_count 45 = .ok (.getfield 10, 3) := by decide +kernel
theorem dX6_count_48 : decode cX6_count 48 = .ok (.getfield 83, 3) := by decide +kernel
theorem dX6_count_51 : decode cX6_count 51 = .ok (.getfield 87, 3) := by decide +kernel
theorem dX6_count_54 : decode cX6_count 54 = .ok (.ireturn, 1) := by decide +kernel
theorem dX6_count_55 : decode cX6_count 55 = .ok (.aload_n 0, 1) := by decide +kernel
theorem dX6_count_56 : decode cX6_count 56 = .ok (.getfield 10, 3) := by decide +kernel
theorem dX6_count_59 : decode cX6_count 59 = .ok (.getfield 111, 3) := by decide +kernel
theorem dX6_count_62 : decode cX6_count 62 = .ok (.ireturn, 1) := by decide +kernel
theorem dX6_count_63 : decode cX6_count 63 = .ok (.aload_n 0, 1) := by decide +kernel
theorem dX6_count_64 : decode cX6_count 64 = .ok (.getfield 10, 3) := by decide +kernel
theorem dX6_count_67 : decode cX6_count 67 = .ok (.getfield 114, 3) := by decide +kernel
theorem dX6_count_70 : decode cX6_count 70 = .ok (.ireturn, 1) := by decide +kernel
theorem dX6_count_71 : decode cX6_count 71 = .ok (.aload_n 0, 1) := by decide +kernel
theorem dX6_count_72 : decode cX6_count 72 = .ok (.invokevirtual 117, 3) := by decide +kernel
theorem dX6_count_75 : decode cX6_count 75 = .ok (.invokevirtual 207, 3) := by decide +kernel
theorem dX6_count_78 : decode cX6_count 78 = .ok (.ireturn, 1) := by decide +kernel
theorem dX6_count_79 : decode cX6_count 79 = .ok (.aload_n 0, 1) := by decide +kernel
theorem dX6_count_80 : decode cX6_count 80 = .ok (.invokevirtual 117, 3) := by decide +kernel
theorem dX6_count_83 : decode cX6_count 83 = .ok (.getfield 165, 3) := by decide +kernel
theorem dX6_count_86 : decode cX6_count 86 = .ok (.ireturn, 1) := by decide +kernel
theorem dX6_count_87 : decode cX6_count 87 = .ok (.aload_n 0, 1) := by decide +kernel
theorem dX6_count_88 : decode cX6_count 88 = .ok (.invokevirtual 117, 3) := by decide +kernel
theorem dX6_count_91 : decode cX6_count 91 = .ok (.getfield 210, 3) := by decide +kernel
theorem dX6_count_94 : decode cX6_count 94 = .ok (.ireturn, 1) := by decide +kernel
theorem dX6_count_95 : decode cX6_count 95 = .ok (.aload_n 0, 1) := by decide +kernel
theorem dX6_count_96 : decode cX6_count 96 = .ok (.getfield 20, 3) := by decide +kernel
theorem dX6_count_99 : decode cX6_count 99 = .ok (.iconst 0, 1) := by decide +kernel
theorem dX6_count_100 : decode cX6_count 100 = .ok (.baload, 1) := by decide +kernel
theorem dX6_count_101 : decode cX6_count 101 = .ok (.ifCond .eq 7, 3) := by decide +kernel
theorem dX6_count_104 : decode cX6_count 104 = .ok (.iconst 1, 1) := by decide +kernel
theorem dX6_count_105 : decode cX6_count 105 = .ok (.goto 4, 3) := by decide +kernel
theorem dX6_count_108 : decode cX6_count 108 = .ok (.iconst 0, 1) := by decide +kernel
theorem dX6_count_109 : decode cX6_count 109 = .ok (.aload_n 0, 1) := by decide +kernel
theorem dX6_count_110 : decode cX6_count 110 = .ok (.getfield 20, 3) := by decide +kernel
theorem dX6_count_113 : decode cX6_count 113 = .ok (.iconst 1, 1) := by decide +kernel
theorem dX6_count_114 : decode cX6_count 114 = .ok (.baload, 1) := by decide +kernel
theorem dX6_count_115 : decode cX6_count 115 = .ok (.ifCond .eq 7, 3) := by decide +kernel
theorem dX6_count_118 : decode cX6_count 118 = .ok (.iconst 2, 1) := by decide +kernel
theorem dX6_count_119 : decode cX6_count 119 = .ok (.goto 4, 3) := by decide +kernel
theorem dX6_count_122 : decode cX6_count 122 = .ok (.iconst 0, 1) := by decide +kernel
theorem dX6_count_123 : decode cX6_count 123 = .ok (.iadd, 1) := by decide +kernel
theorem dX6_count_124 : decode cX6_count 124 = .ok (.ireturn, 1) := by decide +kernel
theorem dX6_count_125 : decode cX6_count 125 = .ok (.bipush (-2), 2) := by decide +kernel
theorem dX6_count_127 : decode cX6_count 127 = .ok (.ireturn, 1) := by decide +kernel
theorem dX6_image_0 : decode cX6_image 0 = .ok (.iload_n 1, 1) := by decide +kernel
theorem dX6_image_1 : decode cX6_image 1 = .ok (.iconst 0, 1) := by decide +kernel
theorem dX6_image_2 : decode cX6_image 2 = .ok (.iconst 1, 1) := by decide +kernel
theorem dX6_image_3 : decode cX6_image 3 = .ok (.invokestatic 42, 3) := by decide +kernel
theorem dX6_image_6 : decode cX6_image 6 = .ok (.ifCond .ne 6, 3) := by decide +kernel
theorem dX6_image_9 : decode cX6_image 9 = .ok (.bipush (-2), 2) := by decide +kernel
theorem dX6_image_11 : decode cX6_image 11 = .ok (.ireturn, 1) := by decide +kernel
theorem dX6_image_12 : decode cX6_image 12 = .ok (.aload_n 0, 1) := by decide +kernel
theorem dX6_image_13 : decode cX6_image 13 = .ok (.getfield 16, 3) := by decide +kernel
theorem dX6_image_16 : decode cX6_image 16 = .ok (.iload_n 1, 1) := by decide +kernel
theorem dX6_image_17 : decode cX6_image 17 = .ok (.aaload, 1) := by decide +kernel
theorem dX6_image_18 : decode cX6_image 18 = .ok (.aload_n 0, 1) := by decide +kernel
theorem dX6_image_19 : decode cX6_image 19 = .ok (.getfield 10, 3) := by decide +kernel
theorem dX6_image_22 : decode cX6_image 22 = .ok (.invokevirtual 213, 3) := by decide +kernel
theorem dX6_image_25 : decode cX6_image 25 = .ok (.aload_n 0, 1) := by decide +kernel
theorem dX6_image_26 : decode cX6_image 26 = .ok (.getfield 20, 3) := by decide +kernel
theorem dX6_image_29 : decode cX6_image 29 = .ok (.iload_n 1, 1) := by decide +kernel
theorem dX6_image_30 : decode cX6_image 30 = .ok (.iconst 1, 1) := by decide +kernel
theorem dX6_image_31 : decode cX6_image 31 = .ok (.bastore, 1) := by decide +kernel
theorem dX6_image_32 : decode cX6_image 32 = .ok (.iconst 1, 1) := by decide +kernel
theorem dX6_image_33 : decode cX6_image 33 = .ok (.ireturn, 1) := by decide +kernel
theorem dX6_restore_0 : decode cX6_restore 0 = .ok (.iload_n 1, 1) := by decide +kernel
theorem dX6_restore_1 : decode cX6_restore 1 = .ok (.iconst 0, 1) := by decide +kernel
theorem dX6_restore_2 : decode cX6_restore 2 = .ok (.iconst 1, 1) := by decide +kernel
theorem dX6_restore_3 : decode cX6_restore 3 = .ok (.invokestatic 42, 3) := by decide +kernel
theorem dX6_restore_6 : decode cX6_restore 6 = .ok (.ifCond .ne 6, 3) := by decide +kernel
theorem dX6_restore_9 : decode cX6_restore 9 = .ok (.bipush (-2), 2) := by decide +kernel
theorem dX6_restore_11 : decode cX6_restore 11 = .ok (.ireturn, 1) := by decide +kernel
theorem dX6_restore_12 : decode cX6_restore 12 = .ok (.aload_n 0, 1) := by decide +kernel
theorem dX6_restore_13 : decode cX6_restore 13 = .ok (.getfield 20, 3) := by decide +kernel
theorem dX6_restore_16 : decode cX6_restore 16 = .ok (.iload_n 1, 1) := by decide +kernel
theorem dX6_restore_17 : decode cX6_restore 17 = .ok (.baload, 1) := by decide +kernel
theorem dX6_restore_18 : decode cX6_restore 18 = .ok (.ifCond .ne 6, 3) := by decide +kernel
theorem dX6_restore_21 : decode cX6_restore 21 = .ok (.bipush (-3), 2) := by decide +kernel
theorem dX6_restore_23 : decode cX6_restore 23 = .ok (.ireturn, 1) := by decide +kernel
theorem dX6_restore_24 : decode cX6_restore 24 = .ok (.aload_n 0, 1) := by decide +kernel
theorem dX6_restore_25 : decode cX6_restore 25 = .ok (.getfield 10, 3) := by decide +kernel
theorem dX6_restore_28 : decode cX6_restore 28 = .ok (.aload_n 0, 1) := by decide +kernel
theorem dX6_restore_29 : decode cX6_restore 29 = .ok (.getfield 16, 3) := by decide +kernel
theorem dX6_restore_32 : decode cX6_restore 32 = .ok (.iload_n 1, 1) := by decide +kernel
theorem dX6_restore_33 : decode cX6_restore 33 = .ok (.aaload, 1) := by decide +kernel
theorem dX6_restore_34 : decode cX6_restore 34 = .ok (.invokevirtual 213, 3) := by decide +kernel
theorem dX6_restore_37 : decode cX6_restore 37 = .ok (.aload_n 0, 1) := by decide +kernel
theorem dX6_restore_38 : decode cX6_restore 38 = .ok (.getfield 27, 3) := by decide +kernel
theorem dX6_restore_41 : decode cX6_restore 41 = .ok (.invokevirtual 60, 3) := by decide +kernel
theorem dX6_restore_44 : decode cX6_restore 44 = .ok (.iconst 1, 1) := by decide +kernel
theorem dX6_restore_45 : decode cX6_restore 45 = .ok (.ireturn, 1) := by decide +kernel
theorem dX6_within_0 : decode cX6_within 0 = .ok (.iload_n 0, 1) := by decide +kernel
theorem dX6_within_1 : decode cX6_within 1 = .ok (.iload_n 1, 1) := by decide +kernel
theorem dX6_within_2 : decode cX6_within 2 = .ok (.if_icmp .lt 12, 3) := by decide +kernel
theorem dX6_within_5 : decode cX6_within 5 = .ok (.iload_n 0, 1) := by decide +kernel
theorem dX6_within_6 : decode cX6_within 6 = .ok (.iload_n 2, 1) := by decide +kernel
theorem dX6_within_7 : decode cX6_within 7 = .ok (.if_icmp .gt 7, 3) := by decide +kernel
theorem dX6_within_10 : decode cX6_within 10 = .ok (.iconst 1, 1) := by decide +kernel
theorem dX6_within_11 : decode cX6_within 11 = .ok (.goto 4, 3) := by decide +kernel
theorem dX6_within_14 : decode cX6_within 14 = .ok (.iconst 0, 1) := by decide +kernel
theorem dX6_within_15 : decode cX6_within 15 = .ok (.ireturn, 1) := by decide +kernel
theorem dX6_isDisk_0 : decode cX6_isDisk 0 = .ok (.iload_n 0, 1) := by decide +kernel
theorem dX6_isDisk_1 : decode cX6_isDisk 1 = .ok (.iconst 0, 1) := by decide +kernel
theorem dX6_isDisk_2 : decode cX6_isDisk 2 = .ok (.iconst 3, 1) := by decide +kernel
theorem dX6_isDisk_3 : decode cX6_isDisk 3 = .ok (.invokestatic 42, 3) := by decide +kernel
theorem dX6_isDisk_6 : decode cX6_isDisk 6 = .ok (.ireturn, 1) := by decide +kernel
theorem dX6_isPolicy_0 : decode cX6_isPolicy 0 = .ok (.iload_n 0, 1) := by decide +kernel
theorem dX6_isPolicy_1 : decode cX6_isPolicy 1 = .ok (.lookupswitch 43 #[(1, 27), (3, 36)], 27) := by decide +kernel
theorem dX6_isPolicy_28 : decode cX6_isPolicy 28 = .ok (.iload_n 1, 1) := by decide +kernel
theorem dX6_isPolicy_29 : decode cX6_isPolicy 29 = .ok (.iconst 1, 1) := by decide +kernel
end
section
theorem dX6_isPolicy_30 : decode cX6_isPolicy 30 = .ok (.sipush 500, 3) := by decide +kernel
theorem dX6_isPolicy_33 : decode cX6_isPolicy 33 = .ok (.invokestatic 42, 3) := by decide +kernel
theorem dX6_isPolicy_36 : decode cX6_isPolicy 36 = .ok (.ireturn, 1) := by decide +kernel
theorem dX6_isPolicy_37 : decode cX6_isPolicy 37 = .ok (.iload_n 1, 1) := by decide +kernel
theorem dX6_isPolicy_38 : decode cX6_isPolicy 38 = .ok (.iconst 1, 1) := by decide +kernel
theorem dX6_isPolicy_39 : decode cX6_isPolicy 39 = .ok (.iconst 4, 1) := by decide +kernel
theorem dX6_isPolicy_40 : decode cX6_isPolicy 40 = .ok (.invokestatic 42, 3) := by decide +kernel
theorem dX6_isPolicy_43 : decode cX6_isPolicy 43 = .ok (.ireturn, 1) := by decide +kernel
theorem dX6_isPolicy_44 : decode cX6_isPolicy 44 = .ok (.iload_n 0, 1) := by decide +kernel
theorem dX6_isPolicy_45 : decode cX6_isPolicy 45 = .ok (.iconst 0, 1) := by decide +kernel
theorem dX6_isPolicy_46 : decode cX6_isPolicy 46 = .ok (.iconst 3, 1) := by decide +kernel
theorem dX6_isPolicy_47 : decode cX6_isPolicy 47 = .ok (.invokestatic 42, 3) := by decide +kernel
theorem dX6_isPolicy_50 : decode cX6_isPolicy 50 = .ok (.ireturn, 1) := by decide +kernel
theorem dX6_wholeRun_0 : decode cX6_wholeRun 0 = .ok (.aload_n 0, 1) := by decide +kernel
theorem dX6_wholeRun_1 : decode cX6_wholeRun 1 = .ok (.getfield 27, 3) := by decide +kernel
theorem dX6_wholeRun_4 : decode cX6_wholeRun 4 = .ok (.aload_n 0, 1) := by decide +kernel
theorem dX6_wholeRun_5 : decode cX6_wholeRun 5 = .ok (.getfield 10, 3) := by decide +kernel
theorem dX6_wholeRun_8 : decode cX6_wholeRun 8 = .ok (.aload_n 0, 1) := by decide +kernel
theorem dX6_wholeRun_9 : decode cX6_wholeRun 9 = .ok (.getfield 10, 3) := by decide +kernel
theorem dX6_wholeRun_12 : decode cX6_wholeRun 12 = .ok (.getfield 111, 3) := by decide +kernel
theorem dX6_wholeRun_15 : decode cX6_wholeRun 15 = .ok (.invokevirtual 158, 3) := by decide +kernel
theorem dX6_wholeRun_18 : decode cX6_wholeRun 18 = .ok (.aload_n 0, 1) := by decide +kernel
theorem dX6_wholeRun_19 : decode cX6_wholeRun 19 = .ok (.getfield 27, 3) := by decide +kernel
theorem dX6_wholeRun_22 : decode cX6_wholeRun 22 = .ok (.areturn, 1) := by decide +kernel
theorem dX6_partOfFraction_0 : decode cX6_partOfFraction 0 = .ok (.iconst 1, 1) := by decide +kernel
theorem dX6_partOfFraction_1 : decode cX6_partOfFraction 1 = .ok (.iload_n 0, 1) := by decide +kernel
theorem dX6_partOfFraction_2 : decode cX6_partOfFraction 2 = .ok (.iload_n 1, 1) := by decide +kernel
theorem dX6_partOfFraction_3 : decode cX6_partOfFraction 3 = .ok (.invokestatic 217, 3) := by decide +kernel
theorem dX6_partOfFraction_6 : decode cX6_partOfFraction 6 = .ok (.invokestatic 220, 3) := by decide +kernel
theorem dX6_partOfFraction_9 : decode cX6_partOfFraction 9 = .ok (.istore_n 3, 1) := by decide +kernel
theorem dX6_partOfFraction_10 : decode cX6_partOfFraction 10 = .ok (.iload_n 2, 1) := by decide +kernel
theorem dX6_partOfFraction_11 : decode cX6_partOfFraction 11 = .ok (.ifCond .ne 7, 3) := by decide +kernel
theorem dX6_partOfFraction_14 : decode cX6_partOfFraction 14 = .ok (.iload_n 0, 1) := by decide +kernel
theorem dX6_partOfFraction_15 : decode cX6_partOfFraction 15 = .ok (.goto 4, 3) := by decide +kernel
theorem dX6_partOfFraction_18 : decode cX6_partOfFraction 18 = .ok (.iload_n 1, 1) := by decide +kernel
theorem dX6_partOfFraction_19 : decode cX6_partOfFraction 19 = .ok (.iload_n 3, 1) := by decide +kernel
theorem dX6_partOfFraction_20 : decode cX6_partOfFraction 20 = .ok (.idiv, 1) := by decide +kernel
theorem dX6_partOfFraction_21 : decode cX6_partOfFraction 21 = .ok (.ireturn, 1) := by decide +kernel
theorem dX6_commonDivisor_0 : decode cX6_commonDivisor 0 = .ok (.iload_n 0, 1) := by decide +kernel
theorem dX6_commonDivisor_1 : decode cX6_commonDivisor 1 = .ok (.istore_n 2, 1) := by decide +kernel
theorem dX6_commonDivisor_2 : decode cX6_commonDivisor 2 = .ok (.iload_n 1, 1) := by decide +kernel
theorem dX6_commonDivisor_3 : decode cX6_commonDivisor 3 = .ok (.istore_n 3, 1) := by decide +kernel
theorem dX6_commonDivisor_4 : decode cX6_commonDivisor 4 = .ok (.iconst 0, 1) := by decide +kernel
theorem dX6_commonDivisor_5 : decode cX6_commonDivisor 5 = .ok (.istore 4, 2) := by decide +kernel
theorem dX6_commonDivisor_7 : decode cX6_commonDivisor 7 = .ok (.iload 4, 2) := by decide +kernel
theorem dX6_commonDivisor_9 : decode cX6_commonDivisor 9 = .ok (.bipush 50, 2) := by decide +kernel
theorem dX6_commonDivisor_11 : decode cX6_commonDivisor 11 = .ok (.if_icmp .ge 23, 3) := by decide +kernel
theorem dX6_commonDivisor_14 : decode cX6_commonDivisor 14 = .ok (.iload_n 3, 1) := by decide +kernel
theorem dX6_commonDivisor_15 : decode cX6_commonDivisor 15 = .ok (.ifCond .eq 19, 3) := by decide +kernel
theorem dX6_commonDivisor_18 : decode cX6_commonDivisor 18 = .ok (.iload_n 2, 1) := by decide +kernel
theorem dX6_commonDivisor_19 : decode cX6_commonDivisor 19 = .ok (.iload_n 3, 1) := by decide +kernel
theorem dX6_commonDivisor_20 : decode cX6_commonDivisor 20 = .ok (.irem, 1) := by decide +kernel
theorem dX6_commonDivisor_21 : decode cX6_commonDivisor 21 = .ok (.istore 5, 2) := by decide +kernel
theorem dX6_commonDivisor_23 : decode cX6_commonDivisor 23 = .ok (.iload_n 3, 1) := by decide +kernel
theorem dX6_commonDivisor_24 : decode cX6_commonDivisor 24 = .ok (.istore_n 2, 1) := by decide +kernel
theorem dX6_commonDivisor_25 : decode cX6_commonDivisor 25 = .ok (.iload 5, 2) := by decide +kernel
theorem dX6_commonDivisor_27 : decode cX6_commonDivisor 27 = .ok (.istore_n 3, 1) := by decide +kernel
theorem dX6_commonDivisor_28 : decode cX6_commonDivisor 28 = .ok (.iinc 4 1, 3) := by decide +kernel
theorem dX6_commonDivisor_31 : decode cX6_commonDivisor 31 = .ok (.goto (-24), 3) := by decide +kernel
theorem dX6_commonDivisor_34 : decode cX6_commonDivisor 34 = .ok (.iload_n 2, 1) := by decide +kernel
theorem dX6_commonDivisor_35 : decode cX6_commonDivisor 35 = .ok (.ireturn, 1) := by decide +kernel
theorem dX7_init_0 : decode cX7_init 0 = .ok (.aload_n 0, 1) := by decide +kernel
theorem dX7_init_1 : decode cX7_init 1 = .ok (.invokespecial 1, 3) := by decide +kernel
theorem dX7_init_4 : decode cX7_init 4 = .ok (.aload_n 0, 1) := by decide +kernel
theorem dX7_init_5 : decode cX7_init 5 = .ok (.iconst 4, 1) := by decide +kernel
theorem dX7_init_6 : decode cX7_init 6 = .ok (.newarray .int, 2) := by decide +kernel
theorem dX7_init_8 : decode cX7_init 8 = .ok (.putfield 7, 3) := by decide +kernel
theorem dX7_init_11 : decode cX7_init 11 = .ok (.aload_n 0, 1) := by decide +kernel
theorem dX7_init_12 : decode cX7_init 12 = .ok (.bipush 16, 2) := by decide +kernel
theorem dX7_init_14 : decode cX7_init 14 = .ok (.newarray .int, 2) := by decide +kernel
theorem dX7_init_16 : decode cX7_init 16 = .ok (.putfield 13, 3) := by decide +kernel
theorem dX7_init_19 : decode cX7_init 19 = .ok (.aload_n 0, 1) := by decide +kernel
theorem dX7_init_20 : decode cX7_init 20 = .ok (.bipush 16, 2) := by decide +kernel
theorem dX7_init_22 : decode cX7_init 22 = .ok (.newarray .int, 2) := by decide +kernel
theorem dX7_init_24 : decode cX7_init 24 = .ok (.putfield 16, 3) := by decide +kernel
theorem dX7_init_27 : decode cX7_init 27 = .ok (.aload_n 0, 1) := by decide +kernel
theorem dX7_init_28 : decode cX7_init 28 = .ok (.iconst 4, 1) := by decide +kernel
theorem dX7_init_29 : decode cX7_init 29 = .ok (.newarray .int, 2) := by decide +kernel
theorem dX7_init_31 : decode cX7_init 31 = .ok (.putfield 19, 3) := by decide +kernel
theorem dX7_init_34 : decode cX7_init 34 = .ok (.aload_n 0, 1) := by decide +kernel
theorem dX7_init_35 : decode cX7_init 35 = .ok (.iconst 4, 1) := by decide +kernel
theorem dX7_init_36 : decode cX7_init 36 = .ok (.newarray .int, 2) := by decide +kernel
theorem dX7_init_38 : decode cX7_init 38 = .ok (.putfield 22, 3) := by decide +kernel
theorem dX7_init_41 : decode cX7_init 41 = .ok (.aload_n 0, 1) := by decide +kernel
theorem dX7_init_42 : decode cX7_init 42 = .ok (.bipush 40, 2) := by decide +kernel
theorem dX7_init_44 : decode cX7_init 44 = .ok (.newarray .int, 2) := by decide +kernel
theorem dX7_init_46 : decode cX7_init 46 = .ok (.putfield 25, 3) := by decide +kernel
theorem dX7_init_49 : decode cX7_init 49 = .ok (.aload_n 0, 1) := by decide +kernel
theorem dX7_init_50 : decode cX7_init 50 = .ok (.bipush 40, 2) := by decide +kernel
theorem dX7_init_52 : decode cX7_init 52 = .ok (.newarray .int, 2) := by decide +kernel
theorem dX7_init_54 : decode cX7_init 54 = .ok (.putfield 28, 3) := by decide +kernel
theorem dX7_init_57 : decode cX7_init 57 = .ok (.aload_n 0, 1) := by decide +kernel
theorem dX7_init_58 : decode cX7_init 58 = .ok (.bipush 40, 2) := by decide +kernel
theorem dX7_init_60 : decode cX7_init 60 = .ok (.newarray .int, 2) := by decide +kernel
theorem dX7_init_62 : decode cX7_init 62 = .ok (.putfield 31, 3) := by decide +kernel
theorem dX7_init_65 : decode cX7_init 65 = .ok (.aload_n 0, 1) := by decide +kernel
theorem dX7_init_66 : decode cX7_init 66 = .ok (.bipush 100, 2) := by decide +kernel
theorem dX7_init_68 : decode cX7_init 68 = .ok (.putfield 34, 3) := by decide +kernel
theorem dX7_init_71 : decode cX7_init 71 = .ok (.aload_n 0, 1) := by decide +kernel
theorem dX7_init_72 : decode cX7_init 72 = .ok (.iconst 4, 1) := by decide +kernel
theorem dX7_init_73 : decode cX7_init 73 = .ok (.newarray .int, 2) := by decide +kernel
theorem dX7_init_75 : decode cX7_init 75 = .ok (.putfield 38, 3) := by decide +kernel
theorem dX7_init_78 : decode cX7_init 78 = .ok (.aload_n 0, 1) := by decide +kernel
theorem dX7_init_79 : decode cX7_init 79 = .ok (.iconst 4, 1) := by decide +kernel
theorem dX7_init_80 : decode cX7_init 80 = .ok (.newarray .int, 2) := by decide +kernel
theorem dX7_init_82 : decode cX7_init 82 = .ok (.putfield 41, 3) := by decide +kernel
theorem dX7_init_85 : decode cX7_init 85 = .ok (.aload_n 0, 1) := by decide +kernel
theorem dX7_init_86 : decode cX7_init 86 = .ok (.iconst 4, 1) := by decide +kernel
theorem dX7_init_87 : decode cX7_init 87 = .ok (.newarray .int, 2) := by decide +kernel
theorem dX7_init_89 : decode cX7_init 89 = .ok (.putfield 44, 3) := by decide +kernel
theorem dX7_init_92 : decode cX7_init 92 = .ok (.aload_n 0, 1) := by decide +kernel
theorem dX7_init_93 : decode cX7_init 93 = .ok (.iconst 4, 1) := by decide +kernel
theorem dX7_init_94 : decode cX7_init 94 = .ok (.newarray .int, 2) := by decide +kernel
theorem dX7_init_96 : decode cX7_init 96 = .ok (.putfield 47, 3) := by decide +kernel
theorem dX7_init_99 : decode cX7_init 99 = .ok (.aload_n 0, 1) := by decide +kernel
theorem dX7_init_100 : decode cX7_init 100 = .ok (.iconst 4, 1) := by decide +kernel
theorem dX7_init_101 : decode cX7_init 101 = .ok (.newarray .int, 2) := by decide +kernel
theorem dX7_init_103 : decode cX7_init 103 = .ok (.putfield 50, 3) := by decide +kernel
theorem dX7_init_106 : decode cX7_init 106 = .ok (.aload_n 0, 1) := by decide +kernel
theorem dX7_init_107 : decode cX7_init 107 = .ok (.iconst 4, 1) := by decide +kernel
theorem dX7_init_108 : decode cX7_init 108 = .ok (.newarray .int, 2) := by decide +kernel
theorem dX7_init_110 : decode cX7_init 110 = .ok (.putfield 53, 3) := by decide +kernel
theorem dX7_init_113 : decode cX7_init 113 = .ok (.aload_n 0, 1) := by decide +kernel
theorem dX7_init_114 : decode cX7_init 114 = .ok (.iconst 4, 1) := by decide +kernel
theorem dX7_init_115 : decode cX7_init 115 = .ok (.newarray .int, 2) := by decide +kernel
theorem dX7_init_117 : decode cX7_init 117 = .ok (.putfield 56, 3) := by decide +kernel
theorem dX7_init_120 : decode cX7_init 120 = .ok (.aload_n 0, 1) := by decide +kernel
theorem dX7_init_121 : decode cX7_init 121 = .ok (.iconst 4, 1) := by decide +kernel
theorem dX7_init_122 : decode cX7_init 122 = .ok (.newarray .int, 2) := by decide +kernel
theorem dX7_init_124 : decode cX7_init 124 = .ok (.putfield 59, 3) := by decide +kernel
theorem dX7_init_127 : decode cX7_init 127 = .ok (.aload_n 0, 1) := by decide +kernel
theorem dX7_init_128 : decode cX7_init 128 = .ok (.sipush 160, 3) := by decide +kernel
theorem dX7_init_131 : decode cX7_init 131 = .ok (.newarray .int, 2) := by decide +kernel
theorem dX7_init_133 : decode cX7_init 133 = .ok (.putfield 62, 3) := by decide +kernel
theorem dX7_init_136 : decode cX7_init 136 = .ok (.aload_n 0, 1) := by decide +kernel
theorem dX7_init_137 : decode cX7_init 137 = .ok (.bipush 40, 2) := by decide +kernel
theorem dX7_init_139 : decode cX7_init 139 = .ok (.newarray .int, 2) := by decide +kernel
theorem dX7_init_141 : decode cX7_init 141 = .ok (.putfield 65, 3) := by decide +kernel
theorem dX7_init_144 : decode cX7_init 144 = .ok (.aload_n 0, 1) := by decide +kernel
theorem dX7_init_145 : decode cX7_init 145 = .ok (.bipush 8, 2) := by decide +kernel
theorem dX7_init_147 : decode cX7_init 147 = .ok (.newarray .int, 2) := by decide +kernel
theorem dX7_init_149 : decode cX7_init 149 = .ok (.putfield 68, 3) := by decide +kernel
theorem dX7_init_152 : decode cX7_init 152 = .ok (.aload_n 0, 1) := by decide +kernel
theorem dX7_init_153 : decode cX7_init 153 = .ok (.bipush 12, 2) := by decide +kernel
theorem dX7_init_155 : decode cX7_init 155 = .ok (.newarray .int, 2) := by decide +kernel
theorem dX7_init_157 : decode cX7_init 157 = .ok (.putfield 71, 3) := by decide +kernel
theorem dX7_init_160 : decode cX7_init 160 = .ok (.aload_n 0, 1) := by decide +kernel
theorem dX7_init_161 : decode cX7_init 161 = .ok (.bipush 41, 2) := by decide +kernel
theorem dX7_init_163 : decode cX7_init 163 = .ok (.newarray .int, 2) := by decide +kernel
theorem dX7_init_165 : decode cX7_init 165 = .ok (.putfield 74, 3) := by decide +kernel
theorem dX7_init_168 : decode cX7_init 168 = .ok (.aload_n 0, 1) := by decide +kernel
theorem dX7_init_169 : decode cX7_init 169 = .ok (.bipush 41, 2) := by decide +kernel
theorem dX7_init_171 : decode cX7_init 171 = .ok (.newarray .int, 2) := by decide +kernel
theorem dX7_init_173 : decode cX7_init 173 = .ok (.putfield 77, 3) := by decide +kernel
theorem dX7_init_176 : decode cX7_init 176 = .ok (.aload_n 0, 1) := by decide +kernel
theorem dX7_init_177 : decode cX7_init 177 = .ok (.bipush 41, 2) := by decide +kernel
theorem dX7_init_179 : decode cX7_init 179 = .ok (.newarray .boolean, 2) := by decide +kernel
theorem dX7_init_181 : decode cX7_init 181 = .ok (.putfield 80, 3) := by decide +kernel
theorem dX7_init_184 : decode cX7_init 184 = .ok (.aload_n 0, 1) := by decide +kernel
theorem dX7_init_185 : decode cX7_init 185 = .ok (.sipush 334, 3) := by decide +kernel
theorem dX7_init_188 : decode cX7_init 188 = .ok (.newarray .int, 2) := by decide +kernel
theorem dX7_init_190 : decode cX7_init 190 = .ok (.putfield 84, 3) := by decide +kernel
theorem dX7_init_193 : decode cX7_init 193 = .ok (.aload_n 0, 1) := by decide +kernel
theorem dX7_init_194 : decode cX7_init 194 = .ok (.iconst 2, 1) := by decide +kernel
theorem dX7_init_195 : decode cX7_init 195 = .ok (.newarray .boolean, 2) := by decide +kernel
theorem dX7_init_197 : decode cX7_init 197 = .ok (.putfield 87, 3) := by decide +kernel
theorem dX7_init_200 : decode cX7_init 200 = .ok (.iconst 0, 1) := by decide +kernel
theorem dX7_init_201 : decode cX7_init 201 = .ok (.istore_n 1, 1) := by decide +kernel
theorem dX7_init_202 : decode cX7_init 202 = .ok (.iload_n 1, 1) := by decide +kernel
theorem dX7_init_203 : decode cX7_init 203 = .ok (.iconst 4, 1) := by decide +kernel
theorem dX7_init_204 : decode cX7_init 204 = .ok (.if_icmp .ge 26, 3) := by decide +kernel
theorem dX7_init_207 : decode cX7_init 207 = .ok (.aload_n 0, 1) := by decide +kernel
theorem dX7_init_208 : decode cX7_init 208 = .ok (.getfield 13, 3) := by decide +kernel
theorem dX7_init_211 : decode cX7_init 211 = .ok (.iconst 4, 1) := by decide +kernel
theorem dX7_init_212 : decode cX7_init 212 = .ok (.iload_n 1, 1) := by decide +kernel
theorem dX7_init_213 : decode cX7_init 213 = .ok (.imul, 1) := by decide +kernel
theorem dX7_init_214 : decode cX7_init 214 = .ok (.bipush 10, 2) := by decide +kernel
theorem dX7_init_216 : decode cX7_init 216 = .ok (.iastore, 1) := by decide +kernel
theorem dX7_init_217 : decode cX7_init 217 = .ok (.aload_n 0, 1) := by decide +kernel
theorem dX7_init_218 : decode cX7_init 218 = .ok (.getfield 22, 3) := by decide +kernel
theorem dX7_init_221 : decode cX7_init 221 = .ok (.iload_n 1, 1) := by decide +kernel
theorem dX7_init_222 : decode cX7_init 222 = .ok (.iconst 1, 1) := by decide +kernel
theorem dX7_init_223 : decode cX7_init 223 = .ok (.iastore, 1) := by decide +kernel
theorem dX7_init_224 : decode cX7_init 224 = .ok (.iinc 1 1, 3) := by decide +kernel
theorem dX7_init_227 : decode cX7_init 227 = .ok (.goto (-25), 3) := by decide +kernel
theorem dX7_init_230 : decode cX7_init 230 = .ok (.return_, 1) := by decide +kernel
theorem dX7_in_0 : decode cX7_in 0 = .ok (.iload_n 0, 1) := by decide +kernel
theorem dX7_in_1 : decode cX7_in 1 = .ok (.iload_n 1, 1) := by decide +kernel
theorem dX7_in_2 : decode cX7_in 2 = .ok (.if_icmp .lt 12, 3) := by decide +kernel
theorem dX7_in_5 : decode cX7_in 5 = .ok (.iload_n 0, 1) := by decide +kernel
theorem dX7_in_6 : decode cX7_in 6 = .ok (.iload_n 2, 1) := by decide +kernel
theorem dX7_in_7 : decode cX7_in 7 = .ok (.if_icmp .gt 7, 3) := by decide +kernel
theorem dX7_in_10 : decode cX7_in 10 = .ok (.iconst 1, 1) := by decide +kernel
theorem dX7_in_11 : decode cX7_in 11 = .ok (.goto 4, 3) := by decide +kernel
theorem dX7_in_14 : decode cX7_in 14 = .ok (.iconst 0, 1) := by decide +kernel
theorem dX7_in_15 : decode cX7_in 15 = .ok (.ireturn, 1) := by decide +kernel
theorem dX7_isDisk_0 : decode cX7_isDisk 0 = .ok (.iload_n 0, 1) := by decide +kernel
theorem dX7_isDisk_1 : decode cX7_isDisk 1 = .ok (.iconst 0, 1) := by decide +kernel
theorem dX7_isDisk_2 : decode cX7_isDisk 2 = .ok (.iconst 3, 1) := by decide +kernel
theorem dX7_isDisk_3 : decode cX7_isDisk 3 = .ok (.invokestatic 90, 3) := by decide +kernel
theorem dX7_isDisk_6 : decode cX7_isDisk 6 = .ok (.ireturn, 1) := by decide +kernel
theorem dX7_isRequest_0 : decode cX7_isRequest 0 = .ok (.iload_n 1, 1) := by decide +kernel
theorem dX7_isRequest_1 : decode cX7_isRequest 1 = .ok (.iconst 0, 1) := by decide +kernel
theorem dX7_isRequest_2 : decode cX7_isRequest 2 = .ok (.aload_n 0, 1) := by decide +kernel
theorem dX7_isRequest_3 : decode cX7_isRequest 3 = .ok (.getfield 94, 3) := by decide +kernel
theorem dX7_isRequest_6 : decode cX7_isRequest 6 = .ok (.iconst 1, 1) := by decide +kernel
theorem dX7_isRequest_7 : decode cX7_isRequest 7 = .ok (.isub, 1) := by decide +kernel
theorem dX7_isRequest_8 : decode cX7_isRequest 8 = .ok (.invokestatic 90, 3) := by decide +kernel
theorem dX7_isRequest_11 : decode cX7_isRequest 11 = .ok (.ireturn, 1) := by decide +kernel
theorem dX7_power_0 : decode cX7_power 0 = .ok (.iload_n 1, 1) := by decide +kernel
theorem dX7_power_1 : decode cX7_power 1 = .ok (.invokestatic 97, 3) := by decide +kernel
theorem dX7_power_4 : decode cX7_power 4 = .ok (.ifCond .ne 5, 3) := by decide +kernel
theorem dX7_power_7 : decode cX7_power 7 = .ok (.iconst (-1), 1) := by decide +kernel
theorem dX7_power_8 : decode cX7_power 8 = .ok (.ireturn, 1) := by decide +kernel
theorem dX7_power_9 : decode cX7_power 9 = .ok (.iload_n 2, 1) := by decide +kernel
theorem dX7_power_10 : decode cX7_power 10 = .ok (.iconst 1, 1) := by decide +kernel
theorem dX7_power_11 : decode cX7_power 11 = .ok (.bipush 100, 2) := by decide +kernel
theorem dX7_power_13 : decode cX7_power 13 = .ok (.invokestatic 90, 3) := by decide +kernel
theorem dX7_power_16 : decode cX7_power 16 = .ok (.ifCond .ne 6, 3) := by decide +kernel
theorem dX7_power_19 : decode cX7_power 19 = .ok (.bipush (-2), 2) := by decide +kernel
theorem dX7_power_21 : decode cX7_power 21 = .ok (.ireturn, 1) := by decide +kernel
theorem dX7_power_22 : decode cX7_power 22 = .ok (.aload_n 0, 1) := by decide +kernel
theorem dX7_power_23 : decode cX7_power 23 = .ok (.getfield 13, 3) := by decide +kernel
theorem dX7_power_26 : decode cX7_power 26 = .ok (.iconst 4, 1) := by decide +kernel
theorem dX7_power_27 : decode cX7_power 27 = .ok (.iload_n 1, 1) := by decide +kernel
theorem dX7_power_28 : decode cX7_power 28 = .ok (.imul, 1) := by decide +kernel
theorem dX7_power_29 : decode cX7_power 29 = .ok (.iaload, 1) := by decide +kernel
theorem dX7_power_30 : decode cX7_power 30 = .ok (.istore_n 3, 1) := by decide +kernel
theorem dX7_power_31 : decode cX7_power 31 = .ok (.aload_n 0, 1) := by decide +kernel
theorem dX7_power_32 : decode cX7_power 32 = .ok (.getfield 13, 3) := by decide +kernel
theorem dX7_power_35 : decode cX7_power 35 = .ok (.iconst 4, 1) := by decide +kernel
theorem dX7_power_36 : decode cX7_power 36 = .ok (.iload_n 1, 1) := by decide +kernel
theorem dX7_power_37 : decode cX7_power 37 = .ok (.imul, 1) := by decide +kernel
theorem dX7_power_38 : decode cX7_power 38 = .ok (.iload_n 2, 1) := by decide +kernel
theorem dX7_power_39 : decode cX7_power 39 = .ok (.iastore, 1) := by decide +kernel
theorem dX7_power_40 : decode cX7_power 40 = .ok (.aload_n 0, 1) := by decide +kernel
theorem dX7_power_41 : decode cX7_power 41 = .ok (.getfield 7, 3) := by decide +kernel
theorem dX7_power_44 : decode cX7_power 44 = .ok (.iload_n 1, 1) := by decide +kernel
theorem dX7_power_45 : decode cX7_power 45 = .ok (.iconst 0, 1) := by decide +kernel
theorem dX7_power_46 : decode cX7_power 46 = .ok (.iastore, 1) := by decide +kernel
theorem dX7_power_47 : decode cX7_power 47 = .ok (.iload_n 3, 1) := by decide +kernel
theorem dX7_power_48 : decode cX7_power 48 = .ok (.ireturn, 1) := by decide +kernel
theorem dX7_deeper_0 : decode cX7_deeper 0 = .ok (.iload_n 1, 1) := by decide +kernel
theorem dX7_deeper_1 : decode cX7_deeper 1 = .ok (.invokestatic 97, 3) := by decide +kernel
theorem dX7_deeper_4 : decode cX7_deeper 4 = .ok (.ifCond .ne 5, 3) := by decide +kernel
theorem dX7_deeper_7 : decode cX7_deeper 7 = .ok (.iconst (-1), 1) := by decide +kernel
theorem dX7_deeper_8 : decode cX7_deeper 8 = .ok (.ireturn, 1) := by decide +kernel
theorem dX7_deeper_9 : decode cX7_deeper 9 = .ok (.iload_n 2, 1) := by decide +kernel
theorem dX7_deeper_10 : decode cX7_deeper 10 = .ok (.iconst 0, 1) := by decide +kernel
theorem dX7_deeper_11 : decode cX7_deeper 11 = .ok (.bipush 99, 2) := by decide +kernel
theorem dX7_deeper_13 : decode cX7_deeper 13 = .ok (.invokestatic 90, 3) := by decide +kernel
theorem dX7_deeper_16 : decode cX7_deeper 16 = .ok (.ifCond .eq 14, 3) := by decide +kernel
theorem dX7_deeper_19 : decode cX7_deeper 19 = .ok (.iload_n 3, 1) := by decide +kernel
theorem dX7_deeper_20 : decode cX7_deeper 20 = .ok (.iconst 1, 1) := by decide +kernel
theorem dX7_deeper_21 : decode cX7_deeper 21 = .ok (.sipush 999, 3) := by decide +kernel
theorem dX7_deeper_24 : decode cX7_deeper 24 = .ok (.invokestatic 90, 3) := by decide +kernel
theorem dX7_deeper_27 : decode cX7_deeper 27 = .ok (.ifCond .ne 6, 3) := by decide +kernel
theorem dX7_deeper_30 : decode cX7_deeper 30 = .ok (.bipush (-2), 2) := by decide +kernel
theorem dX7_deeper_32 : decode cX7_deeper 32 = .ok (.ireturn, 1) := by decide +kernel
theorem dX7_deeper_33 : decode cX7_deeper 33 = .ok (.iconst 4, 1) := by decide +kernel
theorem dX7_deeper_34 : decode cX7_deeper 34 = .ok (.iload_n 1, 1) := by decide +kernel
theorem dX7_deeper_35 : decode cX7_deeper 35 = .ok (.imul, 1) := by decide +kernel
theorem dX7_deeper_36 : decode cX7_deeper 36 = .ok (.aload_n 0, 1) := by decide +kernel
theorem dX7_deeper_37 : decode cX7_deeper 37 = .ok (.getfield 7, 3) := by decide +kernel
theorem dX7_deeper_40 : decode cX7_deeper 40 = .ok (.iload_n 1, 1) := by decide +kernel
theorem dX7_deeper_41 : decode cX7_deeper 41 = .ok (.iaload, 1) := by decide +kernel
theorem dX7_deeper_42 : decode cX7_deeper 42 = .ok (.iadd, 1) := by decide +kernel
theorem dX7_deeper_43 : decode cX7_deeper 43 = .ok (.istore 4, 2) := by decide +kernel
theorem dX7_deeper_45 : decode cX7_deeper 45 = .ok (.iload_n 2, 1) := by decide +kernel
theorem dX7_deeper_46 : decode cX7_deeper 46 = .ok (.aload_n 0, 1) := by decide +kernel
theorem dX7_deeper_47 : decode cX7_deeper 47 = .ok (.getfield 13, 3) := by decide +kernel
theorem dX7_deeper_50 : decode cX7_deeper 50 = .ok (.iload 4, 2) := by decide +kernel
theorem dX7_deeper_52 : decode cX7_deeper 52 = .ok (.iaload, 1) := by decide +kernel
theorem dX7_deeper_53 : decode cX7_deeper 53 = .ok (.if_icmp .ge 18, 3) := by decide +kernel
theorem dX7_deeper_56 : decode cX7_deeper 56 = .ok (.iload_n 3, 1) := by decide +kernel
theorem dX7_deeper_57 : decode cX7_deeper 57 = .ok (.aload_n 0, 1) := by decide +kernel
theorem dX7_deeper_58 : decode cX7_deeper 58 = .ok (.iload_n 1, 1) := by decide +kernel
theorem dX7_deeper_59 : decode cX7_deeper 59 = .ok (.aload_n 0, 1) := by decide +kernel
theorem dX7_deeper_60 : decode cX7_deeper 60 = .ok (.getfield 7, 3) := by decide +kernel
theorem dX7_deeper_63 : decode cX7_deeper 63 = .ok (.iload_n 1, 1) := by decide +kernel
theorem dX7_deeper_64 : decode cX7_deeper 64 = .ok (.iaload, 1) := by decide +kernel
theorem dX7_deeper_65 : decode cX7_deeper 65 = .ok (.invokevirtual 101, 3) := by decide +kernel
theorem dX7_deeper_68 : decode cX7_deeper 68 = .ok (.if_icmp .gt 6, 3) := by decide +kernel
theorem dX7_deeper_71 : decode cX7_deeper 71 = .ok (.bipush (-5), 2) := by decide +kernel
theorem dX7_deeper_73 : decode cX7_deeper 73 = .ok (.ireturn, 1) := by decide +kernel
theorem dX7_deeper_74 : decode cX7_deeper 74 = .ok (.aload_n 0, 1) := by decide +kernel
theorem dX7_deeper_75 : decode cX7_deeper 75 = .ok (.getfield 7, 3) := by decide +kernel
theorem dX7_deeper_78 : decode cX7_deeper 78 = .ok (.iload_n 1, 1) := by decide +kernel
theorem dX7_deeper_79 : decode cX7_deeper 79 = .ok (.iaload, 1) := by decide +kernel
theorem dX7_deeper_80 : decode cX7_deeper 80 = .ok (.iconst 3, 1) := by decide +kernel
theorem dX7_deeper_81 : decode cX7_deeper 81 = .ok (.if_icmp .ne 6, 3) := by decide +kernel
theorem dX7_deeper_84 : decode cX7_deeper 84 = .ok (.bipush (-4), 2) := by decide +kernel
theorem dX7_deeper_86 : decode cX7_deeper 86 = .ok (.ireturn, 1) := by decide +kernel
theorem dX7_deeper_87 : decode cX7_deeper 87 = .ok (.aload_n 0, 1) := by decide +kernel
theorem dX7_deeper_88 : decode cX7_deeper 88 = .ok (.getfield 13, 3) := by decide +kernel
theorem dX7_deeper_91 : decode cX7_deeper 91 = .ok (.iload 4, 2) := by decide +kernel
theorem dX7_deeper_93 : decode cX7_deeper 93 = .ok (.iconst 1, 1) := by decide +kernel
theorem dX7_deeper_94 : decode cX7_deeper 94 = .ok (.iadd, 1) := by decide +kernel
theorem dX7_deeper_95 : decode cX7_deeper 95 = .ok (.iload_n 2, 1) := by decide +kernel
theorem dX7_deeper_96 : decode cX7_deeper 96 = .ok (.iastore, 1) := by decide +kernel
theorem dX7_deeper_97 : decode cX7_deeper 97 = .ok (.aload_n 0, 1) := by decide +kernel
theorem dX7_deeper_98 : decode cX7_deeper 98 = .ok (.getfield 16, 3) := by decide +kernel
theorem dX7_deeper_101 : decode cX7_deeper 101 = .ok (.iload 4, 2) := by decide +kernel
theorem dX7_deeper_103 : decode cX7_deeper 103 = .ok (.iconst 1, 1) := by decide +kernel
theorem dX7_deeper_104 : decode cX7_deeper 104 = .ok (.iadd, 1) := by decide +kernel
theorem dX7_deeper_105 : decode cX7_deeper 105 = .ok (.iload_n 3, 1) := by decide +kernel
theorem dX7_deeper_106 : decode cX7_deeper 106 = .ok (.iastore, 1) := by decide +kernel
theorem dX7_deeper_107 : decode cX7_deeper 107 = .ok (.aload_n 0, 1) := by decide +kernel
theorem dX7_deeper_108 : decode cX7_deeper 108 = .ok (.getfield 7, 3) := by decide +kernel
theorem dX7_deeper_111 : decode cX7_deeper 111 = .ok (.iload_n 1, 1) := by decide +kernel
theorem dX7_deeper_112 : decode cX7_deeper 112 = .ok (.dup2, 1) := by decide +kernel
theorem dX7_deeper_113 : decode cX7_deeper 113 = .ok (.iaload, 1) := by decide +kernel
theorem dX7_deeper_114 : decode cX7_deeper 114 = .ok (.iconst 1, 1) := by decide +kernel
theorem dX7_deeper_115 : decode cX7_deeper 115 = .ok (.iadd, 1) := by decide +kernel
theorem dX7_deeper_116 : decode cX7_deeper 116 = .ok (.iastore, 1) := by decide +kernel
theorem dX7_deeper_117 : decode cX7_deeper 117 = .ok (.aload_n 0, 1) := by decide +kernel
theorem dX7_deeper_118 : decode cX7_deeper 118 = .ok (.getfield 7, 3) := by decide +kernel
theorem dX7_deeper_121 : decode cX7_deeper 121 = .ok (.iload_n 1, 1) := by decide +kernel
theorem dX7_deeper_122 : decode cX7_deeper 122 = .ok (.iaload, 1) := by decide +kernel
theorem dX7_deeper_123 : decode cX7_deeper 123 = .ok (.ireturn, 1) := by decide +kernel
theorem dX7_wakeOf_0 : decode cX7_wakeOf 0 = .ok (.iload_n 2, 1) := by decide +kernel
theorem dX7_wakeOf_1 : decode cX7_wakeOf 1 = .ok (.ifCond .ne 7, 3) := by decide +kernel
theorem dX7_wakeOf_4 : decode cX7_wakeOf 4 = .ok (.iconst 0, 1) := by decide +kernel
theorem dX7_wakeOf_5 : decode cX7_wakeOf 5 = .ok (.goto 13, 3) := by decide +kernel
theorem dX7_wakeOf_8 : decode cX7_wakeOf 8 = .ok (.aload_n 0, 1) := by decide +kernel
theorem dX7_wakeOf_9 : decode cX7_wakeOf 9 = .ok (.getfield 16, 3) := by decide +kernel
theorem dX7_wakeOf_12 : decode cX7_wakeOf 12 = .ok (.iconst 4, 1) := by decide +kernel
theorem dX7_wakeOf_13 : decode cX7_wakeOf 13 = .ok (.iload_n 1, 1) := by decide +kernel
theorem dX7_wakeOf_14 : decode cX7_wakeOf 14 = .ok (.imul, 1) := by decide +kernel
theorem dX7_wakeOf_15 : decode cX7_wakeOf 15 = .ok (.iload_n 2, 1) := by decide +kernel
theorem dX7_wakeOf_16 : decode cX7_wakeOf 16 = .ok (.iadd, 1) := by decide +kernel
theorem dX7_wakeOf_17 : decode cX7_wakeOf 17 = .ok (.iaload, 1) := by decide +kernel
theorem dX7_wakeOf_18 : decode cX7_wakeOf 18 = .ok (.ireturn, 1) := by decide +kernel
theorem dX7_level_0 : decode cX7_level 0 = .ok (.iload_n 1, 1) := by decide +kernel
theorem dX7_level_1 : decode cX7_level 1 = .ok (.invokestatic 97, 3) := by decide +kernel
theorem dX7_level_4 : decode cX7_level 4 = .ok (.ifCond .eq 17, 3) := by decide +kernel
theorem dX7_level_7 : decode cX7_level 7 = .ok (.iload_n 2, 1) := by decide +kernel
theorem dX7_level_8 : decode cX7_level 8 = .ok (.iconst 0, 1) := by decide +kernel
theorem dX7_level_9 : decode cX7_level 9 = .ok (.aload_n 0, 1) := by decide +kernel
theorem dX7_level_10 : decode cX7_level 10 = .ok (.getfield 7, 3) := by decide +kernel
theorem dX7_level_13 : decode cX7_level 13 = .ok (.iload_n 1, 1) := by decide +kernel
theorem dX7_level_14 : decode cX7_level 14 = .ok (.iaload, 1) := by decide +kernel
theorem dX7_level_15 : decode cX7_level 15 = .ok (.invokestatic 90, 3) := by decide +kernel
theorem dX7_level_18 : decode cX7_level 18 = .ok (.ifCond .ne 5, 3) := by decide +kernel
theorem dX7_level_21 : decode cX7_level 21 = .ok (.iconst (-1), 1) := by decide +kernel
theorem dX7_level_22 : decode cX7_level 22 = .ok (.ireturn, 1) := by decide +kernel
theorem dX7_level_23 : decode cX7_level 23 = .ok (.iload_n 3, 1) := by decide +kernel
theorem dX7_level_24 : decode cX7_level 24 = .ok (.iconst 0, 1) := by decide +kernel
theorem dX7_level_25 : decode cX7_level 25 = .ok (.iconst 1, 1) := by decide +kernel
theorem dX7_level_26 : decode cX7_level 26 = .ok (.invokestatic 90, 3) := by decide +kernel
theorem dX7_level_29 : decode cX7_level 29 = .ok (.ifCond .ne 6, 3) := by decide +kernel
theorem dX7_level_32 : decode cX7_level 32 = .ok (.bipush (-2), 2) := by decide +kernel
theorem dX7_level_34 : decode cX7_level 34 = .ok (.ireturn, 1) := by decide +kernel
theorem dX7_level_35 : decode cX7_level 35 = .ok (.iload_n 3, 1) := by decide +kernel
theorem dX7_level_36 : decode cX7_level 36 = .ok (.ifCond .ne 16, 3) := by decide +kernel
theorem dX7_level_39 : decode cX7_level 39 = .ok (.aload_n 0, 1) := by decide +kernel
theorem dX7_level_40 : decode cX7_level 40 = .ok (.getfield 13, 3) := by decide +kernel
theorem dX7_level_43 : decode cX7_level 43 = .ok (.iconst 4, 1) := by decide +kernel
theorem dX7_level_44 : decode cX7_level 44 = .ok (.iload_n 1, 1) := by decide +kernel
theorem dX7_level_45 : decode cX7_level 45 = .ok (.imul, 1) := by decide +kernel
theorem dX7_level_46 : decode cX7_level 46 = .ok (.iload_n 2, 1) := by decide +kernel
theorem dX7_level_47 : decode cX7_level 47 = .ok (.iadd, 1) := by decide +kernel
theorem dX7_level_48 : decode cX7_level 48 = .ok (.iaload, 1) := by decide +kernel
theorem dX7_level_49 : decode cX7_level 49 = .ok (.goto 9, 3) := by decide +kernel
theorem dX7_level_52 : decode cX7_level 52 = .ok (.aload_n 0, 1) := by decide +kernel
theorem dX7_level_53 : decode cX7_level 53 = .ok (.iload_n 1, 1) := by decide +kernel
theorem dX7_level_54 : decode cX7_level 54 = .ok (.iload_n 2, 1) := by decide +kernel
theorem dX7_level_55 : decode cX7_level 55 = .ok (.invokevirtual 101, 3) := by decide +kernel
theorem dX7_level_58 : decode cX7_level 58 = .ok (.ireturn, 1) := by decide +kernel
theorem dX7_policy_0 : decode cX7_policy 0 = .ok (.iload_n 1, 1) := by decide +kernel
theorem dX7_policy_1 : decode cX7_policy 1 = .ok (.invokestatic 97, 3) := by decide +kernel
theorem dX7_policy_4 : decode cX7_policy 4 = .ok (.ifCond .ne 5, 3) := by decide +kernel
theorem dX7_policy_7 : decode cX7_policy 7 = .ok (.iconst (-1), 1) := by decide +kernel
theorem dX7_policy_8 : decode cX7_policy 8 = .ok (.ireturn, 1) := by decide +kernel
theorem dX7_policy_9 : decode cX7_policy 9 = .ok (.iload_n 2, 1) := by decide +kernel
theorem dX7_policy_10 : decode cX7_policy 10 = .ok (.iconst 0, 1) := by decide +kernel
theorem dX7_policy_11 : decode cX7_policy 11 = .ok (.iconst 3, 1) := by decide +kernel
theorem dX7_policy_12 : decode cX7_policy 12 = .ok (.invokestatic 90, 3) := by decide +kernel
theorem dX7_policy_15 : decode cX7_policy 15 = .ok (.ifCond .eq 33, 3) := by decide +kernel
theorem dX7_policy_18 : decode cX7_policy 18 = .ok (.iload_n 2, 1) := by decide +kernel
theorem dX7_policy_19 : decode cX7_policy 19 = .ok (.iconst 1, 1) := by decide +kernel
theorem dX7_policy_20 : decode cX7_policy 20 = .ok (.if_icmp .ne 14, 3) := by decide +kernel
theorem dX7_policy_23 : decode cX7_policy 23 = .ok (.iload_n 3, 1) := by decide +kernel
theorem dX7_policy_24 : decode cX7_policy 24 = .ok (.iconst 1, 1) := by decide +kernel
theorem dX7_policy_25 : decode cX7_policy 25 = .ok (.sipush 500, 3) := by decide +kernel
theorem dX7_policy_28 : decode cX7_policy 28 = .ok (.invokestatic 90, 3) := by decide +kernel
theorem dX7_policy_31 : decode cX7_policy 31 = .ok (.ifCond .eq 17, 3) := by decide +kernel
theorem dX7_policy_34 : decode cX7_policy 34 = .ok (.iload_n 2, 1) := by decide +kernel
theorem dX7_policy_35 : decode cX7_policy 35 = .ok (.iconst 3, 1) := by decide +kernel
theorem dX7_policy_36 : decode cX7_policy 36 = .ok (.if_icmp .ne 15, 3) := by decide +kernel
theorem dX7_policy_39 : decode cX7_policy 39 = .ok (.iload_n 3, 1) := by decide +kernel
theorem dX7_policy_40 : decode cX7_policy 40 = .ok (.iconst 1, 1) := by decide +kernel
theorem dX7_policy_41 : decode cX7_policy 41 = .ok (.iconst 4, 1) := by decide +kernel
theorem dX7_policy_42 : decode cX7_policy 42 = .ok (.invokestatic 90, 3) := by decide +kernel
theorem dX7_policy_45 : decode cX7_policy 45 = .ok (.ifCond .ne 6, 3) := by decide +kernel
theorem dX7_policy_48 : decode cX7_policy 48 = .ok (.bipush (-2), 2) := by decide +kernel
theorem dX7_policy_50 : decode cX7_policy 50 = .ok (.ireturn, 1) := by decide +kernel
theorem dX7_policy_51 : decode cX7_policy 51 = .ok (.aload_n 0, 1) := by decide +kernel
theorem dX7_policy_52 : decode cX7_policy 52 = .ok (.getfield 19, 3) := by decide +kernel
theorem dX7_policy_55 : decode cX7_policy 55 = .ok (.iload_n 1, 1) := by decide +kernel
theorem dX7_policy_56 : decode cX7_policy 56 = .ok (.iaload, 1) := by decide +kernel
theorem dX7_policy_57 : decode cX7_policy 57 = .ok (.istore 4, 2) := by decide +kernel
theorem dX7_policy_59 : decode cX7_policy 59 = .ok (.aload_n 0, 1) := by decide +kernel
theorem dX7_policy_60 : decode cX7_policy 60 = .ok (.getfield 19, 3) := by decide +kernel
theorem dX7_policy_63 : decode cX7_policy 63 = .ok (.iload_n 1, 1) := by decide +kernel
theorem dX7_policy_64 : decode cX7_policy 64 = .ok (.iload_n 2, 1) := by decide +kernel
theorem dX7_policy_65 : decode cX7_policy 65 = .ok (.iastore, 1) := by decide +kernel
theorem dX7_policy_66 : decode cX7_policy 66 = .ok (.aload_n 0, 1) := by decide +kernel
theorem dX7_policy_67 : decode cX7_policy 67 = .ok (.getfield 22, 3) := by decide +kernel
theorem dX7_policy_70 : decode cX7_policy 70 = .ok (.iload_n 1, 1) := by decide +kernel
theorem dX7_policy_71 : decode cX7_policy 71 = .ok (.iload_n 2, 1) := by decide +kernel
theorem dX7_policy_72 : decode cX7_policy 72 = .ok (.iconst 2, 1) := by decide +kernel
theorem dX7_policy_73 : decode cX7_policy 73 = .ok (.irem, 1) := by decide +kernel
theorem dX7_policy_74 : decode cX7_policy 74 = .ok (.iconst 1, 1) := by decide +kernel
theorem dX7_policy_75 : decode cX7_policy 75 = .ok (.if_icmp .ne 7, 3) := by decide +kernel
theorem dX7_policy_78 : decode cX7_policy 78 = .ok (.iload_n 3, 1) := by decide +kernel
theorem dX7_policy_79 : decode cX7_policy 79 = .ok (.goto 4, 3) := by decide +kernel
theorem dX7_policy_82 : decode cX7_policy 82 = .ok (.iconst 1, 1) := by decide +kernel
theorem dX7_policy_83 : decode cX7_policy 83 = .ok (.iastore, 1) := by decide +kernel
theorem dX7_policy_84 : decode cX7_policy 84 = .ok (.iload 4, 2) := by decide +kernel
theorem dX7_policy_86 : decode cX7_policy 86 = .ok (.ireturn, 1) := by decide +kernel
theorem dX7_request_0 : decode cX7_request 0 = .ok (.iload_n 2, 1) := by decide +kernel
theorem dX7_request_1 : decode cX7_request 1 = .ok (.invokestatic 97, 3) := by decide +kernel
theorem dX7_request_4 : decode cX7_request 4 = .ok (.ifCond .ne 5, 3) := by decide +kernel
theorem dX7_request_7 : decode cX7_request 7 = .ok (.iconst (-1), 1) := by decide +kernel
theorem dX7_request_8 : decode cX7_request 8 = .ok (.ireturn, 1) := by decide +kernel
theorem dX7_request_9 : decode cX7_request 9 = .ok (.iload_n 1, 1) := by decide +kernel
theorem dX7_request_10 : decode cX7_request 10 = .ok (.iconst 0, 1) := by decide +kernel
theorem dX7_request_11 : decode cX7_request 11 = .ok (.sipush 999, 3) := by decide +kernel
theorem dX7_request_14 : decode cX7_request 14 = .ok (.invokestatic 90, 3) := by decide +kernel
theorem dX7_request_17 : decode cX7_request 17 = .ok (.ifCond .eq 12, 3) := by decide +kernel
theorem dX7_request_20 : decode cX7_request 20 = .ok (.iload_n 3, 1) := by decide +kernel
theorem dX7_request_21 : decode cX7_request 21 = .ok (.iconst 0, 1) := by decide +kernel
theorem dX7_request_22 : decode cX7_request 22 = .ok (.iconst 1, 1) := by decide +kernel
theorem dX7_request_23 : decode cX7_request 23 = .ok (.invokestatic 90, 3) := by decide +kernel
theorem dX7_request_26 : decode cX7_request 26 = .ok (.ifCond .ne 6, 3) := by decide +kernel
theorem dX7_request_29 : decode cX7_request 29 = .ok (.bipush (-2), 2) := by decide +kernel
theorem dX7_request_31 : decode cX7_request 31 = .ok (.ireturn, 1) := by decide +kernel
theorem dX7_request_32 : decode cX7_request 32 = .ok (.aload_n 0, 1) := by decide +kernel
theorem dX7_request_33 : decode cX7_request 33 = .ok (.getfield 94, 3) := by decide +kernel
theorem dX7_request_36 : decode cX7_request 36 = .ok (.bipush 40, 2) := by decide +kernel
theorem dX7_request_38 : decode cX7_request 38 = .ok (.if_icmp .ne 6, 3) := by decide +kernel
theorem dX7_request_41 : decode cX7_request 41 = .ok (.bipush (-4), 2) := by decide +kernel
theorem dX7_request_43 : decode cX7_request 43 = .ok (.ireturn, 1) := by decide +kernel
theorem dX7_request_44 : decode cX7_request 44 = .ok (.aload_n 0, 1) := by decide +kernel
theorem dX7_request_45 : decode cX7_request 45 = .ok (.getfield 25, 3) := by decide +kernel
theorem dX7_request_48 : decode cX7_request 48 = .ok (.aload_n 0, 1) := by decide +kernel
theorem dX7_request_49 : decode cX7_request 49 = .ok (.getfield 94, 3) := by decide +kernel
theorem dX7_request_52 : decode cX7_request 52 = .ok (.iload_n 1, 1) := by decide +kernel
theorem dX7_request_53 : decode cX7_request 53 = .ok (.iastore, 1) := by decide +kernel
theorem dX7_request_54 : decode cX7_request 54 = .ok (.aload_n 0, 1) := by decide +kernel
theorem dX7_request_55 : decode cX7_request 55 = .ok (.getfield 28, 3) := by decide +kernel
theorem dX7_request_58 : decode cX7_request 58 = .ok (.aload_n 0, 1) := by decide +kernel
theorem dX7_request_59 : decode cX7_request 59 = .ok (.getfield 94, 3) := by decide +kernel
theorem dX7_request_62 : decode cX7_request 62 = .ok (.iload_n 2, 1) := by decide +kernel
theorem dX7_request_63 : decode cX7_request 63 = .ok (.iastore, 1) := by decide +kernel
theorem dX7_request_64 : decode cX7_request 64 = .ok (.aload_n 0, 1) := by decide +kernel
theorem dX7_request_65 : decode cX7_request 65 = .ok (.getfield 31, 3) := by decide +kernel
theorem dX7_request_68 : decode cX7_request 68 = .ok (.aload_n 0, 1) := by decide +kernel
theorem dX7_request_69 : decode cX7_request 69 = .ok (.getfield 94, 3) := by decide +kernel
theorem dX7_request_72 : decode cX7_request 72 = .ok (.iload_n 3, 1) := by decide +kernel
theorem dX7_request_73 : decode cX7_request 73 = .ok (.iastore, 1) := by decide +kernel
theorem dX7_request_74 : decode cX7_request 74 = .ok (.aload_n 0, 1) := by decide +kernel
theorem dX7_request_75 : decode cX7_request 75 = .ok (.dup, 1) := by decide +kernel
theorem dX7_request_76 : decode cX7_request 76 = .ok (.getfield 94, 3) := by decide +kernel
theorem dX7_request_79 : decode cX7_request 79 = .ok (.iconst 1, 1) := by decide +kernel
theorem dX7_request_80 : decode cX7_request 80 = .ok (.iadd, 1) := by decide +kernel
theorem dX7_request_81 : decode cX7_request 81 = .ok (.putfield 94, 3) := by decide +kernel
theorem dX7_request_84 : decode cX7_request 84 = .ok (.aload_n 0, 1) := by decide +kernel
theorem dX7_request_85 : decode cX7_request 85 = .ok (.getfield 94, 3) := by decide +kernel
theorem dX7_request_88 : decode cX7_request 88 = .ok (.iconst 1, 1) := by decide +kernel
theorem dX7_request_89 : decode cX7_request 89 = .ok (.isub, 1) := by decide +kernel
theorem dX7_request_90 : decode cX7_request 90 = .ok (.ireturn, 1) := by decide +kernel
theorem dX7_forget_0 : decode cX7_forget 0 = .ok (.aload_n 0, 1) := by decide +kernel
theorem dX7_forget_1 : decode cX7_forget 1 = .ok (.iload_n 1, 1) := by decide +kernel
theorem dX7_forget_2 : decode cX7_forget 2 = .ok (.invokevirtual 105, 3) := by decide +kernel
theorem dX7_forget_5 : decode cX7_forget 5 = .ok (.ifCond .ne 5, 3) := by decide +kernel
theorem dX7_forget_8 : decode cX7_forget 8 = .ok (.iconst (-1), 1) := by decide +kernel
theorem dX7_forget_9 : decode cX7_forget 9 = .ok (.ireturn, 1) := by decide +kernel
theorem dX7_forget_10 : decode cX7_forget 10 = .ok (.aload_n 0, 1) := by decide +kernel
theorem dX7_forget_11 : decode cX7_forget 11 = .ok (.dup, 1) := by decide +kernel
theorem dX7_forget_12 : decode cX7_forget 12 = .ok (.getfield 94, 3) := by decide +kernel
theorem dX7_forget_15 : decode cX7_forget 15 = .ok (.iconst 1, 1) := by decide +kernel
theorem dX7_forget_16 : decode cX7_forget 16 = .ok (.isub, 1) := by decide +kernel
theorem dX7_forget_17 : decode cX7_forget 17 = .ok (.putfield 94, 3) := by decide +kernel
theorem dX7_forget_20 : decode cX7_forget 20 = .ok (.iload_n 1, 1) := by decide +kernel
theorem dX7_forget_21 : decode cX7_forget 21 = .ok (.istore_n 2, 1) := by decide +kernel
theorem dX7_forget_22 : decode cX7_forget 22 = .ok (.iload_n 2, 1) := by decide +kernel
theorem dX7_forget_23 : decode cX7_forget 23 = .ok (.aload_n 0, 1) := by decide +kernel
theorem dX7_forget_24 : decode cX7_forget 24 = .ok (.getfield 94, 3) := by decide +kernel
theorem dX7_forget_27 : decode cX7_forget 27 = .ok (.if_icmp .ge 51, 3) := by decide +kernel
theorem dX7_forget_30 : decode cX7_forget 30 = .ok (.aload_n 0, 1) := by decide +kernel
theorem dX7_forget_31 : decode cX7_forget 31 = .ok (.getfield 25, 3) := by decide +kernel
theorem dX7_forget_34 : decode cX7_forget 34 = .ok (.iload_n 2, 1) := by decide +kernel
theorem dX7_forget_35 : decode cX7_forget 35 = .ok (.aload_n 0, 1) := by decide +kernel
theorem dX7_forget_36 : decode cX7_forget 36 = .ok (.getfield 25, 3) := by decide +kernel
theorem dX7_forget_39 : decode cX7_forget 39 = .ok (.iload_n 2, 1) := by decide +kernel
theorem dX7_forget_40 : decode cX7_forget 40 = .ok (.iconst 1, 1) := by decide +kernel
theorem dX7_forget_41 : decode cX7_forget 41 = .ok (.iadd, 1) := by decide +kernel
theorem dX7_forget_42 : decode cX7_forget 42 = .ok (.iaload, 1) := by decide +kernel
theorem dX7_forget_43 : decode cX7_forget 43 = .ok (.iastore, 1) := by decide +kernel
theorem dX7_forget_44 : decode cX7_forget 44 = .ok (.aload_n 0, 1) := by decide +kernel
theorem dX7_forget_45 : decode cX7_forget 45 = .ok (.getfield 28, 3) := by decide +kernel
theorem dX7_forget_48 : decode cX7_forget 48 = .ok (.iload_n 2, 1) := by decide +kernel
theorem dX7_forget_49 : decode cX7_forget 49 = .ok (.aload_n 0, 1) := by decide +kernel
theorem dX7_forget_50 : decode cX7_forget 50 = .ok (.getfield 28, 3) := by decide +kernel
theorem dX7_forget_53 : decode cX7_forget 53 = .ok (.iload_n 2, 1) := by decide +kernel
theorem dX7_forget_54 : decode cX7_forget 54 = .ok (.iconst 1, 1) := by decide +kernel
theorem dX7_forget_55 : decode cX7_forget 55 = .ok (.iadd, 1) := by decide +kernel
theorem dX7_forget_56 : decode cX7_forget 56 = .ok (.iaload, 1) := by decide +kernel
theorem dX7_forget_57 : decode cX7_forget 57 = .ok (.iastore, 1) := by decide +kernel
theorem dX7_forget_58 : decode cX7_forget 58 = .ok (.aload_n 0, 1) := by decide +kernel
theorem dX7_forget_59 : decode cX7_forget 59 = .ok (.getfield 31, 3) := by decide +kernel
theorem dX7_forget_62 : decode cX7_forget 62 = .ok (.iload_n 2, 1) := by decide +kernel
theorem dX7_forget_63 : decode cX7_forget 63 = .ok (.aload_n 0, 1) := by decide +kernel
theorem dX7_forget_64 : decode cX7_forget 64 = .ok (.getfield 31, 3) := by decide +kernel
theorem dX7_forget_67 : decode cX7_forget 67 = .ok (.iload_n 2, 1) := by decide +kernel
theorem dX7_forget_68 : decode cX7_forget 68 = .ok (.iconst 1, 1) := by decide +kernel
theorem dX7_forget_69 : decode cX7_forget 69 = .ok (.iadd, 1) := by decide +kernel
theorem dX7_forget_70 : decode cX7_forget 70 = .ok (.iaload, 1) := by decide +kernel
theorem dX7_forget_71 : decode cX7_forget 71 = .ok (.iastore, 1) := by decide +kernel
theorem dX7_forget_72 : decode cX7_forget 72 = .ok (.iinc 2 1, 3) := by decide +kernel
theorem dX7_forget_75 : decode cX7_forget 75 = .ok (.goto (-53), 3) := by decide +kernel
theorem dX7_forget_78 : decode cX7_forget 78 = .ok (.aload_n 0, 1) := by decide +kernel
theorem dX7_forget_79 : decode cX7_forget 79 = .ok (.getfield 94, 3) := by decide +kernel
theorem dX7_forget_82 : decode cX7_forget 82 = .ok (.ireturn, 1) := by decide +kernel
theorem dX7_told_0 : decode cX7_told 0 = .ok (.aload_n 0, 1) := by decide +kernel
theorem dX7_told_1 : decode cX7_told 1 = .ok (.iload_n 1, 1) := by decide +kernel
theorem dX7_told_2 : decode cX7_told 2 = .ok (.invokevirtual 105, 3) := by decide +kernel
theorem dX7_told_5 : decode cX7_told 5 = .ok (.ifCond .ne 5, 3) := by decide +kernel
theorem dX7_told_8 : decode cX7_told 8 = .ok (.iconst (-1), 1) := by decide +kernel
theorem dX7_told_9 : decode cX7_told 9 = .ok (.ireturn, 1) := by decide +kernel
theorem dX7_told_10 : decode cX7_told 10 = .ok (.iload_n 2, 1) := by decide +kernel
theorem dX7_told_11 : decode cX7_told 11 = .ok (.ifCond .ne 12, 3) := by decide +kernel
theorem dX7_told_14 : decode cX7_told 14 = .ok (.aload_n 0, 1) := by decide +kernel
theorem dX7_told_15 : decode cX7_told 15 = .ok (.getfield 25, 3) := by decide +kernel
theorem dX7_told_18 : decode cX7_told 18 = .ok (.iload_n 1, 1) := by decide +kernel
theorem dX7_told_19 : decode cX7_told 19 = .ok (.iaload, 1) := by decide +kernel
theorem dX7_told_20 : decode cX7_told 20 = .ok (.goto 33, 3) := by decide +kernel
theorem dX7_told_23 : decode cX7_told 23 = .ok (.iload_n 2, 1) := by decide +kernel
theorem dX7_told_24 : decode cX7_told 24 = .ok (.iconst 1, 1) := by decide +kernel
theorem dX7_told_25 : decode cX7_told 25 = .ok (.if_icmp .ne 12, 3) := by decide +kernel
theorem dX7_told_28 : decode cX7_told 28 = .ok (.aload_n 0, 1) := by decide +kernel
theorem dX7_told_29 : decode cX7_told 29 = .ok (.getfield 28, 3) := by decide +kernel
theorem dX7_told_32 : decode cX7_told 32 = .ok (.iload_n 1, 1) := by decide +kernel
theorem dX7_told_33 : decode cX7_told 33 = .ok (.iaload, 1) := by decide +kernel
theorem dX7_told_34 : decode cX7_told 34 = .ok (.goto 19, 3) := by decide +kernel
theorem dX7_told_37 : decode cX7_told 37 = .ok (.iload_n 2, 1) := by decide +kernel
theorem dX7_told_38 : decode cX7_told 38 = .ok (.iconst 2, 1) := by decide +kernel
theorem dX7_told_39 : decode cX7_told 39 = .ok (.if_icmp .ne 12, 3) := by decide +kernel
theorem dX7_told_42 : decode cX7_told 42 = .ok (.aload_n 0, 1) := by decide +kernel
theorem dX7_told_43 : decode cX7_told 43 = .ok (.getfield 31, 3) := by decide +kernel
theorem dX7_told_46 : decode cX7_told 46 = .ok (.iload_n 1, 1) := by decide +kernel
theorem dX7_told_47 : decode cX7_told 47 = .ok (.iaload, 1) := by decide +kernel
theorem dX7_told_48 : decode cX7_told 48 = .ok (.goto 5, 3) := by decide +kernel
theorem dX7_told_51 : decode cX7_told 51 = .ok (.bipush (-2), 2) := by decide +kernel
theorem dX7_told_53 : decode cX7_told 53 = .ok (.ireturn, 1) := by decide +kernel
theorem dX7_end_0 : decode cX7_end 0 = .ok (.iload_n 1, 1) := by decide +kernel
theorem dX7_end_1 : decode cX7_end 1 = .ok (.iconst 1, 1) := by decide +kernel
theorem dX7_end_2 : decode cX7_end 2 = .ok (.sipush 1000, 3) := by decide +kernel
theorem dX7_end_5 : decode cX7_end 5 = .ok (.invokestatic 90, 3) := by decide +kernel
theorem dX7_end_8 : decode cX7_end 8 = .ok (.ifCond .ne 6, 3) := by decide +kernel
theorem dX7_end_11 : decode cX7_end 11 = .ok (.bipush (-2), 2) := by decide +kernel
theorem dX7_end_13 : decode cX7_end 13 = .ok (.ireturn, 1) := by decide +kernel
theorem dX7_end_14 : decode cX7_end 14 = .ok (.aload_n 0, 1) := by decide +kernel
theorem dX7_end_15 : decode cX7_end 15 = .ok (.getfield 34, 3) := by decide +kernel
theorem dX7_end_18 : decode cX7_end 18 = .ok (.istore_n 2, 1) := by decide +kernel
theorem dX7_end_19 : decode cX7_end 19 = .ok (.aload_n 0, 1) := by decide +kernel
theorem dX7_end_20 : decode cX7_end 20 = .ok (.iload_n 1, 1) := by decide +kernel
theorem dX7_end_21 : decode cX7_end 21 = .ok (.putfield 34, 3) := by decide +kernel
theorem dX7_end_24 : decode cX7_end 24 = .ok (.iload_n 2, 1) := by decide +kernel
theorem dX7_end_25 : decode cX7_end 25 = .ok (.ireturn, 1) := by decide +kernel
theorem dX7_journal_0 : decode cX7_journal 0 = .ok (.iload_n 1, 1) := by decide +kernel
theorem dX7_journal_1 : decode cX7_journal 1 = .ok (.iconst 0, 1) := by decide +kernel
theorem dX7_journal_2 : decode cX7_journal 2 = .ok (.bipush 8, 2) := by decide +kernel
theorem dX7_journal_4 : decode cX7_journal 4 = .ok (.invokestatic 90, 3) := by decide +kernel
theorem dX7_journal_7 : decode cX7_journal 7 = .ok (.ifCond .ne 6, 3) := by decide +kernel
theorem dX7_journal_10 : decode cX7_journal 10 = .ok (.bipush (-2), 2) := by decide +kernel
theorem dX7_journal_12 : decode cX7_journal 12 = .ok (.ireturn, 1) := by decide +kernel
theorem dX7_journal_13 : decode cX7_journal 13 = .ok (.aload_n 0, 1) := by decide +kernel
theorem dX7_journal_14 : decode cX7_journal 14 = .ok (.getfield 108, 3) := by decide +kernel
theorem dX7_journal_17 : decode cX7_journal 17 = .ok (.istore_n 2, 1) := by decide +kernel
theorem dX7_journal_18 : decode cX7_journal 18 = .ok (.aload_n 0, 1) := by decide +kernel
theorem dX7_journal_19 : decode cX7_journal 19 = .ok (.iload_n 1, 1) := by decide +kernel
theorem dX7_journal_20 : decode cX7_journal 20 = .ok (.putfield 108, 3) := by decide +kernel
theorem dX7_journal_23 : decode cX7_journal 23 = .ok (.iload_n 2, 1) := by decide +kernel
theorem dX7_journal_24 : decode cX7_journal 24 = .ok (.ireturn, 1) := by decide +kernel
theorem dX7_guessOf_0 : decode cX7_guessOf 0 = .ok (.aload_n 0, 1) := by decide +kernel
theorem dX7_guessOf_1 : decode cX7_guessOf 1 = .ok (.getfield 59, 3) := by decide +kernel
theorem dX7_guessOf_4 : decode cX7_guessOf 4 = .ok (.iload_n 1, 1) := by decide +kernel
theorem dX7_guessOf_5 : decode cX7_guessOf 5 = .ok (.iaload, 1) := by decide +kernel
theorem dX7_guessOf_6 : decode cX7_guessOf 6 = .ok (.ifCond .ne 6, 3) := by decide +kernel
theorem dX7_guessOf_9 : decode cX7_guessOf 9 = .ok (.bipush (-6), 2) := by decide +kernel
theorem dX7_guessOf_11 : decode cX7_guessOf 11 = .ok (.ireturn, 1) := by decide +kernel
theorem dX7_guessOf_12 : decode cX7_guessOf 12 = .ok (.iconst 0, 1) := by decide +kernel
theorem dX7_guessOf_13 : decode cX7_guessOf 13 = .ok (.istore_n 3, 1) := by decide +kernel
theorem dX7_guessOf_14 : decode cX7_guessOf 14 = .ok (.iconst 0, 1) := by decide +kernel
theorem dX7_guessOf_15 : decode cX7_guessOf 15 = .ok (.istore 4, 2) := by decide +kernel
theorem dX7_guessOf_17 : decode cX7_guessOf 17 = .ok (.aload_n 0, 1) := by decide +kernel
theorem dX7_guessOf_18 : decode cX7_guessOf 18 = .ok (.getfield 59, 3) := by decide +kernel
theorem dX7_guessOf_21 : decode cX7_guessOf 21 = .ok (.iload_n 1, 1) := by decide +kernel
theorem dX7_guessOf_22 : decode cX7_guessOf 22 = .ok (.iaload, 1) := by decide +kernel
theorem dX7_guessOf_23 : decode cX7_guessOf 23 = .ok (.iconst 1, 1) := by decide +kernel
theorem dX7_guessOf_24 : decode cX7_guessOf 24 = .ok (.isub, 1) := by decide +kernel
theorem dX7_guessOf_25 : decode cX7_guessOf 25 = .ok (.istore 5, 2) := by decide +kernel
theorem dX7_guessOf_27 : decode cX7_guessOf 27 = .ok (.iload 5, 2) := by decide +kernel
theorem dX7_guessOf_29 : decode cX7_guessOf 29 = .ok (.ifCond .lt 33, 3) := by decide +kernel
theorem dX7_guessOf_32 : decode cX7_guessOf 32 = .ok (.iload 4, 2) := by decide +kernel
theorem dX7_guessOf_34 : decode cX7_guessOf 34 = .ok (.iload_n 2, 1) := by decide +kernel
theorem dX7_guessOf_35 : decode cX7_guessOf 35 = .ok (.if_icmp .ge 27, 3) := by decide +kernel
theorem dX7_guessOf_38 : decode cX7_guessOf 38 = .ok (.iload_n 3, 1) := by decide +kernel
theorem dX7_guessOf_39 : decode cX7_guessOf 39 = .ok (.aload_n 0, 1) := by decide +kernel
theorem dX7_guessOf_40 : decode cX7_guessOf 40 = .ok (.getfield 62, 3) := by decide +kernel
theorem dX7_guessOf_43 : decode cX7_guessOf 43 = .ok (.bipush 40, 2) := by decide +kernel
theorem dX7_guessOf_45 : decode cX7_guessOf 45 = .ok (.iload_n 1, 1) := by decide +kernel
theorem dX7_guessOf_46 : decode cX7_guessOf 46 = .ok (.imul, 1) := by decide +kernel
theorem dX7_guessOf_47 : decode cX7_guessOf 47 = .ok (.iload 5, 2) := by decide +kernel
theorem dX7_guessOf_49 : decode cX7_guessOf 49 = .ok (.iadd, 1) := by decide +kernel
theorem dX7_guessOf_50 : decode cX7_guessOf 50 = .ok (.iaload, 1) := by decide +kernel
theorem dX7_guessOf_51 : decode cX7_guessOf 51 = .ok (.iadd, 1) := by decide +kernel
theorem dX7_guessOf_52 : decode cX7_guessOf 52 = .ok (.istore_n 3, 1) := by decide +kernel
theorem dX7_guessOf_53 : decode cX7_guessOf 53 = .ok (.iinc 4 1, 3) := by decide +kernel
theorem dX7_guessOf_56 : decode cX7_guessOf 56 = .ok (.iinc 5 (-1), 3) := by decide +kernel
theorem dX7_guessOf_59 : decode cX7_guessOf 59 = .ok (.goto (-32), 3) := by decide +kernel
theorem dX7_guessOf_62 : decode cX7_guessOf 62 = .ok (.iload_n 3, 1) := by decide +kernel
theorem dX7_guessOf_63 : decode cX7_guessOf 63 = .ok (.iload 4, 2) := by decide +kernel
theorem dX7_guessOf_65 : decode cX7_guessOf 65 = .ok (.idiv, 1) := by decide +kernel
theorem dX7_guessOf_66 : decode cX7_guessOf 66 = .ok (.ireturn, 1) := by decide +kernel
theorem dX7_bestFor_0 : decode cX7_bestFor 0 = .ok (.iconst 0, 1) := by decide +kernel
theorem dX7_bestFor_1 : decode cX7_bestFor 1 = .ok (.istore_n 3, 1) := by decide +kernel
theorem dX7_bestFor_2 : decode cX7_bestFor 2 = .ok (.iconst 1, 1) := by decide +kernel
theorem dX7_bestFor_3 : decode cX7_bestFor 3 = .ok (.istore 4, 2) := by decide +kernel
theorem dX7_bestFor_5 : decode cX7_bestFor 5 = .ok (.iload 4, 2) := by decide +kernel
theorem dX7_bestFor_7 : decode cX7_bestFor 7 = .ok (.aload_n 0, 1) := by decide +kernel
theorem dX7_bestFor_8 : decode cX7_bestFor 8 = .ok (.getfield 7, 3) := by decide +kernel
theorem dX7_bestFor_11 : decode cX7_bestFor 11 = .ok (.iload_n 1, 1) := by decide +kernel
theorem dX7_bestFor_12 : decode cX7_bestFor 12 = .ok (.iaload, 1) := by decide +kernel
theorem dX7_bestFor_13 : decode cX7_bestFor 13 = .ok (.if_icmp .gt 34, 3) := by decide +kernel
theorem dX7_bestFor_16 : decode cX7_bestFor 16 = .ok (.aload_n 0, 1) := by decide +kernel
theorem dX7_bestFor_17 : decode cX7_bestFor 17 = .ok (.iload_n 1, 1) := by decide +kernel
theorem dX7_bestFor_18 : decode cX7_bestFor 18 = .ok (.iload 4, 2) := by decide +kernel
theorem dX7_bestFor_20 : decode cX7_bestFor 20 = .ok (.iload_n 2, 1) := by decide +kernel
theorem dX7_bestFor_21 : decode cX7_bestFor 21 = .ok (.invokevirtual 111, 3) := by decide +kernel
theorem dX7_bestFor_24 : decode cX7_bestFor 24 = .ok (.aload_n 0, 1) := by decide +kernel
theorem dX7_bestFor_25 : decode cX7_bestFor 25 = .ok (.iload_n 1, 1) := by decide +kernel
theorem dX7_bestFor_26 : decode cX7_bestFor 26 = .ok (.iload_n 3, 1) := by decide +kernel
theorem dX7_bestFor_27 : decode cX7_bestFor 27 = .ok (.iload_n 2, 1) := by decide +kernel
theorem dX7_bestFor_28 : decode cX7_bestFor 28 = .ok (.invokevirtual 111, 3) := by decide +kernel
theorem dX7_bestFor_31 : decode cX7_bestFor 31 = .ok (.if_icmp .ge 8, 3) := by decide +kernel
theorem dX7_bestFor_34 : decode cX7_bestFor 34 = .ok (.iload 4, 2) := by decide +kernel
theorem dX7_bestFor_36 : decode cX7_bestFor 36 = .ok (.goto 4, 3) := by decide +kernel
theorem dX7_bestFor_39 : decode cX7_bestFor 39 = .ok (.iload_n 3, 1) := by decide +kernel
theorem dX7_bestFor_40 : decode cX7_bestFor 40 = .ok (.istore_n 3, 1) := by decide +kernel
theorem dX7_bestFor_41 : decode cX7_bestFor 41 = .ok (.iinc 4 1, 3) := by decide +kernel
theorem dX7_bestFor_44 : decode cX7_bestFor 44 = .ok (.goto (-39), 3) := by decide +kernel
theorem dX7_bestFor_47 : decode cX7_bestFor 47 = .ok (.iload_n 3, 1) := by decide +kernel
theorem dX7_bestFor_48 : decode cX7_bestFor 48 = .ok (.ireturn, 1) := by decide +kernel
theorem dX7_costWith_0 : decode cX7_costWith 0 = .ok (.aload_n 0, 1) := by decide +kernel
theorem dX7_costWith_1 : decode cX7_costWith 1 = .ok (.iload_n 1, 1) := by decide +kernel
theorem dX7_costWith_2 : decode cX7_costWith 2 = .ok (.iload_n 2, 1) := by decide +kernel
theorem dX7_costWith_3 : decode cX7_costWith 3 = .ok (.invokevirtual 101, 3) := by decide +kernel
theorem dX7_costWith_6 : decode cX7_costWith 6 = .ok (.aload_n 0, 1) := by decide +kernel
theorem dX7_costWith_7 : decode cX7_costWith 7 = .ok (.getfield 13, 3) := by decide +kernel
theorem dX7_costWith_10 : decode cX7_costWith 10 = .ok (.iconst 4, 1) := by decide +kernel
theorem dX7_costWith_11 : decode cX7_costWith 11 = .ok (.iload_n 1, 1) := by decide +kernel
theorem dX7_costWith_12 : decode cX7_costWith 12 = .ok (.imul, 1) := by decide +kernel
theorem dX7_costWith_13 : decode cX7_costWith 13 = .ok (.iload_n 2, 1) := by decide +kernel
theorem dX7_costWith_14 : decode cX7_costWith 14 = .ok (.iadd, 1) := by decide +kernel
theorem dX7_costWith_15 : decode cX7_costWith 15 = .ok (.iaload, 1) := by decide +kernel
theorem dX7_costWith_16 : decode cX7_costWith 16 = .ok (.iload_n 3, 1) := by decide +kernel
theorem dX7_costWith_17 : decode cX7_costWith 17 = .ok (.imul, 1) := by decide +kernel
theorem dX7_costWith_18 : decode cX7_costWith 18 = .ok (.iadd, 1) := by decide +kernel
theorem dX7_costWith_19 : decode cX7_costWith 19 = .ok (.ireturn, 1) := by decide +kernel
theorem dX7_levelFor_0 : decode cX7_levelFor 0 = .ok (.aload_n 0, 1) := by decide +kernel
theorem dX7_levelFor_1 : decode cX7_levelFor 1 = .ok (.getfield 19, 3) := by decide +kernel
theorem dX7_levelFor_4 : decode cX7_levelFor 4 = .ok (.iload_n 1, 1) := by decide +kernel
theorem dX7_levelFor_5 : decode cX7_levelFor 5 = .ok (.iaload, 1) := by decide +kernel
theorem dX7_levelFor_6 : decode cX7_levelFor 6 = .ok (.tableswitch 70 0 2 #[26, 28, 63], 26) := by decide +kernel
theorem dX7_levelFor_32 : decode cX7_levelFor 32 = .ok (.iconst 0, 1) := by decide +kernel
theorem dX7_levelFor_33 : decode cX7_levelFor 33 = .ok (.ireturn, 1) := by decide +kernel
theorem dX7_levelFor_34 : decode cX7_levelFor 34 = .ok (.iload_n 2, 1) := by decide +kernel
theorem dX7_levelFor_35 : decode cX7_levelFor 35 = .ok (.aload_n 0, 1) := by decide +kernel
theorem dX7_levelFor_36 : decode cX7_levelFor 36 = .ok (.getfield 22, 3) := by decide +kernel
theorem dX7_levelFor_39 : decode cX7_levelFor 39 = .ok (.iload_n 1, 1) := by decide +kernel
theorem dX7_levelFor_40 : decode cX7_levelFor 40 = .ok (.iaload, 1) := by decide +kernel
theorem dX7_levelFor_41 : decode cX7_levelFor 41 = .ok (.idiv, 1) := by decide +kernel
theorem dX7_levelFor_42 : decode cX7_levelFor 42 = .ok (.aload_n 0, 1) := by decide +kernel
theorem dX7_levelFor_43 : decode cX7_levelFor 43 = .ok (.getfield 7, 3) := by decide +kernel
theorem dX7_levelFor_46 : decode cX7_levelFor 46 = .ok (.iload_n 1, 1) := by decide +kernel
theorem dX7_levelFor_47 : decode cX7_levelFor 47 = .ok (.iaload, 1) := by decide +kernel
theorem dX7_levelFor_48 : decode cX7_levelFor 48 = .ok (.if_icmp .ge 14, 3) := by decide +kernel
theorem dX7_levelFor_51 : decode cX7_levelFor 51 = .ok (.iload_n 2, 1) := by decide +kernel
theorem dX7_levelFor_52 : decode cX7_levelFor 52 = .ok (.aload_n 0, 1) := by decide +kernel
theorem dX7_levelFor_53 : decode cX7_levelFor 53 = .ok (.getfield 22, 3) := by decide +kernel
theorem dX7_levelFor_56 : decode cX7_levelFor 56 = .ok (.iload_n 1, 1) := by decide +kernel
theorem dX7_levelFor_57 : decode cX7_levelFor 57 = .ok (.iaload, 1) := by decide +kernel
theorem dX7_levelFor_58 : decode cX7_levelFor 58 = .ok (.idiv, 1) := by decide +kernel
theorem dX7_levelFor_59 : decode cX7_levelFor 59 = .ok (.goto 9, 3) := by decide +kernel
theorem dX7_levelFor_62 : decode cX7_levelFor 62 = .ok (.aload_n 0, 1) := by decide +kernel
theorem dX7_levelFor_63 : decode cX7_levelFor 63 = .ok (.getfield 7, 3) := by decide +kernel
theorem dX7_levelFor_66 : decode cX7_levelFor 66 = .ok (.iload_n 1, 1) := by decide +kernel
theorem dX7_levelFor_67 : decode cX7_levelFor 67 = .ok (.iaload, 1) := by decide +kernel
theorem dX7_levelFor_68 : decode cX7_levelFor 68 = .ok (.ireturn, 1) := by decide +kernel
theorem dX7_levelFor_69 : decode cX7_levelFor 69 = .ok (.aload_n 0, 1) := by decide +kernel
theorem dX7_levelFor_70 : decode cX7_levelFor 70 = .ok (.iload_n 1, 1) := by decide +kernel
theorem dX7_levelFor_71 : decode cX7_levelFor 71 = .ok (.iload_n 2, 1) := by decide +kernel
theorem dX7_levelFor_72 : decode cX7_levelFor 72 = .ok (.invokevirtual 115, 3) := by decide +kernel
theorem dX7_levelFor_75 : decode cX7_levelFor 75 = .ok (.ireturn, 1) := by decide +kernel
theorem dX7_levelFor_76 : decode cX7_levelFor 76 = .ok (.aload_n 0, 1) := by decide +kernel
theorem dX7_levelFor_77 : decode cX7_levelFor 77 = .ok (.getfield 59, 3) := by decide +kernel
theorem dX7_levelFor_80 : decode cX7_levelFor 80 = .ok (.iload_n 1, 1) := by decide +kernel
theorem dX7_levelFor_81 : decode cX7_levelFor 81 = .ok (.iaload, 1) := by decide +kernel
theorem dX7_levelFor_82 : decode cX7_levelFor 82 = .ok (.ifCond .ne 7, 3) := by decide +kernel
theorem dX7_levelFor_85 : decode cX7_levelFor 85 = .ok (.iconst 0, 1) := by decide +kernel
theorem dX7_levelFor_86 : decode cX7_levelFor 86 = .ok (.goto 19, 3) := by decide +kernel
theorem dX7_levelFor_89 : decode cX7_levelFor 89 = .ok (.aload_n 0, 1) := by decide +kernel
theorem dX7_levelFor_90 : decode cX7_levelFor 90 = .ok (.iload_n 1, 1) := by decide +kernel
theorem dX7_levelFor_91 : decode cX7_levelFor 91 = .ok (.aload_n 0, 1) := by decide +kernel
theorem dX7_levelFor_92 : decode cX7_levelFor 92 = .ok (.iload_n 1, 1) := by decide +kernel
theorem dX7_levelFor_93 : decode cX7_levelFor 93 = .ok (.aload_n 0, 1) := by decide +kernel
theorem dX7_levelFor_94 : decode cX7_levelFor 94 = .ok (.getfield 22, 3) := by decide +kernel
theorem dX7_levelFor_97 : decode cX7_levelFor 97 = .ok (.iload_n 1, 1) := by decide +kernel
theorem dX7_levelFor_98 : decode cX7_levelFor 98 = .ok (.iaload, 1) := by decide +kernel
theorem dX7_levelFor_99 : decode cX7_levelFor 99 = .ok (.invokevirtual 118, 3) := by decide +kernel
theorem dX7_levelFor_102 : decode cX7_levelFor 102 = .ok (.invokevirtual 115, 3) := by decide +kernel
theorem dX7_levelFor_105 : decode cX7_levelFor 105 = .ok (.ireturn, 1) := by decide +kernel
theorem dX7_sleeps_0 : decode cX7_sleeps 0 = .ok (.aload_n 0, 1) := by decide +kernel
theorem dX7_sleeps_1 : decode cX7_sleeps 1 = .ok (.getfield 38, 3) := by decide +kernel
theorem dX7_sleeps_4 : decode cX7_sleeps 4 = .ok (.iload_n 1, 1) := by decide +kernel
theorem dX7_sleeps_5 : decode cX7_sleeps 5 = .ok (.iaload, 1) := by decide +kernel
theorem dX7_sleeps_6 : decode cX7_sleeps 6 = .ok (.ifCond .le 16, 3) := by decide +kernel
theorem dX7_sleeps_9 : decode cX7_sleeps 9 = .ok (.aload_n 0, 1) := by decide +kernel
theorem dX7_sleeps_10 : decode cX7_sleeps 10 = .ok (.getfield 41, 3) := by decide +kernel
theorem dX7_sleeps_13 : decode cX7_sleeps 13 = .ok (.iload_n 1, 1) := by decide +kernel
theorem dX7_sleeps_14 : decode cX7_sleeps 14 = .ok (.iaload, 1) := by decide +kernel
theorem dX7_sleeps_15 : decode cX7_sleeps 15 = .ok (.ifCond .le 7, 3) := by decide +kernel
theorem dX7_sleeps_18 : decode cX7_sleeps 18 = .ok (.iconst 1, 1) := by decide +kernel
theorem dX7_sleeps_19 : decode cX7_sleeps 19 = .ok (.goto 4, 3) := by decide +kernel
theorem dX7_sleeps_22 : decode cX7_sleeps 22 = .ok (.iconst 0, 1) := by decide +kernel
theorem dX7_sleeps_23 : decode cX7_sleeps 23 = .ok (.ireturn, 1) := by decide +kernel
theorem dX7_wake_0 : decode cX7_wake 0 = .ok (.aload_n 0, 1) := by decide +kernel
theorem dX7_wake_1 : decode cX7_wake 1 = .ok (.getfield 44, 3) := by decide +kernel
theorem dX7_wake_4 : decode cX7_wake 4 = .ok (.iload_n 1, 1) := by decide +kernel
theorem dX7_wake_5 : decode cX7_wake 5 = .ok (.dup2, 1) := by decide +kernel
theorem dX7_wake_6 : decode cX7_wake 6 = .ok (.iaload, 1) := by decide +kernel
theorem dX7_wake_7 : decode cX7_wake 7 = .ok (.aload_n 0, 1) := by decide +kernel
theorem dX7_wake_8 : decode cX7_wake 8 = .ok (.iload_n 1, 1) := by decide +kernel
theorem dX7_wake_9 : decode cX7_wake 9 = .ok (.aload_n 0, 1) := by decide +kernel
theorem dX7_wake_10 : decode cX7_wake 10 = .ok (.getfield 41, 3) := by decide +kernel
theorem dX7_wake_13 : decode cX7_wake 13 = .ok (.iload_n 1, 1) := by decide +kernel
theorem dX7_wake_14 : decode cX7_wake 14 = .ok (.iaload, 1) := by decide +kernel
theorem dX7_wake_15 : decode cX7_wake 15 = .ok (.invokevirtual 101, 3) := by decide +kernel
theorem dX7_wake_18 : decode cX7_wake 18 = .ok (.iadd, 1) := by decide +kernel
theorem dX7_wake_19 : decode cX7_wake 19 = .ok (.iastore, 1) := by decide +kernel
theorem dX7_wake_20 : decode cX7_wake 20 = .ok (.aload_n 0, 1) := by decide +kernel
theorem dX7_wake_21 : decode cX7_wake 21 = .ok (.getfield 47, 3) := by decide +kernel
theorem dX7_wake_24 : decode cX7_wake 24 = .ok (.iload_n 1, 1) := by decide +kernel
theorem dX7_wake_25 : decode cX7_wake 25 = .ok (.dup2, 1) := by decide +kernel
theorem dX7_wake_26 : decode cX7_wake 26 = .ok (.iaload, 1) := by decide +kernel
theorem dX7_wake_27 : decode cX7_wake 27 = .ok (.iconst 1, 1) := by decide +kernel
theorem dX7_wake_28 : decode cX7_wake 28 = .ok (.iadd, 1) := by decide +kernel
theorem dX7_wake_29 : decode cX7_wake 29 = .ok (.iastore, 1) := by decide +kernel
theorem dX7_wake_30 : decode cX7_wake 30 = .ok (.iconst 0, 1) := by decide +kernel
theorem dX7_wake_31 : decode cX7_wake 31 = .ok (.istore_n 2, 1) := by decide +kernel
theorem dX7_wake_32 : decode cX7_wake 32 = .ok (.iconst 0, 1) := by decide +kernel
theorem dX7_wake_33 : decode cX7_wake 33 = .ok (.istore_n 3, 1) := by decide +kernel
theorem dX7_wake_34 : decode cX7_wake 34 = .ok (.iload_n 3, 1) := by decide +kernel
theorem dX7_wake_35 : decode cX7_wake 35 = .ok (.aload_n 0, 1) := by decide +kernel
theorem dX7_wake_36 : decode cX7_wake 36 = .ok (.getfield 121, 3) := by decide +kernel
theorem dX7_wake_39 : decode cX7_wake 39 = .ok (.if_icmp .ge 54, 3) := by decide +kernel
theorem dX7_wake_42 : decode cX7_wake 42 = .ok (.aload_n 0, 1) := by decide +kernel
theorem dX7_wake_43 : decode cX7_wake 43 = .ok (.getfield 28, 3) := by decide +kernel
theorem dX7_wake_46 : decode cX7_wake 46 = .ok (.aload_n 0, 1) := by decide +kernel
theorem dX7_wake_47 : decode cX7_wake 47 = .ok (.getfield 68, 3) := by decide +kernel
theorem dX7_wake_50 : decode cX7_wake 50 = .ok (.iload_n 3, 1) := by decide +kernel
theorem dX7_wake_51 : decode cX7_wake 51 = .ok (.iaload, 1) := by decide +kernel
theorem dX7_wake_52 : decode cX7_wake 52 = .ok (.iaload, 1) := by decide +kernel
theorem dX7_wake_53 : decode cX7_wake 53 = .ok (.iload_n 1, 1) := by decide +kernel
theorem dX7_wake_54 : decode cX7_wake 54 = .ok (.if_icmp .ne 18, 3) := by decide +kernel
theorem dX7_wake_57 : decode cX7_wake 57 = .ok (.aload_n 0, 1) := by decide +kernel
theorem dX7_wake_58 : decode cX7_wake 58 = .ok (.getfield 65, 3) := by decide +kernel
theorem dX7_wake_61 : decode cX7_wake 61 = .ok (.aload_n 0, 1) := by decide +kernel
theorem dX7_wake_62 : decode cX7_wake 62 = .ok (.getfield 68, 3) := by decide +kernel
theorem dX7_wake_65 : decode cX7_wake 65 = .ok (.iload_n 3, 1) := by decide +kernel
theorem dX7_wake_66 : decode cX7_wake 66 = .ok (.iaload, 1) := by decide +kernel
theorem dX7_wake_67 : decode cX7_wake 67 = .ok (.iconst 4, 1) := by decide +kernel
theorem dX7_wake_68 : decode cX7_wake 68 = .ok (.iastore, 1) := by decide +kernel
theorem dX7_wake_69 : decode cX7_wake 69 = .ok (.goto 18, 3) := by decide +kernel
theorem dX7_wake_72 : decode cX7_wake 72 = .ok (.aload_n 0, 1) := by decide +kernel
theorem dX7_wake_73 : decode cX7_wake 73 = .ok (.getfield 68, 3) := by decide +kernel
theorem dX7_wake_76 : decode cX7_wake 76 = .ok (.iload_n 2, 1) := by decide +kernel
theorem dX7_wake_77 : decode cX7_wake 77 = .ok (.aload_n 0, 1) := by decide +kernel
theorem dX7_wake_78 : decode cX7_wake 78 = .ok (.getfield 68, 3) := by decide +kernel
theorem dX7_wake_81 : decode cX7_wake 81 = .ok (.iload_n 3, 1) := by decide +kernel
theorem dX7_wake_82 : decode cX7_wake 82 = .ok (.iaload, 1) := by decide +kernel
theorem dX7_wake_83 : decode cX7_wake 83 = .ok (.iastore, 1) := by decide +kernel
theorem dX7_wake_84 : decode cX7_wake 84 = .ok (.iinc 2 1, 3) := by decide +kernel
theorem dX7_wake_87 : decode cX7_wake 87 = .ok (.iinc 3 1, 3) := by decide +kernel
theorem dX7_wake_90 : decode cX7_wake 90 = .ok (.goto (-56), 3) := by decide +kernel
theorem dX7_wake_93 : decode cX7_wake 93 = .ok (.aload_n 0, 1) := by decide +kernel
theorem dX7_wake_94 : decode cX7_wake 94 = .ok (.iload_n 2, 1) := by decide +kernel
theorem dX7_wake_95 : decode cX7_wake 95 = .ok (.putfield 121, 3) := by decide +kernel
theorem dX7_wake_98 : decode cX7_wake 98 = .ok (.return_, 1) := by decide +kernel
theorem dX7_keepBusy_0 : decode cX7_keepBusy 0 = .ok (.aload_n 0, 1) := by decide +kernel
theorem dX7_keepBusy_1 : decode cX7_keepBusy 1 = .ok (.getfield 38, 3) := by decide +kernel
theorem dX7_keepBusy_4 : decode cX7_keepBusy 4 = .ok (.iload_n 1, 1) := by decide +kernel
theorem dX7_keepBusy_5 : decode cX7_keepBusy 5 = .ok (.iaload, 1) := by decide +kernel
theorem dX7_keepBusy_6 : decode cX7_keepBusy 6 = .ok (.ifCond .le 35, 3) := by decide +kernel
theorem dX7_keepBusy_9 : decode cX7_keepBusy 9 = .ok (.aload_n 0, 1) := by decide +kernel
theorem dX7_keepBusy_10 : decode cX7_keepBusy 10 = .ok (.getfield 62, 3) := by decide +kernel
theorem dX7_keepBusy_13 : decode cX7_keepBusy 13 = .ok (.bipush 40, 2) := by decide +kernel
theorem dX7_keepBusy_15 : decode cX7_keepBusy 15 = .ok (.iload_n 1, 1) := by decide +kernel
theorem dX7_keepBusy_16 : decode cX7_keepBusy 16 = .ok (.imul, 1) := by decide +kernel
theorem dX7_keepBusy_17 : decode cX7_keepBusy 17 = .ok (.aload_n 0, 1) := by decide +kernel
theorem dX7_keepBusy_18 : decode cX7_keepBusy 18 = .ok (.getfield 59, 3) := by decide +kernel
theorem dX7_keepBusy_21 : decode cX7_keepBusy 21 = .ok (.iload_n 1, 1) := by decide +kernel
theorem dX7_keepBusy_22 : decode cX7_keepBusy 22 = .ok (.iaload, 1) := by decide +kernel
theorem dX7_keepBusy_23 : decode cX7_keepBusy 23 = .ok (.iadd, 1) := by decide +kernel
theorem dX7_keepBusy_24 : decode cX7_keepBusy 24 = .ok (.aload_n 0, 1) := by decide +kernel
theorem dX7_keepBusy_25 : decode cX7_keepBusy 25 = .ok (.getfield 38, 3) := by decide +kernel
theorem dX7_keepBusy_28 : decode cX7_keepBusy 28 = .ok (.iload_n 1, 1) := by decide +kernel
theorem dX7_keepBusy_29 : decode cX7_keepBusy 29 = .ok (.iaload, 1) := by decide +kernel
theorem dX7_keepBusy_30 : decode cX7_keepBusy 30 = .ok (.iastore, 1) := by decide +kernel
theorem dX7_keepBusy_31 : decode cX7_keepBusy 31 = .ok (.aload_n 0, 1) := by decide +kernel
theorem dX7_keepBusy_32 : decode cX7_keepBusy 32 = .ok (.getfield 59, 3) := by decide +kernel
theorem dX7_keepBusy_35 : decode cX7_keepBusy 35 = .ok (.iload_n 1, 1) := by decide +kernel
theorem dX7_keepBusy_36 : decode cX7_keepBusy 36 = .ok (.dup2, 1) := by decide +kernel
theorem dX7_keepBusy_37 : decode cX7_keepBusy 37 = .ok (.iaload, 1) := by decide +kernel
theorem dX7_keepBusy_38 : decode cX7_keepBusy 38 = .ok (.iconst 1, 1) := by decide +kernel
theorem dX7_keepBusy_39 : decode cX7_keepBusy 39 = .ok (.iadd, 1) := by decide +kernel
theorem dX7_keepBusy_40 : decode cX7_keepBusy 40 = .ok (.iastore, 1) := by decide +kernel
theorem dX7_keepBusy_41 : decode cX7_keepBusy 41 = .ok (.aload_n 0, 1) := by decide +kernel
theorem dX7_keepBusy_42 : decode cX7_keepBusy 42 = .ok (.getfield 38, 3) := by decide +kernel
theorem dX7_keepBusy_45 : decode cX7_keepBusy 45 = .ok (.iload_n 1, 1) := by decide +kernel
theorem dX7_keepBusy_46 : decode cX7_keepBusy 46 = .ok (.iconst 0, 1) := by decide +kernel
theorem dX7_keepBusy_47 : decode cX7_keepBusy 47 = .ok (.iastore, 1) := by decide +kernel
theorem dX7_keepBusy_48 : decode cX7_keepBusy 48 = .ok (.return_, 1) := by decide +kernel
theorem dX7_meet_0 : decode cX7_meet 0 = .ok (.aload_n 0, 1) := by decide +kernel
theorem dX7_meet_1 : decode cX7_meet 1 = .ok (.getfield 28, 3) := by decide +kernel
theorem dX7_meet_4 : decode cX7_meet 4 = .ok (.iload_n 1, 1) := by decide +kernel
theorem dX7_meet_5 : decode cX7_meet 5 = .ok (.iaload, 1) := by decide +kernel
theorem dX7_meet_6 : decode cX7_meet 6 = .ok (.istore_n 2, 1) := by decide +kernel
theorem dX7_meet_7 : decode cX7_meet 7 = .ok (.aload_n 0, 1) := by decide +kernel
theorem dX7_meet_8 : decode cX7_meet 8 = .ok (.iload_n 2, 1) := by decide +kernel
theorem dX7_meet_9 : decode cX7_meet 9 = .ok (.invokevirtual 124, 3) := by decide +kernel
theorem dX7_meet_12 : decode cX7_meet 12 = .ok (.istore_n 3, 1) := by decide +kernel
theorem dX7_meet_13 : decode cX7_meet 13 = .ok (.aload_n 0, 1) := by decide +kernel
theorem dX7_meet_14 : decode cX7_meet 14 = .ok (.getfield 31, 3) := by decide +kernel
theorem dX7_meet_17 : decode cX7_meet 17 = .ok (.iload_n 1, 1) := by decide +kernel
theorem dX7_meet_18 : decode cX7_meet 18 = .ok (.iaload, 1) := by decide +kernel
theorem dX7_meet_19 : decode cX7_meet 19 = .ok (.iconst 1, 1) := by decide +kernel
theorem dX7_meet_20 : decode cX7_meet 20 = .ok (.if_icmp .ne 22, 3) := by decide +kernel
theorem dX7_meet_23 : decode cX7_meet 23 = .ok (.iload_n 3, 1) := by decide +kernel
theorem dX7_meet_24 : decode cX7_meet 24 = .ok (.ifCond .eq 18, 3) := by decide +kernel
theorem dX7_meet_27 : decode cX7_meet 27 = .ok (.aload_n 0, 1) := by decide +kernel
theorem dX7_meet_28 : decode cX7_meet 28 = .ok (.getfield 121, 3) := by decide +kernel
theorem dX7_meet_31 : decode cX7_meet 31 = .ok (.aload_n 0, 1) := by decide +kernel
theorem dX7_meet_32 : decode cX7_meet 32 = .ok (.getfield 108, 3) := by decide +kernel
theorem dX7_meet_35 : decode cX7_meet 35 = .ok (.if_icmp .ge 7, 3) := by decide +kernel
theorem dX7_meet_38 : decode cX7_meet 38 = .ok (.iconst 1, 1) := by decide +kernel
theorem dX7_meet_39 : decode cX7_meet 39 = .ok (.goto 4, 3) := by decide +kernel
theorem dX7_meet_42 : decode cX7_meet 42 = .ok (.iconst 0, 1) := by decide +kernel
theorem dX7_meet_43 : decode cX7_meet 43 = .ok (.istore 4, 2) := by decide +kernel
theorem dX7_meet_45 : decode cX7_meet 45 = .ok (.iload 4, 2) := by decide +kernel
theorem dX7_meet_47 : decode cX7_meet 47 = .ok (.ifCond .eq 69, 3) := by decide +kernel
theorem dX7_meet_50 : decode cX7_meet 50 = .ok (.aload_n 0, 1) := by decide +kernel
theorem dX7_meet_51 : decode cX7_meet 51 = .ok (.getfield 68, 3) := by decide +kernel
theorem dX7_meet_54 : decode cX7_meet 54 = .ok (.aload_n 0, 1) := by decide +kernel
theorem dX7_meet_55 : decode cX7_meet 55 = .ok (.getfield 121, 3) := by decide +kernel
theorem dX7_meet_58 : decode cX7_meet 58 = .ok (.iload_n 1, 1) := by decide +kernel
theorem dX7_meet_59 : decode cX7_meet 59 = .ok (.iastore, 1) := by decide +kernel
theorem dX7_meet_60 : decode cX7_meet 60 = .ok (.aload_n 0, 1) := by decide +kernel
theorem dX7_meet_61 : decode cX7_meet 61 = .ok (.dup, 1) := by decide +kernel
theorem dX7_meet_62 : decode cX7_meet 62 = .ok (.getfield 121, 3) := by decide +kernel
theorem dX7_meet_65 : decode cX7_meet 65 = .ok (.iconst 1, 1) := by decide +kernel
theorem dX7_meet_66 : decode cX7_meet 66 = .ok (.iadd, 1) := by decide +kernel
theorem dX7_meet_67 : decode cX7_meet 67 = .ok (.putfield 121, 3) := by decide +kernel
theorem dX7_meet_70 : decode cX7_meet 70 = .ok (.aload_n 0, 1) := by decide +kernel
theorem dX7_meet_71 : decode cX7_meet 71 = .ok (.aload_n 0, 1) := by decide +kernel
theorem dX7_meet_72 : decode cX7_meet 72 = .ok (.getfield 121, 3) := by decide +kernel
theorem dX7_meet_75 : decode cX7_meet 75 = .ok (.aload_n 0, 1) := by decide +kernel
theorem dX7_meet_76 : decode cX7_meet 76 = .ok (.getfield 127, 3) := by decide +kernel
theorem dX7_meet_79 : decode cX7_meet 79 = .ok (.if_icmp .le 10, 3) := by decide +kernel
theorem dX7_meet_82 : decode cX7_meet 82 = .ok (.aload_n 0, 1) := by decide +kernel
theorem dX7_meet_83 : decode cX7_meet 83 = .ok (.getfield 121, 3) := by decide +kernel
theorem dX7_meet_86 : decode cX7_meet 86 = .ok (.goto 7, 3) := by decide +kernel
theorem dX7_meet_89 : decode cX7_meet 89 = .ok (.aload_n 0, 1) := by decide +kernel
theorem dX7_meet_90 : decode cX7_meet 90 = .ok (.getfield 127, 3) := by decide +kernel
theorem dX7_meet_93 : decode cX7_meet 93 = .ok (.putfield 127, 3) := by decide +kernel
theorem dX7_meet_96 : decode cX7_meet 96 = .ok (.aload_n 0, 1) := by decide +kernel
theorem dX7_meet_97 : decode cX7_meet 97 = .ok (.getfield 56, 3) := by decide +kernel
theorem dX7_meet_100 : decode cX7_meet 100 = .ok (.iload_n 2, 1) := by decide +kernel
theorem dX7_meet_101 : decode cX7_meet 101 = .ok (.dup2, 1) := by decide +kernel
theorem dX7_meet_102 : decode cX7_meet 102 = .ok (.iaload, 1) := by decide +kernel
theorem dX7_meet_103 : decode cX7_meet 103 = .ok (.iconst 1, 1) := by decide +kernel
theorem dX7_meet_104 : decode cX7_meet 104 = .ok (.iadd, 1) := by decide +kernel
theorem dX7_meet_105 : decode cX7_meet 105 = .ok (.iastore, 1) := by decide +kernel
theorem dX7_meet_106 : decode cX7_meet 106 = .ok (.aload_n 0, 1) := by decide +kernel
theorem dX7_meet_107 : decode cX7_meet 107 = .ok (.getfield 65, 3) := by decide +kernel
theorem dX7_meet_110 : decode cX7_meet 110 = .ok (.iload_n 1, 1) := by decide +kernel
end
section
theorem dX7_meet_111 : decode cX7_meet 111 = .ok (.iconst 5, 1) := by decide +kernel
theorem dX7_meet_112 : decode cX7_meet 112 = .ok (.iastore, 1) := by decide +kernel
theorem dX7_meet_113 : decode cX7_meet 113 = .ok (.goto 101, 3) := by decide +kernel
theorem dX7_meet_116 : decode cX7_meet 116 = .ok (.iload_n 3, 1) := by decide +kernel
theorem dX7_meet_117 : decode cX7_meet 117 = .ok (.ifCond .eq 8, 3) := by decide +kernel
theorem dX7_meet_120 : decode cX7_meet 120 = .ok (.aload_n 0, 1) := by decide +kernel
theorem dX7_meet_121 : decode cX7_meet 121 = .ok (.iload_n 2, 1) := by decide +kernel
theorem dX7_meet_122 : decode cX7_meet 122 = .ok (.invokevirtual 130, 3) := by decide +kernel
theorem dX7_meet_125 : decode cX7_meet 125 = .ok (.aload_n 0, 1) := by decide +kernel
theorem dX7_meet_126 : decode cX7_meet 126 = .ok (.getfield 65, 3) := by decide +kernel
theorem dX7_meet_129 : decode cX7_meet 129 = .ok (.iload_n 1, 1) := by decide +kernel
theorem dX7_meet_130 : decode cX7_meet 130 = .ok (.aload_n 0, 1) := by decide +kernel
theorem dX7_meet_131 : decode cX7_meet 131 = .ok (.getfield 31, 3) := by decide +kernel
theorem dX7_meet_134 : decode cX7_meet 134 = .ok (.iload_n 1, 1) := by decide +kernel
theorem dX7_meet_135 : decode cX7_meet 135 = .ok (.iaload, 1) := by decide +kernel
theorem dX7_meet_136 : decode cX7_meet 136 = .ok (.ifCond .ne 15, 3) := by decide +kernel
theorem dX7_meet_139 : decode cX7_meet 139 = .ok (.iload_n 3, 1) := by decide +kernel
theorem dX7_meet_140 : decode cX7_meet 140 = .ok (.ifCond .eq 7, 3) := by decide +kernel
theorem dX7_meet_143 : decode cX7_meet 143 = .ok (.iconst 2, 1) := by decide +kernel
theorem dX7_meet_144 : decode cX7_meet 144 = .ok (.goto 17, 3) := by decide +kernel
theorem dX7_meet_147 : decode cX7_meet 147 = .ok (.iconst 1, 1) := by decide +kernel
theorem dX7_meet_148 : decode cX7_meet 148 = .ok (.goto 13, 3) := by decide +kernel
theorem dX7_meet_151 : decode cX7_meet 151 = .ok (.iload_n 3, 1) := by decide +kernel
theorem dX7_meet_152 : decode cX7_meet 152 = .ok (.ifCond .eq 8, 3) := by decide +kernel
theorem dX7_meet_155 : decode cX7_meet 155 = .ok (.bipush 6, 2) := by decide +kernel
theorem dX7_meet_157 : decode cX7_meet 157 = .ok (.goto 4, 3) := by decide +kernel
theorem dX7_meet_160 : decode cX7_meet 160 = .ok (.iconst 3, 1) := by decide +kernel
theorem dX7_meet_161 : decode cX7_meet 161 = .ok (.iastore, 1) := by decide +kernel
theorem dX7_meet_162 : decode cX7_meet 162 = .ok (.aload_n 0, 1) := by decide +kernel
theorem dX7_meet_163 : decode cX7_meet 163 = .ok (.getfield 50, 3) := by decide +kernel
theorem dX7_meet_166 : decode cX7_meet 166 = .ok (.iload_n 2, 1) := by decide +kernel
theorem dX7_meet_167 : decode cX7_meet 167 = .ok (.dup2, 1) := by decide +kernel
theorem dX7_meet_168 : decode cX7_meet 168 = .ok (.iaload, 1) := by decide +kernel
theorem dX7_meet_169 : decode cX7_meet 169 = .ok (.aload_n 0, 1) := by decide +kernel
theorem dX7_meet_170 : decode cX7_meet 170 = .ok (.getfield 31, 3) := by decide +kernel
theorem dX7_meet_173 : decode cX7_meet 173 = .ok (.iload_n 1, 1) := by decide +kernel
theorem dX7_meet_174 : decode cX7_meet 174 = .ok (.iaload, 1) := by decide +kernel
theorem dX7_meet_175 : decode cX7_meet 175 = .ok (.ifCond .ne 7, 3) := by decide +kernel
theorem dX7_meet_178 : decode cX7_meet 178 = .ok (.iconst 1, 1) := by decide +kernel
theorem dX7_meet_179 : decode cX7_meet 179 = .ok (.goto 4, 3) := by decide +kernel
theorem dX7_meet_182 : decode cX7_meet 182 = .ok (.iconst 0, 1) := by decide +kernel
theorem dX7_meet_183 : decode cX7_meet 183 = .ok (.iadd, 1) := by decide +kernel
theorem dX7_meet_184 : decode cX7_meet 184 = .ok (.iastore, 1) := by decide +kernel
theorem dX7_meet_185 : decode cX7_meet 185 = .ok (.aload_n 0, 1) := by decide +kernel
theorem dX7_meet_186 : decode cX7_meet 186 = .ok (.getfield 53, 3) := by decide +kernel
theorem dX7_meet_189 : decode cX7_meet 189 = .ok (.iload_n 2, 1) := by decide +kernel
theorem dX7_meet_190 : decode cX7_meet 190 = .ok (.dup2, 1) := by decide +kernel
theorem dX7_meet_191 : decode cX7_meet 191 = .ok (.iaload, 1) := by decide +kernel
theorem dX7_meet_192 : decode cX7_meet 192 = .ok (.aload_n 0, 1) := by decide +kernel
theorem dX7_meet_193 : decode cX7_meet 193 = .ok (.getfield 31, 3) := by decide +kernel
theorem dX7_meet_196 : decode cX7_meet 196 = .ok (.iload_n 1, 1) := by decide +kernel
theorem dX7_meet_197 : decode cX7_meet 197 = .ok (.iaload, 1) := by decide +kernel
theorem dX7_meet_198 : decode cX7_meet 198 = .ok (.iconst 1, 1) := by decide +kernel
theorem dX7_meet_199 : decode cX7_meet 199 = .ok (.if_icmp .ne 7, 3) := by decide +kernel
theorem dX7_meet_202 : decode cX7_meet 202 = .ok (.iconst 1, 1) := by decide +kernel
theorem dX7_meet_203 : decode cX7_meet 203 = .ok (.goto 4, 3) := by decide +kernel
theorem dX7_meet_206 : decode cX7_meet 206 = .ok (.iconst 0, 1) := by decide +kernel
theorem dX7_meet_207 : decode cX7_meet 207 = .ok (.iadd, 1) := by decide +kernel
theorem dX7_meet_208 : decode cX7_meet 208 = .ok (.iastore, 1) := by decide +kernel
theorem dX7_meet_209 : decode cX7_meet 209 = .ok (.aload_n 0, 1) := by decide +kernel
theorem dX7_meet_210 : decode cX7_meet 210 = .ok (.iload_n 2, 1) := by decide +kernel
theorem dX7_meet_211 : decode cX7_meet 211 = .ok (.invokevirtual 134, 3) := by decide +kernel
theorem dX7_meet_214 : decode cX7_meet 214 = .ok (.return_, 1) := by decide +kernel
theorem dX7_run_0 : decode cX7_run 0 = .ok (.iconst 0, 1) := by decide +kernel
theorem dX7_run_1 : decode cX7_run 1 = .ok (.istore_n 2, 1) := by decide +kernel
theorem dX7_run_2 : decode cX7_run 2 = .ok (.iload_n 2, 1) := by decide +kernel
theorem dX7_run_3 : decode cX7_run 3 = .ok (.iconst 4, 1) := by decide +kernel
theorem dX7_run_4 : decode cX7_run 4 = .ok (.if_icmp .ge 65, 3) := by decide +kernel
theorem dX7_run_7 : decode cX7_run 7 = .ok (.aload_n 0, 1) := by decide +kernel
theorem dX7_run_8 : decode cX7_run 8 = .ok (.getfield 38, 3) := by decide +kernel
theorem dX7_run_11 : decode cX7_run 11 = .ok (.iload_n 2, 1) := by decide +kernel
theorem dX7_run_12 : decode cX7_run 12 = .ok (.iconst 0, 1) := by decide +kernel
theorem dX7_run_13 : decode cX7_run 13 = .ok (.iastore, 1) := by decide +kernel
theorem dX7_run_14 : decode cX7_run 14 = .ok (.aload_n 0, 1) := by decide +kernel
theorem dX7_run_15 : decode cX7_run 15 = .ok (.getfield 41, 3) := by decide +kernel
theorem dX7_run_18 : decode cX7_run 18 = .ok (.iload_n 2, 1) := by decide +kernel
theorem dX7_run_19 : decode cX7_run 19 = .ok (.iconst 0, 1) := by decide +kernel
theorem dX7_run_20 : decode cX7_run 20 = .ok (.iastore, 1) := by decide +kernel
theorem dX7_run_21 : decode cX7_run 21 = .ok (.aload_n 0, 1) := by decide +kernel
theorem dX7_run_22 : decode cX7_run 22 = .ok (.getfield 44, 3) := by decide +kernel
theorem dX7_run_25 : decode cX7_run 25 = .ok (.iload_n 2, 1) := by decide +kernel
theorem dX7_run_26 : decode cX7_run 26 = .ok (.iconst 0, 1) := by decide +kernel
theorem dX7_run_27 : decode cX7_run 27 = .ok (.iastore, 1) := by decide +kernel
theorem dX7_run_28 : decode cX7_run 28 = .ok (.aload_n 0, 1) := by decide +kernel
theorem dX7_run_29 : decode cX7_run 29 = .ok (.getfield 47, 3) := by decide +kernel
theorem dX7_run_32 : decode cX7_run 32 = .ok (.iload_n 2, 1) := by decide +kernel
theorem dX7_run_33 : decode cX7_run 33 = .ok (.iconst 0, 1) := by decide +kernel
theorem dX7_run_34 : decode cX7_run 34 = .ok (.iastore, 1) := by decide +kernel
theorem dX7_run_35 : decode cX7_run 35 = .ok (.aload_n 0, 1) := by decide +kernel
theorem dX7_run_36 : decode cX7_run 36 = .ok (.getfield 50, 3) := by decide +kernel
theorem dX7_run_39 : decode cX7_run 39 = .ok (.iload_n 2, 1) := by decide +kernel
theorem dX7_run_40 : decode cX7_run 40 = .ok (.iconst 0, 1) := by decide +kernel
theorem dX7_run_41 : decode cX7_run 41 = .ok (.iastore, 1) := by decide +kernel
theorem dX7_run_42 : decode cX7_run 42 = .ok (.aload_n 0, 1) := by decide +kernel
theorem dX7_run_43 : decode cX7_run 43 = .ok (.getfield 53, 3) := by decide +kernel
theorem dX7_run_46 : decode cX7_run 46 = .ok (.iload_n 2, 1) := by decide +kernel
theorem dX7_run_47 : decode cX7_run 47 = .ok (.iconst 0, 1) := by decide +kernel
theorem dX7_run_48 : decode cX7_run 48 = .ok (.iastore, 1) := by decide +kernel
theorem dX7_run_49 : decode cX7_run 49 = .ok (.aload_n 0, 1) := by decide +kernel
theorem dX7_run_50 : decode cX7_run 50 = .ok (.getfield 56, 3) := by decide +kernel
theorem dX7_run_53 : decode cX7_run 53 = .ok (.iload_n 2, 1) := by decide +kernel
theorem dX7_run_54 : decode cX7_run 54 = .ok (.iconst 0, 1) := by decide +kernel
theorem dX7_run_55 : decode cX7_run 55 = .ok (.iastore, 1) := by decide +kernel
theorem dX7_run_56 : decode cX7_run 56 = .ok (.aload_n 0, 1) := by decide +kernel
theorem dX7_run_57 : decode cX7_run 57 = .ok (.getfield 59, 3) := by decide +kernel
theorem dX7_run_60 : decode cX7_run 60 = .ok (.iload_n 2, 1) := by decide +kernel
theorem dX7_run_61 : decode cX7_run 61 = .ok (.iconst 0, 1) := by decide +kernel
theorem dX7_run_62 : decode cX7_run 62 = .ok (.iastore, 1) := by decide +kernel
theorem dX7_run_63 : decode cX7_run 63 = .ok (.iinc 2 1, 3) := by decide +kernel
theorem dX7_run_66 : decode cX7_run 66 = .ok (.goto (-64), 3) := by decide +kernel
theorem dX7_run_69 : decode cX7_run 69 = .ok (.iconst 0, 1) := by decide +kernel
theorem dX7_run_70 : decode cX7_run 70 = .ok (.istore_n 2, 1) := by decide +kernel
theorem dX7_run_71 : decode cX7_run 71 = .ok (.iload_n 2, 1) := by decide +kernel
theorem dX7_run_72 : decode cX7_run 72 = .ok (.aload_n 0, 1) := by decide +kernel
theorem dX7_run_73 : decode cX7_run 73 = .ok (.getfield 94, 3) := by decide +kernel
theorem dX7_run_76 : decode cX7_run 76 = .ok (.if_icmp .ge 16, 3) := by decide +kernel
theorem dX7_run_79 : decode cX7_run 79 = .ok (.aload_n 0, 1) := by decide +kernel
theorem dX7_run_80 : decode cX7_run 80 = .ok (.getfield 65, 3) := by decide +kernel
theorem dX7_run_83 : decode cX7_run 83 = .ok (.iload_n 2, 1) := by decide +kernel
theorem dX7_run_84 : decode cX7_run 84 = .ok (.iconst 0, 1) := by decide +kernel
theorem dX7_run_85 : decode cX7_run 85 = .ok (.iastore, 1) := by decide +kernel
theorem dX7_run_86 : decode cX7_run 86 = .ok (.iinc 2 1, 3) := by decide +kernel
theorem dX7_run_89 : decode cX7_run 89 = .ok (.goto (-18), 3) := by decide +kernel
theorem dX7_run_92 : decode cX7_run 92 = .ok (.aload_n 0, 1) := by decide +kernel
theorem dX7_run_93 : decode cX7_run 93 = .ok (.iconst 0, 1) := by decide +kernel
theorem dX7_run_94 : decode cX7_run 94 = .ok (.putfield 121, 3) := by decide +kernel
theorem dX7_run_97 : decode cX7_run 97 = .ok (.aload_n 0, 1) := by decide +kernel
theorem dX7_run_98 : decode cX7_run 98 = .ok (.iconst 0, 1) := by decide +kernel
theorem dX7_run_99 : decode cX7_run 99 = .ok (.putfield 127, 3) := by decide +kernel
theorem dX7_run_102 : decode cX7_run 102 = .ok (.iconst 0, 1) := by decide +kernel
theorem dX7_run_103 : decode cX7_run 103 = .ok (.istore_n 2, 1) := by decide +kernel
theorem dX7_run_104 : decode cX7_run 104 = .ok (.iload_n 2, 1) := by decide +kernel
theorem dX7_run_105 : decode cX7_run 105 = .ok (.aload_n 0, 1) := by decide +kernel
theorem dX7_run_106 : decode cX7_run 106 = .ok (.getfield 34, 3) := by decide +kernel
theorem dX7_run_109 : decode cX7_run 109 = .ok (.if_icmp .ge 155, 3) := by decide +kernel
theorem dX7_run_112 : decode cX7_run 112 = .ok (.iconst 0, 1) := by decide +kernel
theorem dX7_run_113 : decode cX7_run 113 = .ok (.istore_n 3, 1) := by decide +kernel
theorem dX7_run_114 : decode cX7_run 114 = .ok (.iload_n 3, 1) := by decide +kernel
theorem dX7_run_115 : decode cX7_run 115 = .ok (.aload_n 0, 1) := by decide +kernel
theorem dX7_run_116 : decode cX7_run 116 = .ok (.getfield 94, 3) := by decide +kernel
theorem dX7_run_119 : decode cX7_run 119 = .ok (.if_icmp .ge 24, 3) := by decide +kernel
theorem dX7_run_122 : decode cX7_run 122 = .ok (.aload_n 0, 1) := by decide +kernel
theorem dX7_run_123 : decode cX7_run 123 = .ok (.getfield 25, 3) := by decide +kernel
theorem dX7_run_126 : decode cX7_run 126 = .ok (.iload_n 3, 1) := by decide +kernel
theorem dX7_run_127 : decode cX7_run 127 = .ok (.iaload, 1) := by decide +kernel
theorem dX7_run_128 : decode cX7_run 128 = .ok (.iload_n 2, 1) := by decide +kernel
theorem dX7_run_129 : decode cX7_run 129 = .ok (.if_icmp .ne 8, 3) := by decide +kernel
theorem dX7_run_132 : decode cX7_run 132 = .ok (.aload_n 0, 1) := by decide +kernel
theorem dX7_run_133 : decode cX7_run 133 = .ok (.iload_n 3, 1) := by decide +kernel
theorem dX7_run_134 : decode cX7_run 134 = .ok (.invokevirtual 137, 3) := by decide +kernel
theorem dX7_run_137 : decode cX7_run 137 = .ok (.iinc 3 1, 3) := by decide +kernel
theorem dX7_run_140 : decode cX7_run 140 = .ok (.goto (-26), 3) := by decide +kernel
theorem dX7_run_143 : decode cX7_run 143 = .ok (.iconst 0, 1) := by decide +kernel
theorem dX7_run_144 : decode cX7_run 144 = .ok (.istore_n 3, 1) := by decide +kernel
theorem dX7_run_145 : decode cX7_run 145 = .ok (.iload_n 3, 1) := by decide +kernel
theorem dX7_run_146 : decode cX7_run 146 = .ok (.iconst 4, 1) := by decide +kernel
theorem dX7_run_147 : decode cX7_run 147 = .ok (.if_icmp .ge 111, 3) := by decide +kernel
theorem dX7_run_150 : decode cX7_run 150 = .ok (.aload_n 0, 1) := by decide +kernel
theorem dX7_run_151 : decode cX7_run 151 = .ok (.getfield 41, 3) := by decide +kernel
theorem dX7_run_154 : decode cX7_run 154 = .ok (.iload_n 3, 1) := by decide +kernel
theorem dX7_run_155 : decode cX7_run 155 = .ok (.aload_n 0, 1) := by decide +kernel
theorem dX7_run_156 : decode cX7_run 156 = .ok (.iload_n 3, 1) := by decide +kernel
theorem dX7_run_157 : decode cX7_run 157 = .ok (.aload_n 0, 1) := by decide +kernel
theorem dX7_run_158 : decode cX7_run 158 = .ok (.getfield 38, 3) := by decide +kernel
theorem dX7_run_161 : decode cX7_run 161 = .ok (.iload_n 3, 1) := by decide +kernel
theorem dX7_run_162 : decode cX7_run 162 = .ok (.iaload, 1) := by decide +kernel
theorem dX7_run_163 : decode cX7_run 163 = .ok (.invokevirtual 140, 3) := by decide +kernel
theorem dX7_run_166 : decode cX7_run 166 = .ok (.iastore, 1) := by decide +kernel
theorem dX7_run_167 : decode cX7_run 167 = .ok (.aload_n 0, 1) := by decide +kernel
theorem dX7_run_168 : decode cX7_run 168 = .ok (.getfield 44, 3) := by decide +kernel
theorem dX7_run_171 : decode cX7_run 171 = .ok (.iload_n 3, 1) := by decide +kernel
theorem dX7_run_172 : decode cX7_run 172 = .ok (.dup2, 1) := by decide +kernel
theorem dX7_run_173 : decode cX7_run 173 = .ok (.iaload, 1) := by decide +kernel
theorem dX7_run_174 : decode cX7_run 174 = .ok (.aload_n 0, 1) := by decide +kernel
theorem dX7_run_175 : decode cX7_run 175 = .ok (.getfield 13, 3) := by decide +kernel
theorem dX7_run_178 : decode cX7_run 178 = .ok (.iconst 4, 1) := by decide +kernel
theorem dX7_run_179 : decode cX7_run 179 = .ok (.iload_n 3, 1) := by decide +kernel
theorem dX7_run_180 : decode cX7_run 180 = .ok (.imul, 1) := by decide +kernel
theorem dX7_run_181 : decode cX7_run 181 = .ok (.aload_n 0, 1) := by decide +kernel
theorem dX7_run_182 : decode cX7_run 182 = .ok (.getfield 41, 3) := by decide +kernel
theorem dX7_run_185 : decode cX7_run 185 = .ok (.iload_n 3, 1) := by decide +kernel
theorem dX7_run_186 : decode cX7_run 186 = .ok (.iaload, 1) := by decide +kernel
theorem dX7_run_187 : decode cX7_run 187 = .ok (.iadd, 1) := by decide +kernel
theorem dX7_run_188 : decode cX7_run 188 = .ok (.iaload, 1) := by decide +kernel
theorem dX7_run_189 : decode cX7_run 189 = .ok (.iadd, 1) := by decide +kernel
theorem dX7_run_190 : decode cX7_run 190 = .ok (.iastore, 1) := by decide +kernel
theorem dX7_run_191 : decode cX7_run 191 = .ok (.iload_n 2, 1) := by decide +kernel
theorem dX7_run_192 : decode cX7_run 192 = .ok (.iload_n 1, 1) := by decide +kernel
theorem dX7_run_193 : decode cX7_run 193 = .ok (.if_icmp .ne 49, 3) := by decide +kernel
theorem dX7_run_196 : decode cX7_run 196 = .ok (.aload_n 0, 1) := by decide +kernel
theorem dX7_run_197 : decode cX7_run 197 = .ok (.getfield 71, 3) := by decide +kernel
theorem dX7_run_200 : decode cX7_run 200 = .ok (.iconst 3, 1) := by decide +kernel
theorem dX7_run_201 : decode cX7_run 201 = .ok (.iload_n 3, 1) := by decide +kernel
theorem dX7_run_202 : decode cX7_run 202 = .ok (.imul, 1) := by decide +kernel
theorem dX7_run_203 : decode cX7_run 203 = .ok (.aload_n 0, 1) := by decide +kernel
theorem dX7_run_204 : decode cX7_run 204 = .ok (.getfield 41, 3) := by decide +kernel
theorem dX7_run_207 : decode cX7_run 207 = .ok (.iload_n 3, 1) := by decide +kernel
theorem dX7_run_208 : decode cX7_run 208 = .ok (.iaload, 1) := by decide +kernel
theorem dX7_run_209 : decode cX7_run 209 = .ok (.iastore, 1) := by decide +kernel
theorem dX7_run_210 : decode cX7_run 210 = .ok (.aload_n 0, 1) := by decide +kernel
theorem dX7_run_211 : decode cX7_run 211 = .ok (.getfield 71, 3) := by decide +kernel
theorem dX7_run_214 : decode cX7_run 214 = .ok (.iconst 3, 1) := by decide +kernel
theorem dX7_run_215 : decode cX7_run 215 = .ok (.iload_n 3, 1) := by decide +kernel
theorem dX7_run_216 : decode cX7_run 216 = .ok (.imul, 1) := by decide +kernel
theorem dX7_run_217 : decode cX7_run 217 = .ok (.iconst 1, 1) := by decide +kernel
theorem dX7_run_218 : decode cX7_run 218 = .ok (.iadd, 1) := by decide +kernel
theorem dX7_run_219 : decode cX7_run 219 = .ok (.aload_n 0, 1) := by decide +kernel
theorem dX7_run_220 : decode cX7_run 220 = .ok (.getfield 38, 3) := by decide +kernel
theorem dX7_run_223 : decode cX7_run 223 = .ok (.iload_n 3, 1) := by decide +kernel
theorem dX7_run_224 : decode cX7_run 224 = .ok (.iaload, 1) := by decide +kernel
theorem dX7_run_225 : decode cX7_run 225 = .ok (.iastore, 1) := by decide +kernel
theorem dX7_run_226 : decode cX7_run 226 = .ok (.aload_n 0, 1) := by decide +kernel
theorem dX7_run_227 : decode cX7_run 227 = .ok (.getfield 71, 3) := by decide +kernel
theorem dX7_run_230 : decode cX7_run 230 = .ok (.iconst 3, 1) := by decide +kernel
theorem dX7_run_231 : decode cX7_run 231 = .ok (.iload_n 3, 1) := by decide +kernel
theorem dX7_run_232 : decode cX7_run 232 = .ok (.imul, 1) := by decide +kernel
theorem dX7_run_233 : decode cX7_run 233 = .ok (.iconst 2, 1) := by decide +kernel
theorem dX7_run_234 : decode cX7_run 234 = .ok (.iadd, 1) := by decide +kernel
theorem dX7_run_235 : decode cX7_run 235 = .ok (.aload_n 0, 1) := by decide +kernel
theorem dX7_run_236 : decode cX7_run 236 = .ok (.getfield 44, 3) := by decide +kernel
theorem dX7_run_239 : decode cX7_run 239 = .ok (.iload_n 3, 1) := by decide +kernel
theorem dX7_run_240 : decode cX7_run 240 = .ok (.iaload, 1) := by decide +kernel
theorem dX7_run_241 : decode cX7_run 241 = .ok (.iastore, 1) := by decide +kernel
theorem dX7_run_242 : decode cX7_run 242 = .ok (.aload_n 0, 1) := by decide +kernel
theorem dX7_run_243 : decode cX7_run 243 = .ok (.getfield 38, 3) := by decide +kernel
theorem dX7_run_246 : decode cX7_run 246 = .ok (.iload_n 3, 1) := by decide +kernel
theorem dX7_run_247 : decode cX7_run 247 = .ok (.dup2, 1) := by decide +kernel
theorem dX7_run_248 : decode cX7_run 248 = .ok (.iaload, 1) := by decide +kernel
theorem dX7_run_249 : decode cX7_run 249 = .ok (.iconst 1, 1) := by decide +kernel
theorem dX7_run_250 : decode cX7_run 250 = .ok (.iadd, 1) := by decide +kernel
theorem dX7_run_251 : decode cX7_run 251 = .ok (.iastore, 1) := by decide +kernel
theorem dX7_run_252 : decode cX7_run 252 = .ok (.iinc 3 1, 3) := by decide +kernel
theorem dX7_run_255 : decode cX7_run 255 = .ok (.goto (-110), 3) := by decide +kernel
theorem dX7_run_258 : decode cX7_run 258 = .ok (.iinc 2 1, 3) := by decide +kernel
theorem dX7_run_261 : decode cX7_run 261 = .ok (.goto (-157), 3) := by decide +kernel
theorem dX7_run_264 : decode cX7_run 264 = .ok (.return_, 1) := by decide +kernel
theorem dX7_stayOf_0 : decode cX7_stayOf 0 = .ok (.iconst 0, 1) := by decide +kernel
theorem dX7_stayOf_1 : decode cX7_stayOf 1 = .ok (.istore_n 2, 1) := by decide +kernel
theorem dX7_stayOf_2 : decode cX7_stayOf 2 = .ok (.iconst 0, 1) := by decide +kernel
theorem dX7_stayOf_3 : decode cX7_stayOf 3 = .ok (.istore_n 3, 1) := by decide +kernel
theorem dX7_stayOf_4 : decode cX7_stayOf 4 = .ok (.iload_n 3, 1) := by decide +kernel
theorem dX7_stayOf_5 : decode cX7_stayOf 5 = .ok (.aload_n 0, 1) := by decide +kernel
theorem dX7_stayOf_6 : decode cX7_stayOf 6 = .ok (.getfield 121, 3) := by decide +kernel
theorem dX7_stayOf_9 : decode cX7_stayOf 9 = .ok (.if_icmp .ge 32, 3) := by decide +kernel
theorem dX7_stayOf_12 : decode cX7_stayOf 12 = .ok (.iload_n 2, 1) := by decide +kernel
theorem dX7_stayOf_13 : decode cX7_stayOf 13 = .ok (.aload_n 0, 1) := by decide +kernel
theorem dX7_stayOf_14 : decode cX7_stayOf 14 = .ok (.getfield 28, 3) := by decide +kernel
theorem dX7_stayOf_17 : decode cX7_stayOf 17 = .ok (.aload_n 0, 1) := by decide +kernel
theorem dX7_stayOf_18 : decode cX7_stayOf 18 = .ok (.getfield 68, 3) := by decide +kernel
theorem dX7_stayOf_21 : decode cX7_stayOf 21 = .ok (.iload_n 3, 1) := by decide +kernel
theorem dX7_stayOf_22 : decode cX7_stayOf 22 = .ok (.iaload, 1) := by decide +kernel
theorem dX7_stayOf_23 : decode cX7_stayOf 23 = .ok (.iaload, 1) := by decide +kernel
theorem dX7_stayOf_24 : decode cX7_stayOf 24 = .ok (.iload_n 1, 1) := by decide +kernel
theorem dX7_stayOf_25 : decode cX7_stayOf 25 = .ok (.if_icmp .ne 7, 3) := by decide +kernel
theorem dX7_stayOf_28 : decode cX7_stayOf 28 = .ok (.iconst 1, 1) := by decide +kernel
theorem dX7_stayOf_29 : decode cX7_stayOf 29 = .ok (.goto 4, 3) := by decide +kernel
theorem dX7_stayOf_32 : decode cX7_stayOf 32 = .ok (.iconst 0, 1) := by decide +kernel
theorem dX7_stayOf_33 : decode cX7_stayOf 33 = .ok (.iadd, 1) := by decide +kernel
theorem dX7_stayOf_34 : decode cX7_stayOf 34 = .ok (.istore_n 2, 1) := by decide +kernel
theorem dX7_stayOf_35 : decode cX7_stayOf 35 = .ok (.iinc 3 1, 3) := by decide +kernel
theorem dX7_stayOf_38 : decode cX7_stayOf 38 = .ok (.goto (-34), 3) := by decide +kernel
theorem dX7_stayOf_41 : decode cX7_stayOf 41 = .ok (.iload_n 2, 1) := by decide +kernel
theorem dX7_stayOf_42 : decode cX7_stayOf 42 = .ok (.ireturn, 1) := by decide +kernel
theorem dX7_disk_0 : decode cX7_disk 0 = .ok (.iload_n 1, 1) := by decide +kernel
theorem dX7_disk_1 : decode cX7_disk 1 = .ok (.invokestatic 97, 3) := by decide +kernel
theorem dX7_disk_4 : decode cX7_disk 4 = .ok (.ifCond .ne 5, 3) := by decide +kernel
theorem dX7_disk_7 : decode cX7_disk 7 = .ok (.iconst (-1), 1) := by decide +kernel
theorem dX7_disk_8 : decode cX7_disk 8 = .ok (.ireturn, 1) := by decide +kernel
theorem dX7_disk_9 : decode cX7_disk 9 = .ok (.iload_n 2, 1) := by decide +kernel
theorem dX7_disk_10 : decode cX7_disk 10 = .ok (.iconst 0, 1) := by decide +kernel
theorem dX7_disk_11 : decode cX7_disk 11 = .ok (.bipush 9, 2) := by decide +kernel
theorem dX7_disk_13 : decode cX7_disk 13 = .ok (.invokestatic 90, 3) := by decide +kernel
theorem dX7_disk_16 : decode cX7_disk 16 = .ok (.ifCond .ne 6, 3) := by decide +kernel
theorem dX7_disk_19 : decode cX7_disk 19 = .ok (.bipush (-2), 2) := by decide +kernel
theorem dX7_disk_21 : decode cX7_disk 21 = .ok (.ireturn, 1) := by decide +kernel
theorem dX7_disk_22 : decode cX7_disk 22 = .ok (.aload_n 0, 1) := by decide +kernel
theorem dX7_disk_23 : decode cX7_disk 23 = .ok (.bipush (-6), 2) := by decide +kernel
theorem dX7_disk_25 : decode cX7_disk 25 = .ok (.invokevirtual 143, 3) := by decide +kernel
theorem dX7_disk_28 : decode cX7_disk 28 = .ok (.iload_n 2, 1) := by decide +kernel
theorem dX7_disk_29 : decode cX7_disk 29 = .ok (.tableswitch 113 0 8 #[51, 58, 65, 72, 79, 86, 92, 99, 106], 51) := by decide +kernel
theorem dX7_disk_80 : decode cX7_disk 80 = .ok (.aload_n 0, 1) := by decide +kernel
theorem dX7_disk_81 : decode cX7_disk 81 = .ok (.getfield 44, 3) := by decide +kernel
theorem dX7_disk_84 : decode cX7_disk 84 = .ok (.iload_n 1, 1) := by decide +kernel
theorem dX7_disk_85 : decode cX7_disk 85 = .ok (.iaload, 1) := by decide +kernel
theorem dX7_disk_86 : decode cX7_disk 86 = .ok (.ireturn, 1) := by decide +kernel
theorem dX7_disk_87 : decode cX7_disk 87 = .ok (.aload_n 0, 1) := by decide +kernel
theorem dX7_disk_88 : decode cX7_disk 88 = .ok (.getfield 47, 3) := by decide +kernel
theorem dX7_disk_91 : decode cX7_disk 91 = .ok (.iload_n 1, 1) := by decide +kernel
theorem dX7_disk_92 : decode cX7_disk 92 = .ok (.iaload, 1) := by decide +kernel
theorem dX7_disk_93 : decode cX7_disk 93 = .ok (.ireturn, 1) := by decide +kernel
theorem dX7_disk_94 : decode cX7_disk 94 = .ok (.aload_n 0, 1) := by decide +kernel
theorem dX7_disk_95 : decode cX7_disk 95 = .ok (.getfield 50, 3) := by decide +kernel
theorem dX7_disk_98 : decode cX7_disk 98 = .ok (.iload_n 1, 1) := by decide +kernel
theorem dX7_disk_99 : decode cX7_disk 99 = .ok (.iaload, 1) := by decide +kernel
theorem dX7_disk_100 : decode cX7_disk 100 = .ok (.ireturn, 1) := by decide +kernel
theorem dX7_disk_101 : decode cX7_disk 101 = .ok (.aload_n 0, 1) := by decide +kernel
theorem dX7_disk_102 : decode cX7_disk 102 = .ok (.getfield 53, 3) := by decide +kernel
theorem dX7_disk_105 : decode cX7_disk 105 = .ok (.iload_n 1, 1) := by decide +kernel
theorem dX7_disk_106 : decode cX7_disk 106 = .ok (.iaload, 1) := by decide +kernel
theorem dX7_disk_107 : decode cX7_disk 107 = .ok (.ireturn, 1) := by decide +kernel
theorem dX7_disk_108 : decode cX7_disk 108 = .ok (.aload_n 0, 1) := by decide +kernel
theorem dX7_disk_109 : decode cX7_disk 109 = .ok (.getfield 56, 3) := by decide +kernel
theorem dX7_disk_112 : decode cX7_disk 112 = .ok (.iload_n 1, 1) := by decide +kernel
theorem dX7_disk_113 : decode cX7_disk 113 = .ok (.iaload, 1) := by decide +kernel
theorem dX7_disk_114 : decode cX7_disk 114 = .ok (.ireturn, 1) := by decide +kernel
theorem dX7_disk_115 : decode cX7_disk 115 = .ok (.aload_n 0, 1) := by decide +kernel
theorem dX7_disk_116 : decode cX7_disk 116 = .ok (.iload_n 1, 1) := by decide +kernel
theorem dX7_disk_117 : decode cX7_disk 117 = .ok (.invokevirtual 146, 3) := by decide +kernel
theorem dX7_disk_120 : decode cX7_disk 120 = .ok (.ireturn, 1) := by decide +kernel
theorem dX7_disk_121 : decode cX7_disk 121 = .ok (.aload_n 0, 1) := by decide +kernel
theorem dX7_disk_122 : decode cX7_disk 122 = .ok (.getfield 59, 3) := by decide +kernel
theorem dX7_disk_125 : decode cX7_disk 125 = .ok (.iload_n 1, 1) := by decide +kernel
theorem dX7_disk_126 : decode cX7_disk 126 = .ok (.iaload, 1) := by decide +kernel
theorem dX7_disk_127 : decode cX7_disk 127 = .ok (.ireturn, 1) := by decide +kernel
theorem dX7_disk_128 : decode cX7_disk 128 = .ok (.aload_n 0, 1) := by decide +kernel
theorem dX7_disk_129 : decode cX7_disk 129 = .ok (.getfield 38, 3) := by decide +kernel
theorem dX7_disk_132 : decode cX7_disk 132 = .ok (.iload_n 1, 1) := by decide +kernel
theorem dX7_disk_133 : decode cX7_disk 133 = .ok (.iaload, 1) := by decide +kernel
theorem dX7_disk_134 : decode cX7_disk 134 = .ok (.ireturn, 1) := by decide +kernel
theorem dX7_disk_135 : decode cX7_disk 135 = .ok (.aload_n 0, 1) := by decide +kernel
theorem dX7_disk_136 : decode cX7_disk 136 = .ok (.getfield 41, 3) := by decide +kernel
theorem dX7_disk_139 : decode cX7_disk 139 = .ok (.iload_n 1, 1) := by decide +kernel
theorem dX7_disk_140 : decode cX7_disk 140 = .ok (.iaload, 1) := by decide +kernel
theorem dX7_disk_141 : decode cX7_disk 141 = .ok (.ireturn, 1) := by decide +kernel
theorem dX7_disk_142 : decode cX7_disk 142 = .ok (.aload_n 0, 1) := by decide +kernel
theorem dX7_disk_143 : decode cX7_disk 143 = .ok (.iload_n 1, 1) := by decide +kernel
theorem dX7_disk_144 : decode cX7_disk 144 = .ok (.aload_n 0, 1) := by decide +kernel
theorem dX7_disk_145 : decode cX7_disk 145 = .ok (.getfield 19, 3) := by decide +kernel
theorem dX7_disk_148 : decode cX7_disk 148 = .ok (.iload_n 1, 1) := by decide +kernel
theorem dX7_disk_149 : decode cX7_disk 149 = .ok (.iaload, 1) := by decide +kernel
theorem dX7_disk_150 : decode cX7_disk 150 = .ok (.iconst 3, 1) := by decide +kernel
theorem dX7_disk_151 : decode cX7_disk 151 = .ok (.if_icmp .ne 12, 3) := by decide +kernel
theorem dX7_disk_154 : decode cX7_disk 154 = .ok (.aload_n 0, 1) := by decide +kernel
theorem dX7_disk_155 : decode cX7_disk 155 = .ok (.getfield 22, 3) := by decide +kernel
theorem dX7_disk_158 : decode cX7_disk 158 = .ok (.iload_n 1, 1) := by decide +kernel
theorem dX7_disk_159 : decode cX7_disk 159 = .ok (.iaload, 1) := by decide +kernel
theorem dX7_disk_160 : decode cX7_disk 160 = .ok (.goto 4, 3) := by decide +kernel
theorem dX7_disk_163 : decode cX7_disk 163 = .ok (.iconst 4, 1) := by decide +kernel
theorem dX7_disk_164 : decode cX7_disk 164 = .ok (.invokevirtual 118, 3) := by decide +kernel
theorem dX7_disk_167 : decode cX7_disk 167 = .ok (.ireturn, 1) := by decide +kernel
theorem dX7_at_0 : decode cX7_at 0 = .ok (.iload_n 1, 1) := by decide +kernel
theorem dX7_at_1 : decode cX7_at 1 = .ok (.invokestatic 97, 3) := by decide +kernel
theorem dX7_at_4 : decode cX7_at 4 = .ok (.ifCond .ne 5, 3) := by decide +kernel
theorem dX7_at_7 : decode cX7_at 7 = .ok (.iconst (-1), 1) := by decide +kernel
theorem dX7_at_8 : decode cX7_at 8 = .ok (.ireturn, 1) := by decide +kernel
theorem dX7_at_9 : decode cX7_at 9 = .ok (.iload_n 2, 1) := by decide +kernel
theorem dX7_at_10 : decode cX7_at 10 = .ok (.iconst 0, 1) := by decide +kernel
theorem dX7_at_11 : decode cX7_at 11 = .ok (.aload_n 0, 1) := by decide +kernel
theorem dX7_at_12 : decode cX7_at 12 = .ok (.getfield 34, 3) := by decide +kernel
theorem dX7_at_15 : decode cX7_at 15 = .ok (.iconst 1, 1) := by decide +kernel
theorem dX7_at_16 : decode cX7_at 16 = .ok (.isub, 1) := by decide +kernel
theorem dX7_at_17 : decode cX7_at 17 = .ok (.invokestatic 90, 3) := by decide +kernel
theorem dX7_at_20 : decode cX7_at 20 = .ok (.ifCond .eq 12, 3) := by decide +kernel
theorem dX7_at_23 : decode cX7_at 23 = .ok (.iload_n 3, 1) := by decide +kernel
theorem dX7_at_24 : decode cX7_at 24 = .ok (.iconst 0, 1) := by decide +kernel
theorem dX7_at_25 : decode cX7_at 25 = .ok (.iconst 2, 1) := by decide +kernel
theorem dX7_at_26 : decode cX7_at 26 = .ok (.invokestatic 90, 3) := by decide +kernel
theorem dX7_at_29 : decode cX7_at 29 = .ok (.ifCond .ne 6, 3) := by decide +kernel
theorem dX7_at_32 : decode cX7_at 32 = .ok (.bipush (-2), 2) := by decide +kernel
theorem dX7_at_34 : decode cX7_at 34 = .ok (.ireturn, 1) := by decide +kernel
theorem dX7_at_35 : decode cX7_at 35 = .ok (.aload_n 0, 1) := by decide +kernel
theorem dX7_at_36 : decode cX7_at 36 = .ok (.iload_n 2, 1) := by decide +kernel
theorem dX7_at_37 : decode cX7_at 37 = .ok (.invokevirtual 143, 3) := by decide +kernel
theorem dX7_at_40 : decode cX7_at 40 = .ok (.aload_n 0, 1) := by decide +kernel
theorem dX7_at_41 : decode cX7_at 41 = .ok (.getfield 71, 3) := by decide +kernel
theorem dX7_at_44 : decode cX7_at 44 = .ok (.iconst 3, 1) := by decide +kernel
theorem dX7_at_45 : decode cX7_at 45 = .ok (.iload_n 1, 1) := by decide +kernel
theorem dX7_at_46 : decode cX7_at 46 = .ok (.imul, 1) := by decide +kernel
theorem dX7_at_47 : decode cX7_at 47 = .ok (.iload_n 3, 1) := by decide +kernel
theorem dX7_at_48 : decode cX7_at 48 = .ok (.iadd, 1) := by decide +kernel
theorem dX7_at_49 : decode cX7_at 49 = .ok (.iaload, 1) := by decide +kernel
theorem dX7_at_50 : decode cX7_at 50 = .ok (.ireturn, 1) := by decide +kernel
theorem dX7_fate_0 : decode cX7_fate 0 = .ok (.aload_n 0, 1) := by decide +kernel
theorem dX7_fate_1 : decode cX7_fate 1 = .ok (.iload_n 1, 1) := by decide +kernel
theorem dX7_fate_2 : decode cX7_fate 2 = .ok (.invokevirtual 105, 3) := by decide +kernel
theorem dX7_fate_5 : decode cX7_fate 5 = .ok (.ifCond .ne 5, 3) := by decide +kernel
theorem dX7_fate_8 : decode cX7_fate 8 = .ok (.iconst (-1), 1) := by decide +kernel
theorem dX7_fate_9 : decode cX7_fate 9 = .ok (.ireturn, 1) := by decide +kernel
theorem dX7_fate_10 : decode cX7_fate 10 = .ok (.aload_n 0, 1) := by decide +kernel
theorem dX7_fate_11 : decode cX7_fate 11 = .ok (.bipush (-6), 2) := by decide +kernel
theorem dX7_fate_13 : decode cX7_fate 13 = .ok (.invokevirtual 143, 3) := by decide +kernel
theorem dX7_fate_16 : decode cX7_fate 16 = .ok (.aload_n 0, 1) := by decide +kernel
theorem dX7_fate_17 : decode cX7_fate 17 = .ok (.getfield 65, 3) := by decide +kernel
theorem dX7_fate_20 : decode cX7_fate 20 = .ok (.iload_n 1, 1) := by decide +kernel
theorem dX7_fate_21 : decode cX7_fate 21 = .ok (.iaload, 1) := by decide +kernel
theorem dX7_fate_22 : decode cX7_fate 22 = .ok (.ireturn, 1) := by decide +kernel
theorem dX7_waiting_0 : decode cX7_waiting 0 = .ok (.aload_n 0, 1) := by decide +kernel
theorem dX7_waiting_1 : decode cX7_waiting 1 = .ok (.bipush (-6), 2) := by decide +kernel
theorem dX7_waiting_3 : decode cX7_waiting 3 = .ok (.invokevirtual 143, 3) := by decide +kernel
theorem dX7_waiting_6 : decode cX7_waiting 6 = .ok (.iload_n 1, 1) := by decide +kernel
theorem dX7_waiting_7 : decode cX7_waiting 7 = .ok (.iconst 0, 1) := by decide +kernel
theorem dX7_waiting_8 : decode cX7_waiting 8 = .ok (.aload_n 0, 1) := by decide +kernel
theorem dX7_waiting_9 : decode cX7_waiting 9 = .ok (.getfield 121, 3) := by decide +kernel
theorem dX7_waiting_12 : decode cX7_waiting 12 = .ok (.iconst 1, 1) := by decide +kernel
theorem dX7_waiting_13 : decode cX7_waiting 13 = .ok (.isub, 1) := by decide +kernel
theorem dX7_waiting_14 : decode cX7_waiting 14 = .ok (.invokestatic 90, 3) := by decide +kernel
theorem dX7_waiting_17 : decode cX7_waiting 17 = .ok (.ifCond .eq 12, 3) := by decide +kernel
theorem dX7_waiting_20 : decode cX7_waiting 20 = .ok (.aload_n 0, 1) := by decide +kernel
theorem dX7_waiting_21 : decode cX7_waiting 21 = .ok (.getfield 68, 3) := by decide +kernel
theorem dX7_waiting_24 : decode cX7_waiting 24 = .ok (.iload_n 1, 1) := by decide +kernel
theorem dX7_waiting_25 : decode cX7_waiting 25 = .ok (.iaload, 1) := by decide +kernel
theorem dX7_waiting_26 : decode cX7_waiting 26 = .ok (.goto 5, 3) := by decide +kernel
theorem dX7_waiting_29 : decode cX7_waiting 29 = .ok (.bipush (-6), 2) := by decide +kernel
theorem dX7_waiting_31 : decode cX7_waiting 31 = .ok (.ireturn, 1) := by decide +kernel
theorem dX7_nextAsked_0 : decode cX7_nextAsked 0 = .ok (.aload_n 0, 1) := by decide +kernel
theorem dX7_nextAsked_1 : decode cX7_nextAsked 1 = .ok (.getfield 34, 3) := by decide +kernel
theorem dX7_nextAsked_4 : decode cX7_nextAsked 4 = .ok (.istore_n 3, 1) := by decide +kernel
theorem dX7_nextAsked_5 : decode cX7_nextAsked 5 = .ok (.iconst 0, 1) := by decide +kernel
theorem dX7_nextAsked_6 : decode cX7_nextAsked 6 = .ok (.istore 4, 2) := by decide +kernel
theorem dX7_nextAsked_8 : decode cX7_nextAsked 8 = .ok (.iload 4, 2) := by decide +kernel
theorem dX7_nextAsked_10 : decode cX7_nextAsked 10 = .ok (.aload_n 0, 1) := by decide +kernel
theorem dX7_nextAsked_11 : decode cX7_nextAsked 11 = .ok (.getfield 94, 3) := by decide +kernel
theorem dX7_nextAsked_14 : decode cX7_nextAsked 14 = .ok (.if_icmp .ge 54, 3) := by decide +kernel
theorem dX7_nextAsked_17 : decode cX7_nextAsked 17 = .ok (.aload_n 0, 1) := by decide +kernel
theorem dX7_nextAsked_18 : decode cX7_nextAsked 18 = .ok (.getfield 28, 3) := by decide +kernel
theorem dX7_nextAsked_21 : decode cX7_nextAsked 21 = .ok (.iload 4, 2) := by decide +kernel
theorem dX7_nextAsked_23 : decode cX7_nextAsked 23 = .ok (.iaload, 1) := by decide +kernel
theorem dX7_nextAsked_24 : decode cX7_nextAsked 24 = .ok (.iload_n 1, 1) := by decide +kernel
theorem dX7_nextAsked_25 : decode cX7_nextAsked 25 = .ok (.if_icmp .ne 35, 3) := by decide +kernel
theorem dX7_nextAsked_28 : decode cX7_nextAsked 28 = .ok (.aload_n 0, 1) := by decide +kernel
theorem dX7_nextAsked_29 : decode cX7_nextAsked 29 = .ok (.getfield 25, 3) := by decide +kernel
theorem dX7_nextAsked_32 : decode cX7_nextAsked 32 = .ok (.iload 4, 2) := by decide +kernel
theorem dX7_nextAsked_34 : decode cX7_nextAsked 34 = .ok (.iaload, 1) := by decide +kernel
theorem dX7_nextAsked_35 : decode cX7_nextAsked 35 = .ok (.iload_n 2, 1) := by decide +kernel
theorem dX7_nextAsked_36 : decode cX7_nextAsked 36 = .ok (.if_icmp .le 24, 3) := by decide +kernel
theorem dX7_nextAsked_39 : decode cX7_nextAsked 39 = .ok (.aload_n 0, 1) := by decide +kernel
theorem dX7_nextAsked_40 : decode cX7_nextAsked 40 = .ok (.getfield 25, 3) := by decide +kernel
theorem dX7_nextAsked_43 : decode cX7_nextAsked 43 = .ok (.iload 4, 2) := by decide +kernel
theorem dX7_nextAsked_45 : decode cX7_nextAsked 45 = .ok (.iaload, 1) := by decide +kernel
theorem dX7_nextAsked_46 : decode cX7_nextAsked 46 = .ok (.iload_n 3, 1) := by decide +kernel
theorem dX7_nextAsked_47 : decode cX7_nextAsked 47 = .ok (.if_icmp .ge 13, 3) := by decide +kernel
theorem dX7_nextAsked_50 : decode cX7_nextAsked 50 = .ok (.aload_n 0, 1) := by decide +kernel
theorem dX7_nextAsked_51 : decode cX7_nextAsked 51 = .ok (.getfield 25, 3) := by decide +kernel
theorem dX7_nextAsked_54 : decode cX7_nextAsked 54 = .ok (.iload 4, 2) := by decide +kernel
theorem dX7_nextAsked_56 : decode cX7_nextAsked 56 = .ok (.iaload, 1) := by decide +kernel
theorem dX7_nextAsked_57 : decode cX7_nextAsked 57 = .ok (.goto 4, 3) := by decide +kernel
theorem dX7_nextAsked_60 : decode cX7_nextAsked 60 = .ok (.iload_n 3, 1) := by decide +kernel
theorem dX7_nextAsked_61 : decode cX7_nextAsked 61 = .ok (.istore_n 3, 1) := by decide +kernel
theorem dX7_nextAsked_62 : decode cX7_nextAsked 62 = .ok (.iinc 4 1, 3) := by decide +kernel
theorem dX7_nextAsked_65 : decode cX7_nextAsked 65 = .ok (.goto (-57), 3) := by decide +kernel
theorem dX7_nextAsked_68 : decode cX7_nextAsked 68 = .ok (.iload_n 3, 1) := by decide +kernel
theorem dX7_nextAsked_69 : decode cX7_nextAsked 69 = .ok (.ireturn, 1) := by decide +kernel
theorem dX7_leastOf_0 : decode cX7_leastOf 0 = .ok (.aload_n 0, 1) := by decide +kernel
theorem dX7_leastOf_1 : decode cX7_leastOf 1 = .ok (.iload_n 1, 1) := by decide +kernel
theorem dX7_leastOf_2 : decode cX7_leastOf 2 = .ok (.aload_n 0, 1) := by decide +kernel
theorem dX7_leastOf_3 : decode cX7_leastOf 3 = .ok (.iload_n 1, 1) := by decide +kernel
theorem dX7_leastOf_4 : decode cX7_leastOf 4 = .ok (.iload_n 2, 1) := by decide +kernel
theorem dX7_leastOf_5 : decode cX7_leastOf 5 = .ok (.invokevirtual 115, 3) := by decide +kernel
theorem dX7_leastOf_8 : decode cX7_leastOf 8 = .ok (.iload_n 2, 1) := by decide +kernel
theorem dX7_leastOf_9 : decode cX7_leastOf 9 = .ok (.invokevirtual 111, 3) := by decide +kernel
theorem dX7_leastOf_12 : decode cX7_leastOf 12 = .ok (.ireturn, 1) := by decide +kernel
theorem dX7_leastToEnd_0 : decode cX7_leastToEnd 0 = .ok (.aload_n 0, 1) := by decide +kernel
theorem dX7_leastToEnd_1 : decode cX7_leastToEnd 1 = .ok (.getfield 13, 3) := by decide +kernel
theorem dX7_leastToEnd_4 : decode cX7_leastToEnd 4 = .ok (.iconst 4, 1) := by decide +kernel
theorem dX7_leastToEnd_5 : decode cX7_leastToEnd 5 = .ok (.iload_n 1, 1) := by decide +kernel
theorem dX7_leastToEnd_6 : decode cX7_leastToEnd 6 = .ok (.imul, 1) := by decide +kernel
theorem dX7_leastToEnd_7 : decode cX7_leastToEnd 7 = .ok (.iaload, 1) := by decide +kernel
theorem dX7_leastToEnd_8 : decode cX7_leastToEnd 8 = .ok (.iload_n 2, 1) := by decide +kernel
theorem dX7_leastToEnd_9 : decode cX7_leastToEnd 9 = .ok (.imul, 1) := by decide +kernel
theorem dX7_leastToEnd_10 : decode cX7_leastToEnd 10 = .ok (.istore_n 3, 1) := by decide +kernel
theorem dX7_leastToEnd_11 : decode cX7_leastToEnd 11 = .ok (.iconst 1, 1) := by decide +kernel
theorem dX7_leastToEnd_12 : decode cX7_leastToEnd 12 = .ok (.istore 4, 2) := by decide +kernel
theorem dX7_leastToEnd_14 : decode cX7_leastToEnd 14 = .ok (.iload 4, 2) := by decide +kernel
theorem dX7_leastToEnd_16 : decode cX7_leastToEnd 16 = .ok (.aload_n 0, 1) := by decide +kernel
theorem dX7_leastToEnd_17 : decode cX7_leastToEnd 17 = .ok (.getfield 7, 3) := by decide +kernel
theorem dX7_leastToEnd_20 : decode cX7_leastToEnd 20 = .ok (.iload_n 1, 1) := by decide +kernel
theorem dX7_leastToEnd_21 : decode cX7_leastToEnd 21 = .ok (.iaload, 1) := by decide +kernel
theorem dX7_leastToEnd_22 : decode cX7_leastToEnd 22 = .ok (.if_icmp .gt 44, 3) := by decide +kernel
theorem dX7_leastToEnd_25 : decode cX7_leastToEnd 25 = .ok (.aload_n 0, 1) := by decide +kernel
theorem dX7_leastToEnd_26 : decode cX7_leastToEnd 26 = .ok (.getfield 13, 3) := by decide +kernel
theorem dX7_leastToEnd_29 : decode cX7_leastToEnd 29 = .ok (.iconst 4, 1) := by decide +kernel
theorem dX7_leastToEnd_30 : decode cX7_leastToEnd 30 = .ok (.iload_n 1, 1) := by decide +kernel
theorem dX7_leastToEnd_31 : decode cX7_leastToEnd 31 = .ok (.imul, 1) := by decide +kernel
theorem dX7_leastToEnd_32 : decode cX7_leastToEnd 32 = .ok (.iload 4, 2) := by decide +kernel
theorem dX7_leastToEnd_34 : decode cX7_leastToEnd 34 = .ok (.iadd, 1) := by decide +kernel
theorem dX7_leastToEnd_35 : decode cX7_leastToEnd 35 = .ok (.iaload, 1) := by decide +kernel
theorem dX7_leastToEnd_36 : decode cX7_leastToEnd 36 = .ok (.iload_n 2, 1) := by decide +kernel
theorem dX7_leastToEnd_37 : decode cX7_leastToEnd 37 = .ok (.imul, 1) := by decide +kernel
theorem dX7_leastToEnd_38 : decode cX7_leastToEnd 38 = .ok (.iload_n 3, 1) := by decide +kernel
theorem dX7_leastToEnd_39 : decode cX7_leastToEnd 39 = .ok (.if_icmp .ge 19, 3) := by decide +kernel
theorem dX7_leastToEnd_42 : decode cX7_leastToEnd 42 = .ok (.aload_n 0, 1) := by decide +kernel
theorem dX7_leastToEnd_43 : decode cX7_leastToEnd 43 = .ok (.getfield 13, 3) := by decide +kernel
theorem dX7_leastToEnd_46 : decode cX7_leastToEnd 46 = .ok (.iconst 4, 1) := by decide +kernel
theorem dX7_leastToEnd_47 : decode cX7_leastToEnd 47 = .ok (.iload_n 1, 1) := by decide +kernel
theorem dX7_leastToEnd_48 : decode cX7_leastToEnd 48 = .ok (.imul, 1) := by decide +kernel
theorem dX7_leastToEnd_49 : decode cX7_leastToEnd 49 = .ok (.iload 4, 2) := by decide +kernel
theorem dX7_leastToEnd_51 : decode cX7_leastToEnd 51 = .ok (.iadd, 1) := by decide +kernel
theorem dX7_leastToEnd_52 : decode cX7_leastToEnd 52 = .ok (.iaload, 1) := by decide +kernel
theorem dX7_leastToEnd_53 : decode cX7_leastToEnd 53 = .ok (.iload_n 2, 1) := by decide +kernel
theorem dX7_leastToEnd_54 : decode cX7_leastToEnd 54 = .ok (.imul, 1) := by decide +kernel
theorem dX7_leastToEnd_55 : decode cX7_leastToEnd 55 = .ok (.goto 4, 3) := by decide +kernel
theorem dX7_leastToEnd_58 : decode cX7_leastToEnd 58 = .ok (.iload_n 3, 1) := by decide +kernel
theorem dX7_leastToEnd_59 : decode cX7_leastToEnd 59 = .ok (.istore_n 3, 1) := by decide +kernel
theorem dX7_leastToEnd_60 : decode cX7_leastToEnd 60 = .ok (.iinc 4 1, 3) := by decide +kernel
theorem dX7_leastToEnd_63 : decode cX7_leastToEnd 63 = .ok (.goto (-49), 3) := by decide +kernel
theorem dX7_leastToEnd_66 : decode cX7_leastToEnd 66 = .ok (.iload_n 3, 1) := by decide +kernel
theorem dX7_leastToEnd_67 : decode cX7_leastToEnd 67 = .ok (.ireturn, 1) := by decide +kernel
theorem dX7_layGaps_0 : decode cX7_layGaps 0 = .ok (.aload_n 0, 1) := by decide +kernel
theorem dX7_layGaps_1 : decode cX7_layGaps 1 = .ok (.iconst 0, 1) := by decide +kernel
theorem dX7_layGaps_2 : decode cX7_layGaps 2 = .ok (.putfield 150, 3) := by decide +kernel
theorem dX7_layGaps_5 : decode cX7_layGaps 5 = .ok (.iconst 0, 1) := by decide +kernel
theorem dX7_layGaps_6 : decode cX7_layGaps 6 = .ok (.istore_n 2, 1) := by decide +kernel
theorem dX7_layGaps_7 : decode cX7_layGaps 7 = .ok (.iload_n 2, 1) := by decide +kernel
theorem dX7_layGaps_8 : decode cX7_layGaps 8 = .ok (.aload_n 0, 1) := by decide +kernel
theorem dX7_layGaps_9 : decode cX7_layGaps 9 = .ok (.getfield 34, 3) := by decide +kernel
theorem dX7_layGaps_12 : decode cX7_layGaps 12 = .ok (.if_icmp .ge 51, 3) := by decide +kernel
theorem dX7_layGaps_15 : decode cX7_layGaps 15 = .ok (.aload_n 0, 1) := by decide +kernel
theorem dX7_layGaps_16 : decode cX7_layGaps 16 = .ok (.getfield 74, 3) := by decide +kernel
theorem dX7_layGaps_19 : decode cX7_layGaps 19 = .ok (.aload_n 0, 1) := by decide +kernel
theorem dX7_layGaps_20 : decode cX7_layGaps 20 = .ok (.getfield 150, 3) := by decide +kernel
theorem dX7_layGaps_23 : decode cX7_layGaps 23 = .ok (.iload_n 2, 1) := by decide +kernel
theorem dX7_layGaps_24 : decode cX7_layGaps 24 = .ok (.iastore, 1) := by decide +kernel
theorem dX7_layGaps_25 : decode cX7_layGaps 25 = .ok (.aload_n 0, 1) := by decide +kernel
theorem dX7_layGaps_26 : decode cX7_layGaps 26 = .ok (.getfield 77, 3) := by decide +kernel
theorem dX7_layGaps_29 : decode cX7_layGaps 29 = .ok (.aload_n 0, 1) := by decide +kernel
theorem dX7_layGaps_30 : decode cX7_layGaps 30 = .ok (.getfield 150, 3) := by decide +kernel
theorem dX7_layGaps_33 : decode cX7_layGaps 33 = .ok (.aload_n 0, 1) := by decide +kernel
theorem dX7_layGaps_34 : decode cX7_layGaps 34 = .ok (.iload_n 1, 1) := by decide +kernel
theorem dX7_layGaps_35 : decode cX7_layGaps 35 = .ok (.iload_n 2, 1) := by decide +kernel
theorem dX7_layGaps_36 : decode cX7_layGaps 36 = .ok (.invokevirtual 153, 3) := by decide +kernel
theorem dX7_layGaps_39 : decode cX7_layGaps 39 = .ok (.iastore, 1) := by decide +kernel
theorem dX7_layGaps_40 : decode cX7_layGaps 40 = .ok (.aload_n 0, 1) := by decide +kernel
theorem dX7_layGaps_41 : decode cX7_layGaps 41 = .ok (.getfield 77, 3) := by decide +kernel
theorem dX7_layGaps_44 : decode cX7_layGaps 44 = .ok (.aload_n 0, 1) := by decide +kernel
theorem dX7_layGaps_45 : decode cX7_layGaps 45 = .ok (.getfield 150, 3) := by decide +kernel
theorem dX7_layGaps_48 : decode cX7_layGaps 48 = .ok (.iaload, 1) := by decide +kernel
theorem dX7_layGaps_49 : decode cX7_layGaps 49 = .ok (.istore_n 2, 1) := by decide +kernel
theorem dX7_layGaps_50 : decode cX7_layGaps 50 = .ok (.aload_n 0, 1) := by decide +kernel
theorem dX7_layGaps_51 : decode cX7_layGaps 51 = .ok (.dup, 1) := by decide +kernel
theorem dX7_layGaps_52 : decode cX7_layGaps 52 = .ok (.getfield 150, 3) := by decide +kernel
theorem dX7_layGaps_55 : decode cX7_layGaps 55 = .ok (.iconst 1, 1) := by decide +kernel
theorem dX7_layGaps_56 : decode cX7_layGaps 56 = .ok (.iadd, 1) := by decide +kernel
theorem dX7_layGaps_57 : decode cX7_layGaps 57 = .ok (.putfield 150, 3) := by decide +kernel
theorem dX7_layGaps_60 : decode cX7_layGaps 60 = .ok (.goto (-53), 3) := by decide +kernel
theorem dX7_layGaps_63 : decode cX7_layGaps 63 = .ok (.return_, 1) := by decide +kernel
theorem dX7_least_0 : decode cX7_least 0 = .ok (.iload_n 1, 1) := by decide +kernel
theorem dX7_least_1 : decode cX7_least 1 = .ok (.invokestatic 97, 3) := by decide +kernel
theorem dX7_least_4 : decode cX7_least 4 = .ok (.ifCond .ne 5, 3) := by decide +kernel
theorem dX7_least_7 : decode cX7_least 7 = .ok (.iconst (-1), 1) := by decide +kernel
theorem dX7_least_8 : decode cX7_least 8 = .ok (.ireturn, 1) := by decide +kernel
theorem dX7_least_9 : decode cX7_least 9 = .ok (.iload_n 2, 1) := by decide +kernel
theorem dX7_least_10 : decode cX7_least 10 = .ok (.iconst 0, 1) := by decide +kernel
theorem dX7_least_11 : decode cX7_least 11 = .ok (.iconst 2, 1) := by decide +kernel
theorem dX7_least_12 : decode cX7_least 12 = .ok (.invokestatic 90, 3) := by decide +kernel
theorem dX7_least_15 : decode cX7_least 15 = .ok (.ifCond .ne 6, 3) := by decide +kernel
theorem dX7_least_18 : decode cX7_least 18 = .ok (.bipush (-2), 2) := by decide +kernel
theorem dX7_least_20 : decode cX7_least 20 = .ok (.ireturn, 1) := by decide +kernel
theorem dX7_least_21 : decode cX7_least 21 = .ok (.aload_n 0, 1) := by decide +kernel
theorem dX7_least_22 : decode cX7_least 22 = .ok (.iload_n 1, 1) := by decide +kernel
theorem dX7_least_23 : decode cX7_least 23 = .ok (.invokevirtual 156, 3) := by decide +kernel
theorem dX7_least_26 : decode cX7_least 26 = .ok (.iconst 0, 1) := by decide +kernel
theorem dX7_least_27 : decode cX7_least 27 = .ok (.istore_n 3, 1) := by decide +kernel
theorem dX7_least_28 : decode cX7_least 28 = .ok (.iconst 0, 1) := by decide +kernel
theorem dX7_least_29 : decode cX7_least 29 = .ok (.istore 4, 2) := by decide +kernel
theorem dX7_least_31 : decode cX7_least 31 = .ok (.iconst 0, 1) := by decide +kernel
theorem dX7_least_32 : decode cX7_least 32 = .ok (.istore 5, 2) := by decide +kernel
theorem dX7_least_34 : decode cX7_least 34 = .ok (.iload 5, 2) := by decide +kernel
theorem dX7_least_36 : decode cX7_least 36 = .ok (.aload_n 0, 1) := by decide +kernel
theorem dX7_least_37 : decode cX7_least 37 = .ok (.getfield 150, 3) := by decide +kernel
theorem dX7_least_40 : decode cX7_least 40 = .ok (.if_icmp .ge 87, 3) := by decide +kernel
theorem dX7_least_43 : decode cX7_least 43 = .ok (.aload_n 0, 1) := by decide +kernel
theorem dX7_least_44 : decode cX7_least 44 = .ok (.getfield 77, 3) := by decide +kernel
theorem dX7_least_47 : decode cX7_least 47 = .ok (.iload 5, 2) := by decide +kernel
theorem dX7_least_49 : decode cX7_least 49 = .ok (.iaload, 1) := by decide +kernel
theorem dX7_least_50 : decode cX7_least 50 = .ok (.aload_n 0, 1) := by decide +kernel
theorem dX7_least_51 : decode cX7_least 51 = .ok (.getfield 74, 3) := by decide +kernel
theorem dX7_least_54 : decode cX7_least 54 = .ok (.iload 5, 2) := by decide +kernel
theorem dX7_least_56 : decode cX7_least 56 = .ok (.iaload, 1) := by decide +kernel
theorem dX7_least_57 : decode cX7_least 57 = .ok (.isub, 1) := by decide +kernel
theorem dX7_least_58 : decode cX7_least 58 = .ok (.istore 6, 2) := by decide +kernel
theorem dX7_least_60 : decode cX7_least 60 = .ok (.iload 5, 2) := by decide +kernel
theorem dX7_least_62 : decode cX7_least 62 = .ok (.aload_n 0, 1) := by decide +kernel
theorem dX7_least_63 : decode cX7_least 63 = .ok (.getfield 150, 3) := by decide +kernel
theorem dX7_least_66 : decode cX7_least 66 = .ok (.iconst 1, 1) := by decide +kernel
theorem dX7_least_67 : decode cX7_least 67 = .ok (.isub, 1) := by decide +kernel
theorem dX7_least_68 : decode cX7_least 68 = .ok (.if_icmp .ne 13, 3) := by decide +kernel
theorem dX7_least_71 : decode cX7_least 71 = .ok (.aload_n 0, 1) := by decide +kernel
theorem dX7_least_72 : decode cX7_least 72 = .ok (.iload_n 1, 1) := by decide +kernel
theorem dX7_least_73 : decode cX7_least 73 = .ok (.iload 6, 2) := by decide +kernel
theorem dX7_least_75 : decode cX7_least 75 = .ok (.invokevirtual 159, 3) := by decide +kernel
theorem dX7_least_78 : decode cX7_least 78 = .ok (.goto 10, 3) := by decide +kernel
theorem dX7_least_81 : decode cX7_least 81 = .ok (.aload_n 0, 1) := by decide +kernel
theorem dX7_least_82 : decode cX7_least 82 = .ok (.iload_n 1, 1) := by decide +kernel
theorem dX7_least_83 : decode cX7_least 83 = .ok (.iload 6, 2) := by decide +kernel
theorem dX7_least_85 : decode cX7_least 85 = .ok (.invokevirtual 162, 3) := by decide +kernel
theorem dX7_least_88 : decode cX7_least 88 = .ok (.istore 7, 2) := by decide +kernel
theorem dX7_least_90 : decode cX7_least 90 = .ok (.iload_n 3, 1) := by decide +kernel
theorem dX7_least_91 : decode cX7_least 91 = .ok (.iload 7, 2) := by decide +kernel
theorem dX7_least_93 : decode cX7_least 93 = .ok (.iadd, 1) := by decide +kernel
theorem dX7_least_94 : decode cX7_least 94 = .ok (.istore_n 3, 1) := by decide +kernel
theorem dX7_least_95 : decode cX7_least 95 = .ok (.iload 4, 2) := by decide +kernel
theorem dX7_least_97 : decode cX7_least 97 = .ok (.iload 7, 2) := by decide +kernel
theorem dX7_least_99 : decode cX7_least 99 = .ok (.aload_n 0, 1) := by decide +kernel
theorem dX7_least_100 : decode cX7_least 100 = .ok (.getfield 13, 3) := by decide +kernel
theorem dX7_least_103 : decode cX7_least 103 = .ok (.iconst 4, 1) := by decide +kernel
theorem dX7_least_104 : decode cX7_least 104 = .ok (.iload_n 1, 1) := by decide +kernel
theorem dX7_least_105 : decode cX7_least 105 = .ok (.imul, 1) := by decide +kernel
theorem dX7_least_106 : decode cX7_least 106 = .ok (.iaload, 1) := by decide +kernel
theorem dX7_least_107 : decode cX7_least 107 = .ok (.iload 6, 2) := by decide +kernel
theorem dX7_least_109 : decode cX7_least 109 = .ok (.imul, 1) := by decide +kernel
theorem dX7_least_110 : decode cX7_least 110 = .ok (.if_icmp .ge 7, 3) := by decide +kernel
theorem dX7_least_113 : decode cX7_least 113 = .ok (.iconst 1, 1) := by decide +kernel
theorem dX7_least_114 : decode cX7_least 114 = .ok (.goto 4, 3) := by decide +kernel
theorem dX7_least_117 : decode cX7_least 117 = .ok (.iconst 0, 1) := by decide +kernel
theorem dX7_least_118 : decode cX7_least 118 = .ok (.iadd, 1) := by decide +kernel
theorem dX7_least_119 : decode cX7_least 119 = .ok (.istore 4, 2) := by decide +kernel
theorem dX7_least_121 : decode cX7_least 121 = .ok (.iinc 5 1, 3) := by decide +kernel
theorem dX7_least_124 : decode cX7_least 124 = .ok (.goto (-90), 3) := by decide +kernel
theorem dX7_least_127 : decode cX7_least 127 = .ok (.iload_n 2, 1) := by decide +kernel
theorem dX7_least_128 : decode cX7_least 128 = .ok (.ifCond .ne 7, 3) := by decide +kernel
theorem dX7_least_131 : decode cX7_least 131 = .ok (.iload_n 3, 1) := by decide +kernel
theorem dX7_least_132 : decode cX7_least 132 = .ok (.goto 17, 3) := by decide +kernel
theorem dX7_least_135 : decode cX7_least 135 = .ok (.iload_n 2, 1) := by decide +kernel
theorem dX7_least_136 : decode cX7_least 136 = .ok (.iconst 1, 1) := by decide +kernel
theorem dX7_least_137 : decode cX7_least 137 = .ok (.if_icmp .ne 10, 3) := by decide +kernel
theorem dX7_least_140 : decode cX7_least 140 = .ok (.aload_n 0, 1) := by decide +kernel
theorem dX7_least_141 : decode cX7_least 141 = .ok (.getfield 150, 3) := by decide +kernel
theorem dX7_least_144 : decode cX7_least 144 = .ok (.goto 5, 3) := by decide +kernel
theorem dX7_least_147 : decode cX7_least 147 = .ok (.iload 4, 2) := by decide +kernel
theorem dX7_least_149 : decode cX7_least 149 = .ok (.ireturn, 1) := by decide +kernel
theorem dX7_dearest_0 : decode cX7_dearest 0 = .ok (.bipush (-6), 2) := by decide +kernel
theorem dX7_dearest_2 : decode cX7_dearest 2 = .ok (.istore 4, 2) := by decide +kernel
theorem dX7_dearest_4 : decode cX7_dearest 4 = .ok (.iconst 0, 1) := by decide +kernel
theorem dX7_dearest_5 : decode cX7_dearest 5 = .ok (.istore 5, 2) := by decide +kernel
theorem dX7_dearest_7 : decode cX7_dearest 7 = .ok (.iconst 0, 1) := by decide +kernel
theorem dX7_dearest_8 : decode cX7_dearest 8 = .ok (.istore 6, 2) := by decide +kernel
theorem dX7_dearest_10 : decode cX7_dearest 10 = .ok (.iload 6, 2) := by decide +kernel
theorem dX7_dearest_12 : decode cX7_dearest 12 = .ok (.aload_n 0, 1) := by decide +kernel
theorem dX7_dearest_13 : decode cX7_dearest 13 = .ok (.getfield 150, 3) := by decide +kernel
theorem dX7_dearest_16 : decode cX7_dearest 16 = .ok (.iconst 1, 1) := by decide +kernel
theorem dX7_dearest_17 : decode cX7_dearest 17 = .ok (.isub, 1) := by decide +kernel
theorem dX7_dearest_18 : decode cX7_dearest 18 = .ok (.if_icmp .ge 85, 3) := by decide +kernel
theorem dX7_dearest_21 : decode cX7_dearest 21 = .ok (.aload_n 0, 1) := by decide +kernel
theorem dX7_dearest_22 : decode cX7_dearest 22 = .ok (.getfield 77, 3) := by decide +kernel
theorem dX7_dearest_25 : decode cX7_dearest 25 = .ok (.iload 6, 2) := by decide +kernel
theorem dX7_dearest_27 : decode cX7_dearest 27 = .ok (.iaload, 1) := by decide +kernel
theorem dX7_dearest_28 : decode cX7_dearest 28 = .ok (.aload_n 0, 1) := by decide +kernel
theorem dX7_dearest_29 : decode cX7_dearest 29 = .ok (.getfield 74, 3) := by decide +kernel
theorem dX7_dearest_32 : decode cX7_dearest 32 = .ok (.iload 6, 2) := by decide +kernel
theorem dX7_dearest_34 : decode cX7_dearest 34 = .ok (.iaload, 1) := by decide +kernel
theorem dX7_dearest_35 : decode cX7_dearest 35 = .ok (.isub, 1) := by decide +kernel
theorem dX7_dearest_36 : decode cX7_dearest 36 = .ok (.istore 7, 2) := by decide +kernel
theorem dX7_dearest_38 : decode cX7_dearest 38 = .ok (.aload_n 0, 1) := by decide +kernel
theorem dX7_dearest_39 : decode cX7_dearest 39 = .ok (.getfield 13, 3) := by decide +kernel
theorem dX7_dearest_42 : decode cX7_dearest 42 = .ok (.iconst 4, 1) := by decide +kernel
theorem dX7_dearest_43 : decode cX7_dearest 43 = .ok (.iload_n 1, 1) := by decide +kernel
theorem dX7_dearest_44 : decode cX7_dearest 44 = .ok (.imul, 1) := by decide +kernel
theorem dX7_dearest_45 : decode cX7_dearest 45 = .ok (.iaload, 1) := by decide +kernel
theorem dX7_dearest_46 : decode cX7_dearest 46 = .ok (.iload 7, 2) := by decide +kernel
theorem dX7_dearest_48 : decode cX7_dearest 48 = .ok (.imul, 1) := by decide +kernel
theorem dX7_dearest_49 : decode cX7_dearest 49 = .ok (.aload_n 0, 1) := by decide +kernel
theorem dX7_dearest_50 : decode cX7_dearest 50 = .ok (.iload_n 1, 1) := by decide +kernel
theorem dX7_dearest_51 : decode cX7_dearest 51 = .ok (.iload 7, 2) := by decide +kernel
theorem dX7_dearest_53 : decode cX7_dearest 53 = .ok (.invokevirtual 162, 3) := by decide +kernel
theorem dX7_dearest_56 : decode cX7_dearest 56 = .ok (.isub, 1) := by decide +kernel
theorem dX7_dearest_57 : decode cX7_dearest 57 = .ok (.istore 8, 2) := by decide +kernel
theorem dX7_dearest_59 : decode cX7_dearest 59 = .ok (.aload_n 0, 1) := by decide +kernel
theorem dX7_dearest_60 : decode cX7_dearest 60 = .ok (.getfield 80, 3) := by decide +kernel
theorem dX7_dearest_63 : decode cX7_dearest 63 = .ok (.iload 6, 2) := by decide +kernel
theorem dX7_dearest_65 : decode cX7_dearest 65 = .ok (.baload, 1) := by decide +kernel
theorem dX7_dearest_66 : decode cX7_dearest 66 = .ok (.ifCond .ne 31, 3) := by decide +kernel
theorem dX7_dearest_69 : decode cX7_dearest 69 = .ok (.aload_n 0, 1) := by decide +kernel
theorem dX7_dearest_70 : decode cX7_dearest 70 = .ok (.getfield 77, 3) := by decide +kernel
theorem dX7_dearest_73 : decode cX7_dearest 73 = .ok (.iload 6, 2) := by decide +kernel
theorem dX7_dearest_75 : decode cX7_dearest 75 = .ok (.iaload, 1) := by decide +kernel
theorem dX7_dearest_76 : decode cX7_dearest 76 = .ok (.iload_n 2, 1) := by decide +kernel
theorem dX7_dearest_77 : decode cX7_dearest 77 = .ok (.idiv, 1) := by decide +kernel
theorem dX7_dearest_78 : decode cX7_dearest 78 = .ok (.iload_n 3, 1) := by decide +kernel
theorem dX7_dearest_79 : decode cX7_dearest 79 = .ok (.if_icmp .ne 18, 3) := by decide +kernel
theorem dX7_dearest_82 : decode cX7_dearest 82 = .ok (.iload 8, 2) := by decide +kernel
theorem dX7_dearest_84 : decode cX7_dearest 84 = .ok (.iload 5, 2) := by decide +kernel
theorem dX7_dearest_86 : decode cX7_dearest 86 = .ok (.if_icmp .le 11, 3) := by decide +kernel
theorem dX7_dearest_89 : decode cX7_dearest 89 = .ok (.iload 6, 2) := by decide +kernel
theorem dX7_dearest_91 : decode cX7_dearest 91 = .ok (.istore 4, 2) := by decide +kernel
theorem dX7_dearest_93 : decode cX7_dearest 93 = .ok (.iload 8, 2) := by decide +kernel
theorem dX7_dearest_95 : decode cX7_dearest 95 = .ok (.istore 5, 2) := by decide +kernel
theorem dX7_dearest_97 : decode cX7_dearest 97 = .ok (.iinc 6 1, 3) := by decide +kernel
theorem dX7_dearest_100 : decode cX7_dearest 100 = .ok (.goto (-90), 3) := by decide +kernel
theorem dX7_dearest_103 : decode cX7_dearest 103 = .ok (.iload 4, 2) := by decide +kernel
theorem dX7_dearest_105 : decode cX7_dearest 105 = .ok (.ireturn, 1) := by decide +kernel
theorem dX7_limited_0 : decode cX7_limited 0 = .ok (.iload_n 1, 1) := by decide +kernel
theorem dX7_limited_1 : decode cX7_limited 1 = .ok (.invokestatic 97, 3) := by decide +kernel
theorem dX7_limited_4 : decode cX7_limited 4 = .ok (.ifCond .ne 5, 3) := by decide +kernel
theorem dX7_limited_7 : decode cX7_limited 7 = .ok (.iconst (-1), 1) := by decide +kernel
theorem dX7_limited_8 : decode cX7_limited 8 = .ok (.ireturn, 1) := by decide +kernel
theorem dX7_limited_9 : decode cX7_limited 9 = .ok (.iload_n 2, 1) := by decide +kernel
theorem dX7_limited_10 : decode cX7_limited 10 = .ok (.iconst 1, 1) := by decide +kernel
theorem dX7_limited_11 : decode cX7_limited 11 = .ok (.sipush 1000, 3) := by decide +kernel
theorem dX7_limited_14 : decode cX7_limited 14 = .ok (.invokestatic 90, 3) := by decide +kernel
theorem dX7_limited_17 : decode cX7_limited 17 = .ok (.ifCond .eq 13, 3) := by decide +kernel
theorem dX7_limited_20 : decode cX7_limited 20 = .ok (.iload_n 3, 1) := by decide +kernel
theorem dX7_limited_21 : decode cX7_limited 21 = .ok (.iconst 0, 1) := by decide +kernel
theorem dX7_limited_22 : decode cX7_limited 22 = .ok (.bipush 40, 2) := by decide +kernel
theorem dX7_limited_24 : decode cX7_limited 24 = .ok (.invokestatic 90, 3) := by decide +kernel
theorem dX7_limited_27 : decode cX7_limited 27 = .ok (.ifCond .ne 6, 3) := by decide +kernel
theorem dX7_limited_30 : decode cX7_limited 30 = .ok (.bipush (-2), 2) := by decide +kernel
theorem dX7_limited_32 : decode cX7_limited 32 = .ok (.ireturn, 1) := by decide +kernel
theorem dX7_limited_33 : decode cX7_limited 33 = .ok (.aload_n 0, 1) := by decide +kernel
theorem dX7_limited_34 : decode cX7_limited 34 = .ok (.iload_n 1, 1) := by decide +kernel
theorem dX7_limited_35 : decode cX7_limited 35 = .ok (.invokevirtual 156, 3) := by decide +kernel
theorem dX7_limited_38 : decode cX7_limited 38 = .ok (.aload_n 0, 1) := by decide +kernel
theorem dX7_limited_39 : decode cX7_limited 39 = .ok (.iload_n 1, 1) := by decide +kernel
theorem dX7_limited_40 : decode cX7_limited 40 = .ok (.aload_n 0, 1) := by decide +kernel
theorem dX7_limited_41 : decode cX7_limited 41 = .ok (.getfield 77, 3) := by decide +kernel
theorem dX7_limited_44 : decode cX7_limited 44 = .ok (.aload_n 0, 1) := by decide +kernel
theorem dX7_limited_45 : decode cX7_limited 45 = .ok (.getfield 150, 3) := by decide +kernel
theorem dX7_limited_48 : decode cX7_limited 48 = .ok (.iconst 1, 1) := by decide +kernel
theorem dX7_limited_49 : decode cX7_limited 49 = .ok (.isub, 1) := by decide +kernel
theorem dX7_limited_50 : decode cX7_limited 50 = .ok (.iaload, 1) := by decide +kernel
theorem dX7_limited_51 : decode cX7_limited 51 = .ok (.aload_n 0, 1) := by decide +kernel
theorem dX7_limited_52 : decode cX7_limited 52 = .ok (.getfield 74, 3) := by decide +kernel
theorem dX7_limited_55 : decode cX7_limited 55 = .ok (.aload_n 0, 1) := by decide +kernel
theorem dX7_limited_56 : decode cX7_limited 56 = .ok (.getfield 150, 3) := by decide +kernel
theorem dX7_limited_59 : decode cX7_limited 59 = .ok (.iconst 1, 1) := by decide +kernel
theorem dX7_limited_60 : decode cX7_limited 60 = .ok (.isub, 1) := by decide +kernel
theorem dX7_limited_61 : decode cX7_limited 61 = .ok (.iaload, 1) := by decide +kernel
theorem dX7_limited_62 : decode cX7_limited 62 = .ok (.isub, 1) := by decide +kernel
theorem dX7_limited_63 : decode cX7_limited 63 = .ok (.invokevirtual 159, 3) := by decide +kernel
theorem dX7_limited_66 : decode cX7_limited 66 = .ok (.istore 4, 2) := by decide +kernel
theorem dX7_limited_68 : decode cX7_limited 68 = .ok (.iconst 0, 1) := by decide +kernel
theorem dX7_limited_69 : decode cX7_limited 69 = .ok (.istore 5, 2) := by decide +kernel
theorem dX7_limited_71 : decode cX7_limited 71 = .ok (.iload 5, 2) := by decide +kernel
theorem dX7_limited_73 : decode cX7_limited 73 = .ok (.aload_n 0, 1) := by decide +kernel
theorem dX7_limited_74 : decode cX7_limited 74 = .ok (.getfield 150, 3) := by decide +kernel
theorem dX7_limited_77 : decode cX7_limited 77 = .ok (.iconst 1, 1) := by decide +kernel
theorem dX7_limited_78 : decode cX7_limited 78 = .ok (.isub, 1) := by decide +kernel
theorem dX7_limited_79 : decode cX7_limited 79 = .ok (.if_icmp .ge 46, 3) := by decide +kernel
theorem dX7_limited_82 : decode cX7_limited 82 = .ok (.iload 4, 2) := by decide +kernel
theorem dX7_limited_84 : decode cX7_limited 84 = .ok (.aload_n 0, 1) := by decide +kernel
theorem dX7_limited_85 : decode cX7_limited 85 = .ok (.getfield 13, 3) := by decide +kernel
theorem dX7_limited_88 : decode cX7_limited 88 = .ok (.iconst 4, 1) := by decide +kernel
theorem dX7_limited_89 : decode cX7_limited 89 = .ok (.iload_n 1, 1) := by decide +kernel
theorem dX7_limited_90 : decode cX7_limited 90 = .ok (.imul, 1) := by decide +kernel
theorem dX7_limited_91 : decode cX7_limited 91 = .ok (.iaload, 1) := by decide +kernel
theorem dX7_limited_92 : decode cX7_limited 92 = .ok (.aload_n 0, 1) := by decide +kernel
theorem dX7_limited_93 : decode cX7_limited 93 = .ok (.getfield 77, 3) := by decide +kernel
theorem dX7_limited_96 : decode cX7_limited 96 = .ok (.iload 5, 2) := by decide +kernel
theorem dX7_limited_98 : decode cX7_limited 98 = .ok (.iaload, 1) := by decide +kernel
theorem dX7_limited_99 : decode cX7_limited 99 = .ok (.aload_n 0, 1) := by decide +kernel
theorem dX7_limited_100 : decode cX7_limited 100 = .ok (.getfield 74, 3) := by decide +kernel
theorem dX7_limited_103 : decode cX7_limited 103 = .ok (.iload 5, 2) := by decide +kernel
theorem dX7_limited_105 : decode cX7_limited 105 = .ok (.iaload, 1) := by decide +kernel
theorem dX7_limited_106 : decode cX7_limited 106 = .ok (.isub, 1) := by decide +kernel
theorem dX7_limited_107 : decode cX7_limited 107 = .ok (.imul, 1) := by decide +kernel
theorem dX7_limited_108 : decode cX7_limited 108 = .ok (.iadd, 1) := by decide +kernel
theorem dX7_limited_109 : decode cX7_limited 109 = .ok (.istore 4, 2) := by decide +kernel
theorem dX7_limited_111 : decode cX7_limited 111 = .ok (.aload_n 0, 1) := by decide +kernel
theorem dX7_limited_112 : decode cX7_limited 112 = .ok (.getfield 80, 3) := by decide +kernel
theorem dX7_limited_115 : decode cX7_limited 115 = .ok (.iload 5, 2) := by decide +kernel
theorem dX7_limited_117 : decode cX7_limited 117 = .ok (.iconst 0, 1) := by decide +kernel
theorem dX7_limited_118 : decode cX7_limited 118 = .ok (.bastore, 1) := by decide +kernel
theorem dX7_limited_119 : decode cX7_limited 119 = .ok (.iinc 5 1, 3) := by decide +kernel
theorem dX7_limited_122 : decode cX7_limited 122 = .ok (.goto (-51), 3) := by decide +kernel
theorem dX7_limited_125 : decode cX7_limited 125 = .ok (.iconst 0, 1) := by decide +kernel
theorem dX7_limited_126 : decode cX7_limited 126 = .ok (.istore 5, 2) := by decide +kernel
theorem dX7_limited_128 : decode cX7_limited 128 = .ok (.iload 5, 2) := by decide +kernel
theorem dX7_limited_130 : decode cX7_limited 130 = .ok (.sipush 1000, 3) := by decide +kernel
theorem dX7_limited_133 : decode cX7_limited 133 = .ok (.iload_n 2, 1) := by decide +kernel
theorem dX7_limited_134 : decode cX7_limited 134 = .ok (.idiv, 1) := by decide +kernel
theorem dX7_limited_135 : decode cX7_limited 135 = .ok (.if_icmp .gt 96, 3) := by decide +kernel
theorem dX7_limited_138 : decode cX7_limited 138 = .ok (.iconst 0, 1) := by decide +kernel
theorem dX7_limited_139 : decode cX7_limited 139 = .ok (.istore 6, 2) := by decide +kernel
theorem dX7_limited_141 : decode cX7_limited 141 = .ok (.iconst 0, 1) := by decide +kernel
theorem dX7_limited_142 : decode cX7_limited 142 = .ok (.istore 7, 2) := by decide +kernel
theorem dX7_limited_144 : decode cX7_limited 144 = .ok (.iload 7, 2) := by decide +kernel
theorem dX7_limited_146 : decode cX7_limited 146 = .ok (.iload_n 3, 1) := by decide +kernel
theorem dX7_limited_147 : decode cX7_limited 147 = .ok (.if_icmp .ge 78, 3) := by decide +kernel
theorem dX7_limited_150 : decode cX7_limited 150 = .ok (.iload 6, 2) := by decide +kernel
theorem dX7_limited_152 : decode cX7_limited 152 = .ok (.ifCond .lt 73, 3) := by decide +kernel
theorem dX7_limited_155 : decode cX7_limited 155 = .ok (.aload_n 0, 1) := by decide +kernel
theorem dX7_limited_156 : decode cX7_limited 156 = .ok (.iload_n 1, 1) := by decide +kernel
theorem dX7_limited_157 : decode cX7_limited 157 = .ok (.iload_n 2, 1) := by decide +kernel
theorem dX7_limited_158 : decode cX7_limited 158 = .ok (.iload 5, 2) := by decide +kernel
theorem dX7_limited_160 : decode cX7_limited 160 = .ok (.invokevirtual 165, 3) := by decide +kernel
theorem dX7_limited_163 : decode cX7_limited 163 = .ok (.istore 6, 2) := by decide +kernel
theorem dX7_limited_165 : decode cX7_limited 165 = .ok (.iload 6, 2) := by decide +kernel
theorem dX7_limited_167 : decode cX7_limited 167 = .ok (.ifCond .lt 52, 3) := by decide +kernel
theorem dX7_limited_170 : decode cX7_limited 170 = .ok (.aload_n 0, 1) := by decide +kernel
theorem dX7_limited_171 : decode cX7_limited 171 = .ok (.getfield 77, 3) := by decide +kernel
theorem dX7_limited_174 : decode cX7_limited 174 = .ok (.iload 6, 2) := by decide +kernel
theorem dX7_limited_176 : decode cX7_limited 176 = .ok (.iaload, 1) := by decide +kernel
theorem dX7_limited_177 : decode cX7_limited 177 = .ok (.aload_n 0, 1) := by decide +kernel
theorem dX7_limited_178 : decode cX7_limited 178 = .ok (.getfield 74, 3) := by decide +kernel
theorem dX7_limited_181 : decode cX7_limited 181 = .ok (.iload 6, 2) := by decide +kernel
theorem dX7_limited_183 : decode cX7_limited 183 = .ok (.iaload, 1) := by decide +kernel
theorem dX7_limited_184 : decode cX7_limited 184 = .ok (.isub, 1) := by decide +kernel
theorem dX7_limited_185 : decode cX7_limited 185 = .ok (.istore 8, 2) := by decide +kernel
theorem dX7_limited_187 : decode cX7_limited 187 = .ok (.iload 4, 2) := by decide +kernel
theorem dX7_limited_189 : decode cX7_limited 189 = .ok (.aload_n 0, 1) := by decide +kernel
theorem dX7_limited_190 : decode cX7_limited 190 = .ok (.getfield 13, 3) := by decide +kernel
theorem dX7_limited_193 : decode cX7_limited 193 = .ok (.iconst 4, 1) := by decide +kernel
theorem dX7_limited_194 : decode cX7_limited 194 = .ok (.iload_n 1, 1) := by decide +kernel
theorem dX7_limited_195 : decode cX7_limited 195 = .ok (.imul, 1) := by decide +kernel
theorem dX7_limited_196 : decode cX7_limited 196 = .ok (.iaload, 1) := by decide +kernel
theorem dX7_limited_197 : decode cX7_limited 197 = .ok (.iload 8, 2) := by decide +kernel
theorem dX7_limited_199 : decode cX7_limited 199 = .ok (.imul, 1) := by decide +kernel
theorem dX7_limited_200 : decode cX7_limited 200 = .ok (.aload_n 0, 1) := by decide +kernel
theorem dX7_limited_201 : decode cX7_limited 201 = .ok (.iload_n 1, 1) := by decide +kernel
theorem dX7_limited_202 : decode cX7_limited 202 = .ok (.iload 8, 2) := by decide +kernel
theorem dX7_limited_204 : decode cX7_limited 204 = .ok (.invokevirtual 162, 3) := by decide +kernel
theorem dX7_limited_207 : decode cX7_limited 207 = .ok (.isub, 1) := by decide +kernel
theorem dX7_limited_208 : decode cX7_limited 208 = .ok (.isub, 1) := by decide +kernel
theorem dX7_limited_209 : decode cX7_limited 209 = .ok (.istore 4, 2) := by decide +kernel
theorem dX7_limited_211 : decode cX7_limited 211 = .ok (.aload_n 0, 1) := by decide +kernel
theorem dX7_limited_212 : decode cX7_limited 212 = .ok (.getfield 80, 3) := by decide +kernel
theorem dX7_limited_215 : decode cX7_limited 215 = .ok (.iload 6, 2) := by decide +kernel
theorem dX7_limited_217 : decode cX7_limited 217 = .ok (.iconst 1, 1) := by decide +kernel
theorem dX7_limited_218 : decode cX7_limited 218 = .ok (.bastore, 1) := by decide +kernel
theorem dX7_limited_219 : decode cX7_limited 219 = .ok (.iinc 7 1, 3) := by decide +kernel
theorem dX7_limited_222 : decode cX7_limited 222 = .ok (.goto (-78), 3) := by decide +kernel
theorem dX7_limited_225 : decode cX7_limited 225 = .ok (.iinc 5 1, 3) := by decide +kernel
theorem dX7_limited_228 : decode cX7_limited 228 = .ok (.goto (-100), 3) := by decide +kernel
theorem dX7_limited_231 : decode cX7_limited 231 = .ok (.iload 4, 2) := by decide +kernel
theorem dX7_limited_233 : decode cX7_limited 233 = .ok (.ireturn, 1) := by decide +kernel
theorem dX7_costOf_0 : decode cX7_costOf 0 = .ok (.iconst 0, 1) := by decide +kernel
theorem dX7_costOf_1 : decode cX7_costOf 1 = .ok (.istore_n 3, 1) := by decide +kernel
theorem dX7_costOf_2 : decode cX7_costOf 2 = .ok (.iconst 0, 1) := by decide +kernel
theorem dX7_costOf_3 : decode cX7_costOf 3 = .ok (.istore 4, 2) := by decide +kernel
theorem dX7_costOf_5 : decode cX7_costOf 5 = .ok (.iconst 0, 1) := by decide +kernel
theorem dX7_costOf_6 : decode cX7_costOf 6 = .ok (.istore 5, 2) := by decide +kernel
theorem dX7_costOf_8 : decode cX7_costOf 8 = .ok (.iload 5, 2) := by decide +kernel
theorem dX7_costOf_10 : decode cX7_costOf 10 = .ok (.iload_n 2, 1) := by decide +kernel
theorem dX7_costOf_11 : decode cX7_costOf 11 = .ok (.if_icmp .ge 32, 3) := by decide +kernel
theorem dX7_costOf_14 : decode cX7_costOf 14 = .ok (.aload_n 0, 1) := by decide +kernel
theorem dX7_costOf_15 : decode cX7_costOf 15 = .ok (.iload_n 1, 1) := by decide +kernel
theorem dX7_costOf_16 : decode cX7_costOf 16 = .ok (.iload 5, 2) := by decide +kernel
theorem dX7_costOf_18 : decode cX7_costOf 18 = .ok (.invokevirtual 140, 3) := by decide +kernel
theorem dX7_costOf_21 : decode cX7_costOf 21 = .ok (.istore 4, 2) := by decide +kernel
theorem dX7_costOf_23 : decode cX7_costOf 23 = .ok (.iload_n 3, 1) := by decide +kernel
theorem dX7_costOf_24 : decode cX7_costOf 24 = .ok (.aload_n 0, 1) := by decide +kernel
theorem dX7_costOf_25 : decode cX7_costOf 25 = .ok (.getfield 13, 3) := by decide +kernel
theorem dX7_costOf_28 : decode cX7_costOf 28 = .ok (.iconst 4, 1) := by decide +kernel
theorem dX7_costOf_29 : decode cX7_costOf 29 = .ok (.iload_n 1, 1) := by decide +kernel
theorem dX7_costOf_30 : decode cX7_costOf 30 = .ok (.imul, 1) := by decide +kernel
theorem dX7_costOf_31 : decode cX7_costOf 31 = .ok (.iload 4, 2) := by decide +kernel
theorem dX7_costOf_33 : decode cX7_costOf 33 = .ok (.iadd, 1) := by decide +kernel
theorem dX7_costOf_34 : decode cX7_costOf 34 = .ok (.iaload, 1) := by decide +kernel
theorem dX7_costOf_35 : decode cX7_costOf 35 = .ok (.iadd, 1) := by decide +kernel
theorem dX7_costOf_36 : decode cX7_costOf 36 = .ok (.istore_n 3, 1) := by decide +kernel
theorem dX7_costOf_37 : decode cX7_costOf 37 = .ok (.iinc 5 1, 3) := by decide +kernel
theorem dX7_costOf_40 : decode cX7_costOf 40 = .ok (.goto (-32), 3) := by decide +kernel
theorem dX7_costOf_43 : decode cX7_costOf 43 = .ok (.iload_n 3, 1) := by decide +kernel
theorem dX7_costOf_44 : decode cX7_costOf 44 = .ok (.aload_n 0, 1) := by decide +kernel
theorem dX7_costOf_45 : decode cX7_costOf 45 = .ok (.iload_n 1, 1) := by decide +kernel
theorem dX7_costOf_46 : decode cX7_costOf 46 = .ok (.iload 4, 2) := by decide +kernel
theorem dX7_costOf_48 : decode cX7_costOf 48 = .ok (.invokevirtual 101, 3) := by decide +kernel
theorem dX7_costOf_51 : decode cX7_costOf 51 = .ok (.iadd, 1) := by decide +kernel
theorem dX7_costOf_52 : decode cX7_costOf 52 = .ok (.ireturn, 1) := by decide +kernel
theorem dX7_costs_0 : decode cX7_costs 0 = .ok (.iload_n 1, 1) := by decide +kernel
theorem dX7_costs_1 : decode cX7_costs 1 = .ok (.invokestatic 97, 3) := by decide +kernel
theorem dX7_costs_4 : decode cX7_costs 4 = .ok (.ifCond .ne 5, 3) := by decide +kernel
theorem dX7_costs_7 : decode cX7_costs 7 = .ok (.iconst (-1), 1) := by decide +kernel
theorem dX7_costs_8 : decode cX7_costs 8 = .ok (.ireturn, 1) := by decide +kernel
theorem dX7_costs_9 : decode cX7_costs 9 = .ok (.iload_n 2, 1) := by decide +kernel
theorem dX7_costs_10 : decode cX7_costs 10 = .ok (.iconst 1, 1) := by decide +kernel
theorem dX7_costs_11 : decode cX7_costs 11 = .ok (.sipush 1000, 3) := by decide +kernel
theorem dX7_costs_14 : decode cX7_costs 14 = .ok (.invokestatic 90, 3) := by decide +kernel
theorem dX7_costs_17 : decode cX7_costs 17 = .ok (.ifCond .ne 6, 3) := by decide +kernel
theorem dX7_costs_20 : decode cX7_costs 20 = .ok (.bipush (-2), 2) := by decide +kernel
theorem dX7_costs_22 : decode cX7_costs 22 = .ok (.ireturn, 1) := by decide +kernel
theorem dX7_costs_23 : decode cX7_costs 23 = .ok (.aload_n 0, 1) := by decide +kernel
theorem dX7_costs_24 : decode cX7_costs 24 = .ok (.getfield 19, 3) := by decide +kernel
theorem dX7_costs_27 : decode cX7_costs 27 = .ok (.iload_n 1, 1) := by decide +kernel
theorem dX7_costs_28 : decode cX7_costs 28 = .ok (.iaload, 1) := by decide +kernel
theorem dX7_costs_29 : decode cX7_costs 29 = .ok (.iconst 3, 1) := by decide +kernel
theorem dX7_costs_30 : decode cX7_costs 30 = .ok (.if_icmp .ne 8, 3) := by decide +kernel
theorem dX7_costs_33 : decode cX7_costs 33 = .ok (.bipush (-3), 2) := by decide +kernel
theorem dX7_costs_35 : decode cX7_costs 35 = .ok (.goto 9, 3) := by decide +kernel
theorem dX7_costs_38 : decode cX7_costs 38 = .ok (.aload_n 0, 1) := by decide +kernel
theorem dX7_costs_39 : decode cX7_costs 39 = .ok (.iload_n 1, 1) := by decide +kernel
theorem dX7_costs_40 : decode cX7_costs 40 = .ok (.iload_n 2, 1) := by decide +kernel
theorem dX7_costs_41 : decode cX7_costs 41 = .ok (.invokevirtual 168, 3) := by decide +kernel
theorem dX7_costs_44 : decode cX7_costs 44 = .ok (.ireturn, 1) := by decide +kernel
theorem dX7_common_0 : decode cX7_common 0 = .ok (.iload_n 0, 1) := by decide +kernel
theorem dX7_common_1 : decode cX7_common 1 = .ok (.istore_n 2, 1) := by decide +kernel
theorem dX7_common_2 : decode cX7_common 2 = .ok (.iload_n 1, 1) := by decide +kernel
theorem dX7_common_3 : decode cX7_common 3 = .ok (.istore_n 3, 1) := by decide +kernel
theorem dX7_common_4 : decode cX7_common 4 = .ok (.iconst 0, 1) := by decide +kernel
theorem dX7_common_5 : decode cX7_common 5 = .ok (.istore 4, 2) := by decide +kernel
theorem dX7_common_7 : decode cX7_common 7 = .ok (.iload 4, 2) := by decide +kernel
theorem dX7_common_9 : decode cX7_common 9 = .ok (.bipush 100, 2) := by decide +kernel
theorem dX7_common_11 : decode cX7_common 11 = .ok (.if_icmp .ge 23, 3) := by decide +kernel
theorem dX7_common_14 : decode cX7_common 14 = .ok (.iload_n 3, 1) := by decide +kernel
theorem dX7_common_15 : decode cX7_common 15 = .ok (.ifCond .eq 19, 3) := by decide +kernel
theorem dX7_common_18 : decode cX7_common 18 = .ok (.iload_n 2, 1) := by decide +kernel
theorem dX7_common_19 : decode cX7_common 19 = .ok (.iload_n 3, 1) := by decide +kernel
theorem dX7_common_20 : decode cX7_common 20 = .ok (.irem, 1) := by decide +kernel
theorem dX7_common_21 : decode cX7_common 21 = .ok (.istore 5, 2) := by decide +kernel
theorem dX7_common_23 : decode cX7_common 23 = .ok (.iload_n 3, 1) := by decide +kernel
theorem dX7_common_24 : decode cX7_common 24 = .ok (.istore_n 2, 1) := by decide +kernel
theorem dX7_common_25 : decode cX7_common 25 = .ok (.iload 5, 2) := by decide +kernel
theorem dX7_common_27 : decode cX7_common 27 = .ok (.istore_n 3, 1) := by decide +kernel
theorem dX7_common_28 : decode cX7_common 28 = .ok (.iinc 4 1, 3) := by decide +kernel
theorem dX7_common_31 : decode cX7_common 31 = .ok (.goto (-24), 3) := by decide +kernel
theorem dX7_common_34 : decode cX7_common 34 = .ok (.iload_n 2, 1) := by decide +kernel
theorem dX7_common_35 : decode cX7_common 35 = .ok (.ireturn, 1) := by decide +kernel
theorem dX7_part_0 : decode cX7_part 0 = .ok (.iload_n 0, 1) := by decide +kernel
theorem dX7_part_1 : decode cX7_part 1 = .ok (.iload_n 1, 1) := by decide +kernel
theorem dX7_part_2 : decode cX7_part 2 = .ok (.invokestatic 171, 3) := by decide +kernel
theorem dX7_part_5 : decode cX7_part 5 = .ok (.istore_n 3, 1) := by decide +kernel
end
section
theorem dX7_part_6 : decode cX7_part 6 = .ok (.iload_n 2, 1) := by decide +kernel
theorem dX7_part_7 : decode cX7_part 7 = .ok (.ifCond .ne 9, 3) := by decide +kernel
theorem dX7_part_10 : decode cX7_part 10 = .ok (.iload_n 0, 1) := by decide +kernel
theorem dX7_part_11 : decode cX7_part 11 = .ok (.iload_n 3, 1) := by decide +kernel
theorem dX7_part_12 : decode cX7_part 12 = .ok (.idiv, 1) := by decide +kernel
theorem dX7_part_13 : decode cX7_part 13 = .ok (.goto 6, 3) := by decide +kernel
theorem dX7_part_16 : decode cX7_part 16 = .ok (.iload_n 1, 1) := by decide +kernel
theorem dX7_part_17 : decode cX7_part 17 = .ok (.iload_n 3, 1) := by decide +kernel
theorem dX7_part_18 : decode cX7_part 18 = .ok (.idiv, 1) := by decide +kernel
theorem dX7_part_19 : decode cX7_part 19 = .ok (.ireturn, 1) := by decide +kernel
theorem dX7_worst_0 : decode cX7_worst 0 = .ok (.iload_n 1, 1) := by decide +kernel
theorem dX7_worst_1 : decode cX7_worst 1 = .ok (.invokestatic 97, 3) := by decide +kernel
theorem dX7_worst_4 : decode cX7_worst 4 = .ok (.ifCond .ne 5, 3) := by decide +kernel
theorem dX7_worst_7 : decode cX7_worst 7 = .ok (.iconst (-1), 1) := by decide +kernel
theorem dX7_worst_8 : decode cX7_worst 8 = .ok (.ireturn, 1) := by decide +kernel
theorem dX7_worst_9 : decode cX7_worst 9 = .ok (.iload_n 2, 1) := by decide +kernel
theorem dX7_worst_10 : decode cX7_worst 10 = .ok (.iconst 1, 1) := by decide +kernel
theorem dX7_worst_11 : decode cX7_worst 11 = .ok (.sipush 1000, 3) := by decide +kernel
theorem dX7_worst_14 : decode cX7_worst 14 = .ok (.invokestatic 90, 3) := by decide +kernel
theorem dX7_worst_17 : decode cX7_worst 17 = .ok (.ifCond .eq 12, 3) := by decide +kernel
theorem dX7_worst_20 : decode cX7_worst 20 = .ok (.iload_n 3, 1) := by decide +kernel
theorem dX7_worst_21 : decode cX7_worst 21 = .ok (.iconst 0, 1) := by decide +kernel
theorem dX7_worst_22 : decode cX7_worst 22 = .ok (.iconst 2, 1) := by decide +kernel
theorem dX7_worst_23 : decode cX7_worst 23 = .ok (.invokestatic 90, 3) := by decide +kernel
theorem dX7_worst_26 : decode cX7_worst 26 = .ok (.ifCond .ne 6, 3) := by decide +kernel
theorem dX7_worst_29 : decode cX7_worst 29 = .ok (.bipush (-2), 2) := by decide +kernel
theorem dX7_worst_31 : decode cX7_worst 31 = .ok (.ireturn, 1) := by decide +kernel
theorem dX7_worst_32 : decode cX7_worst 32 = .ok (.aload_n 0, 1) := by decide +kernel
theorem dX7_worst_33 : decode cX7_worst 33 = .ok (.getfield 19, 3) := by decide +kernel
theorem dX7_worst_36 : decode cX7_worst 36 = .ok (.iload_n 1, 1) := by decide +kernel
theorem dX7_worst_37 : decode cX7_worst 37 = .ok (.iaload, 1) := by decide +kernel
theorem dX7_worst_38 : decode cX7_worst 38 = .ok (.iconst 3, 1) := by decide +kernel
theorem dX7_worst_39 : decode cX7_worst 39 = .ok (.if_icmp .ne 6, 3) := by decide +kernel
theorem dX7_worst_42 : decode cX7_worst 42 = .ok (.bipush (-3), 2) := by decide +kernel
theorem dX7_worst_44 : decode cX7_worst 44 = .ok (.ireturn, 1) := by decide +kernel
theorem dX7_worst_45 : decode cX7_worst 45 = .ok (.iconst 0, 1) := by decide +kernel
theorem dX7_worst_46 : decode cX7_worst 46 = .ok (.istore 4, 2) := by decide +kernel
theorem dX7_worst_48 : decode cX7_worst 48 = .ok (.iconst 0, 1) := by decide +kernel
theorem dX7_worst_49 : decode cX7_worst 49 = .ok (.istore 5, 2) := by decide +kernel
theorem dX7_worst_51 : decode cX7_worst 51 = .ok (.iconst 1, 1) := by decide +kernel
theorem dX7_worst_52 : decode cX7_worst 52 = .ok (.istore 6, 2) := by decide +kernel
theorem dX7_worst_54 : decode cX7_worst 54 = .ok (.iconst 0, 1) := by decide +kernel
theorem dX7_worst_55 : decode cX7_worst 55 = .ok (.istore 7, 2) := by decide +kernel
theorem dX7_worst_57 : decode cX7_worst 57 = .ok (.iconst 1, 1) := by decide +kernel
theorem dX7_worst_58 : decode cX7_worst 58 = .ok (.istore 8, 2) := by decide +kernel
theorem dX7_worst_60 : decode cX7_worst 60 = .ok (.iload 8, 2) := by decide +kernel
theorem dX7_worst_62 : decode cX7_worst 62 = .ok (.iload_n 2, 1) := by decide +kernel
theorem dX7_worst_63 : decode cX7_worst 63 = .ok (.if_icmp .gt 92, 3) := by decide +kernel
theorem dX7_worst_66 : decode cX7_worst 66 = .ok (.aload_n 0, 1) := by decide +kernel
theorem dX7_worst_67 : decode cX7_worst 67 = .ok (.iload_n 1, 1) := by decide +kernel
theorem dX7_worst_68 : decode cX7_worst 68 = .ok (.iload 8, 2) := by decide +kernel
theorem dX7_worst_70 : decode cX7_worst 70 = .ok (.iconst 1, 1) := by decide +kernel
theorem dX7_worst_71 : decode cX7_worst 71 = .ok (.isub, 1) := by decide +kernel
theorem dX7_worst_72 : decode cX7_worst 72 = .ok (.invokevirtual 140, 3) := by decide +kernel
theorem dX7_worst_75 : decode cX7_worst 75 = .ok (.istore 9, 2) := by decide +kernel
theorem dX7_worst_77 : decode cX7_worst 77 = .ok (.iload 7, 2) := by decide +kernel
theorem dX7_worst_79 : decode cX7_worst 79 = .ok (.aload_n 0, 1) := by decide +kernel
theorem dX7_worst_80 : decode cX7_worst 80 = .ok (.getfield 13, 3) := by decide +kernel
theorem dX7_worst_83 : decode cX7_worst 83 = .ok (.iconst 4, 1) := by decide +kernel
theorem dX7_worst_84 : decode cX7_worst 84 = .ok (.iload_n 1, 1) := by decide +kernel
theorem dX7_worst_85 : decode cX7_worst 85 = .ok (.imul, 1) := by decide +kernel
theorem dX7_worst_86 : decode cX7_worst 86 = .ok (.iload 9, 2) := by decide +kernel
theorem dX7_worst_88 : decode cX7_worst 88 = .ok (.iadd, 1) := by decide +kernel
theorem dX7_worst_89 : decode cX7_worst 89 = .ok (.iaload, 1) := by decide +kernel
theorem dX7_worst_90 : decode cX7_worst 90 = .ok (.iadd, 1) := by decide +kernel
theorem dX7_worst_91 : decode cX7_worst 91 = .ok (.istore 7, 2) := by decide +kernel
theorem dX7_worst_93 : decode cX7_worst 93 = .ok (.iload 7, 2) := by decide +kernel
theorem dX7_worst_95 : decode cX7_worst 95 = .ok (.aload_n 0, 1) := by decide +kernel
theorem dX7_worst_96 : decode cX7_worst 96 = .ok (.iload_n 1, 1) := by decide +kernel
theorem dX7_worst_97 : decode cX7_worst 97 = .ok (.iload 9, 2) := by decide +kernel
theorem dX7_worst_99 : decode cX7_worst 99 = .ok (.invokevirtual 101, 3) := by decide +kernel
theorem dX7_worst_102 : decode cX7_worst 102 = .ok (.iadd, 1) := by decide +kernel
theorem dX7_worst_103 : decode cX7_worst 103 = .ok (.istore 10, 2) := by decide +kernel
theorem dX7_worst_105 : decode cX7_worst 105 = .ok (.aload_n 0, 1) := by decide +kernel
theorem dX7_worst_106 : decode cX7_worst 106 = .ok (.iload_n 1, 1) := by decide +kernel
theorem dX7_worst_107 : decode cX7_worst 107 = .ok (.iload 8, 2) := by decide +kernel
theorem dX7_worst_109 : decode cX7_worst 109 = .ok (.invokevirtual 162, 3) := by decide +kernel
theorem dX7_worst_112 : decode cX7_worst 112 = .ok (.istore 11, 2) := by decide +kernel
theorem dX7_worst_114 : decode cX7_worst 114 = .ok (.iload 4, 2) := by decide +kernel
theorem dX7_worst_116 : decode cX7_worst 116 = .ok (.ifCond .eq 21, 3) := by decide +kernel
theorem dX7_worst_119 : decode cX7_worst 119 = .ok (.iload 10, 2) := by decide +kernel
theorem dX7_worst_121 : decode cX7_worst 121 = .ok (.i2l, 1) := by decide +kernel
theorem dX7_worst_122 : decode cX7_worst 122 = .ok (.iload 6, 2) := by decide +kernel
theorem dX7_worst_124 : decode cX7_worst 124 = .ok (.i2l, 1) := by decide +kernel
theorem dX7_worst_125 : decode cX7_worst 125 = .ok (.lmul, 1) := by decide +kernel
theorem dX7_worst_126 : decode cX7_worst 126 = .ok (.iload 5, 2) := by decide +kernel
theorem dX7_worst_128 : decode cX7_worst 128 = .ok (.i2l, 1) := by decide +kernel
theorem dX7_worst_129 : decode cX7_worst 129 = .ok (.iload 11, 2) := by decide +kernel
theorem dX7_worst_131 : decode cX7_worst 131 = .ok (.i2l, 1) := by decide +kernel
theorem dX7_worst_132 : decode cX7_worst 132 = .ok (.lmul, 1) := by decide +kernel
theorem dX7_worst_133 : decode cX7_worst 133 = .ok (.lcmp, 1) := by decide +kernel
theorem dX7_worst_134 : decode cX7_worst 134 = .ok (.ifCond .le 15, 3) := by decide +kernel
theorem dX7_worst_137 : decode cX7_worst 137 = .ok (.iload 8, 2) := by decide +kernel
theorem dX7_worst_139 : decode cX7_worst 139 = .ok (.istore 4, 2) := by decide +kernel
theorem dX7_worst_141 : decode cX7_worst 141 = .ok (.iload 10, 2) := by decide +kernel
theorem dX7_worst_143 : decode cX7_worst 143 = .ok (.istore 5, 2) := by decide +kernel
theorem dX7_worst_145 : decode cX7_worst 145 = .ok (.iload 11, 2) := by decide +kernel
theorem dX7_worst_147 : decode cX7_worst 147 = .ok (.istore 6, 2) := by decide +kernel
theorem dX7_worst_149 : decode cX7_worst 149 = .ok (.iinc 8 1, 3) := by decide +kernel
theorem dX7_worst_152 : decode cX7_worst 152 = .ok (.goto (-92), 3) := by decide +kernel
theorem dX7_worst_155 : decode cX7_worst 155 = .ok (.iload_n 3, 1) := by decide +kernel
theorem dX7_worst_156 : decode cX7_worst 156 = .ok (.iconst 2, 1) := by decide +kernel
theorem dX7_worst_157 : decode cX7_worst 157 = .ok (.if_icmp .ne 8, 3) := by decide +kernel
theorem dX7_worst_160 : decode cX7_worst 160 = .ok (.iload 4, 2) := by decide +kernel
theorem dX7_worst_162 : decode cX7_worst 162 = .ok (.goto 11, 3) := by decide +kernel
theorem dX7_worst_165 : decode cX7_worst 165 = .ok (.iload 5, 2) := by decide +kernel
theorem dX7_worst_167 : decode cX7_worst 167 = .ok (.iload 6, 2) := by decide +kernel
theorem dX7_worst_169 : decode cX7_worst 169 = .ok (.iload_n 3, 1) := by decide +kernel
theorem dX7_worst_170 : decode cX7_worst 170 = .ok (.invokestatic 174, 3) := by decide +kernel
theorem dX7_worst_173 : decode cX7_worst 173 = .ok (.ireturn, 1) := by decide +kernel
theorem dX7_drawn_0 : decode cX7_drawn 0 = .ok (.iload_n 1, 1) := by decide +kernel
theorem dX7_drawn_1 : decode cX7_drawn 1 = .ok (.invokestatic 97, 3) := by decide +kernel
theorem dX7_drawn_4 : decode cX7_drawn 4 = .ok (.ifCond .eq 17, 3) := by decide +kernel
theorem dX7_drawn_7 : decode cX7_drawn 7 = .ok (.iload_n 2, 1) := by decide +kernel
theorem dX7_drawn_8 : decode cX7_drawn 8 = .ok (.iconst 1, 1) := by decide +kernel
theorem dX7_drawn_9 : decode cX7_drawn 9 = .ok (.aload_n 0, 1) := by decide +kernel
theorem dX7_drawn_10 : decode cX7_drawn 10 = .ok (.getfield 7, 3) := by decide +kernel
theorem dX7_drawn_13 : decode cX7_drawn 13 = .ok (.iload_n 1, 1) := by decide +kernel
theorem dX7_drawn_14 : decode cX7_drawn 14 = .ok (.iaload, 1) := by decide +kernel
theorem dX7_drawn_15 : decode cX7_drawn 15 = .ok (.invokestatic 90, 3) := by decide +kernel
theorem dX7_drawn_18 : decode cX7_drawn 18 = .ok (.ifCond .ne 5, 3) := by decide +kernel
theorem dX7_drawn_21 : decode cX7_drawn 21 = .ok (.iconst (-1), 1) := by decide +kernel
theorem dX7_drawn_22 : decode cX7_drawn 22 = .ok (.ireturn, 1) := by decide +kernel
theorem dX7_drawn_23 : decode cX7_drawn 23 = .ok (.iload_n 3, 1) := by decide +kernel
theorem dX7_drawn_24 : decode cX7_drawn 24 = .ok (.iconst 1, 1) := by decide +kernel
theorem dX7_drawn_25 : decode cX7_drawn 25 = .ok (.sipush 1000, 3) := by decide +kernel
theorem dX7_drawn_28 : decode cX7_drawn 28 = .ok (.invokestatic 90, 3) := by decide +kernel
theorem dX7_drawn_31 : decode cX7_drawn 31 = .ok (.ifCond .eq 13, 3) := by decide +kernel
theorem dX7_drawn_34 : decode cX7_drawn 34 = .ok (.iload 4, 2) := by decide +kernel
theorem dX7_drawn_36 : decode cX7_drawn 36 = .ok (.iconst 0, 1) := by decide +kernel
theorem dX7_drawn_37 : decode cX7_drawn 37 = .ok (.iconst 2, 1) := by decide +kernel
theorem dX7_drawn_38 : decode cX7_drawn 38 = .ok (.invokestatic 90, 3) := by decide +kernel
theorem dX7_drawn_41 : decode cX7_drawn 41 = .ok (.ifCond .ne 6, 3) := by decide +kernel
theorem dX7_drawn_44 : decode cX7_drawn 44 = .ok (.bipush (-2), 2) := by decide +kernel
theorem dX7_drawn_46 : decode cX7_drawn 46 = .ok (.ireturn, 1) := by decide +kernel
theorem dX7_drawn_47 : decode cX7_drawn 47 = .ok (.aload_n 0, 1) := by decide +kernel
theorem dX7_drawn_48 : decode cX7_drawn 48 = .ok (.getfield 13, 3) := by decide +kernel
theorem dX7_drawn_51 : decode cX7_drawn 51 = .ok (.iconst 4, 1) := by decide +kernel
theorem dX7_drawn_52 : decode cX7_drawn 52 = .ok (.iload_n 1, 1) := by decide +kernel
theorem dX7_drawn_53 : decode cX7_drawn 53 = .ok (.imul, 1) := by decide +kernel
theorem dX7_drawn_54 : decode cX7_drawn 54 = .ok (.iaload, 1) := by decide +kernel
theorem dX7_drawn_55 : decode cX7_drawn 55 = .ok (.aload_n 0, 1) := by decide +kernel
theorem dX7_drawn_56 : decode cX7_drawn 56 = .ok (.getfield 13, 3) := by decide +kernel
theorem dX7_drawn_59 : decode cX7_drawn 59 = .ok (.iconst 4, 1) := by decide +kernel
theorem dX7_drawn_60 : decode cX7_drawn 60 = .ok (.iload_n 1, 1) := by decide +kernel
theorem dX7_drawn_61 : decode cX7_drawn 61 = .ok (.imul, 1) := by decide +kernel
theorem dX7_drawn_62 : decode cX7_drawn 62 = .ok (.iload_n 2, 1) := by decide +kernel
theorem dX7_drawn_63 : decode cX7_drawn 63 = .ok (.iadd, 1) := by decide +kernel
theorem dX7_drawn_64 : decode cX7_drawn 64 = .ok (.iaload, 1) := by decide +kernel
theorem dX7_drawn_65 : decode cX7_drawn 65 = .ok (.isub, 1) := by decide +kernel
theorem dX7_drawn_66 : decode cX7_drawn 66 = .ok (.istore 5, 2) := by decide +kernel
theorem dX7_drawn_68 : decode cX7_drawn 68 = .ok (.iconst 0, 1) := by decide +kernel
theorem dX7_drawn_69 : decode cX7_drawn 69 = .ok (.istore 6, 2) := by decide +kernel
theorem dX7_drawn_71 : decode cX7_drawn 71 = .ok (.iload 6, 2) := by decide +kernel
theorem dX7_drawn_73 : decode cX7_drawn 73 = .ok (.iload 5, 2) := by decide +kernel
theorem dX7_drawn_75 : decode cX7_drawn 75 = .ok (.imul, 1) := by decide +kernel
theorem dX7_drawn_76 : decode cX7_drawn 76 = .ok (.aload_n 0, 1) := by decide +kernel
theorem dX7_drawn_77 : decode cX7_drawn 77 = .ok (.getfield 16, 3) := by decide +kernel
theorem dX7_drawn_80 : decode cX7_drawn 80 = .ok (.iconst 4, 1) := by decide +kernel
theorem dX7_drawn_81 : decode cX7_drawn 81 = .ok (.iload_n 1, 1) := by decide +kernel
theorem dX7_drawn_82 : decode cX7_drawn 82 = .ok (.imul, 1) := by decide +kernel
theorem dX7_drawn_83 : decode cX7_drawn 83 = .ok (.iload_n 2, 1) := by decide +kernel
theorem dX7_drawn_84 : decode cX7_drawn 84 = .ok (.iadd, 1) := by decide +kernel
theorem dX7_drawn_85 : decode cX7_drawn 85 = .ok (.iaload, 1) := by decide +kernel
theorem dX7_drawn_86 : decode cX7_drawn 86 = .ok (.if_icmp .ge 9, 3) := by decide +kernel
theorem dX7_drawn_89 : decode cX7_drawn 89 = .ok (.iinc 6 1, 3) := by decide +kernel
theorem dX7_drawn_92 : decode cX7_drawn 92 = .ok (.goto (-21), 3) := by decide +kernel
theorem dX7_drawn_95 : decode cX7_drawn 95 = .ok (.iload 4, 2) := by decide +kernel
theorem dX7_drawn_97 : decode cX7_drawn 97 = .ok (.iconst 2, 1) := by decide +kernel
theorem dX7_drawn_98 : decode cX7_drawn 98 = .ok (.if_icmp .ne 6, 3) := by decide +kernel
theorem dX7_drawn_101 : decode cX7_drawn 101 = .ok (.iload 6, 2) := by decide +kernel
theorem dX7_drawn_103 : decode cX7_drawn 103 = .ok (.ireturn, 1) := by decide +kernel
theorem dX7_drawn_104 : decode cX7_drawn 104 = .ok (.iconst 0, 1) := by decide +kernel
theorem dX7_drawn_105 : decode cX7_drawn 105 = .ok (.istore 7, 2) := by decide +kernel
theorem dX7_drawn_107 : decode cX7_drawn 107 = .ok (.iconst 0, 1) := by decide +kernel
theorem dX7_drawn_108 : decode cX7_drawn 108 = .ok (.istore 8, 2) := by decide +kernel
theorem dX7_drawn_110 : decode cX7_drawn 110 = .ok (.iload 8, 2) := by decide +kernel
theorem dX7_drawn_112 : decode cX7_drawn 112 = .ok (.iload 6, 2) := by decide +kernel
theorem dX7_drawn_114 : decode cX7_drawn 114 = .ok (.if_icmp .ge 71, 3) := by decide +kernel
theorem dX7_drawn_117 : decode cX7_drawn 117 = .ok (.iload 7, 2) := by decide +kernel
theorem dX7_drawn_119 : decode cX7_drawn 119 = .ok (.iload_n 3, 1) := by decide +kernel
theorem dX7_drawn_120 : decode cX7_drawn 120 = .ok (.iload 8, 2) := by decide +kernel
theorem dX7_drawn_122 : decode cX7_drawn 122 = .ok (.if_icmp .gt 16, 3) := by decide +kernel
theorem dX7_drawn_125 : decode cX7_drawn 125 = .ok (.aload_n 0, 1) := by decide +kernel
theorem dX7_drawn_126 : decode cX7_drawn 126 = .ok (.getfield 13, 3) := by decide +kernel
theorem dX7_drawn_129 : decode cX7_drawn 129 = .ok (.iconst 4, 1) := by decide +kernel
theorem dX7_drawn_130 : decode cX7_drawn 130 = .ok (.iload_n 1, 1) := by decide +kernel
theorem dX7_drawn_131 : decode cX7_drawn 131 = .ok (.imul, 1) := by decide +kernel
theorem dX7_drawn_132 : decode cX7_drawn 132 = .ok (.iaload, 1) := by decide +kernel
theorem dX7_drawn_133 : decode cX7_drawn 133 = .ok (.iload_n 3, 1) := by decide +kernel
theorem dX7_drawn_134 : decode cX7_drawn 134 = .ok (.imul, 1) := by decide +kernel
theorem dX7_drawn_135 : decode cX7_drawn 135 = .ok (.goto 41, 3) := by decide +kernel
theorem dX7_drawn_138 : decode cX7_drawn 138 = .ok (.aload_n 0, 1) := by decide +kernel
theorem dX7_drawn_139 : decode cX7_drawn 139 = .ok (.getfield 13, 3) := by decide +kernel
theorem dX7_drawn_142 : decode cX7_drawn 142 = .ok (.iconst 4, 1) := by decide +kernel
theorem dX7_drawn_143 : decode cX7_drawn 143 = .ok (.iload_n 1, 1) := by decide +kernel
theorem dX7_drawn_144 : decode cX7_drawn 144 = .ok (.imul, 1) := by decide +kernel
theorem dX7_drawn_145 : decode cX7_drawn 145 = .ok (.iaload, 1) := by decide +kernel
theorem dX7_drawn_146 : decode cX7_drawn 146 = .ok (.iload 8, 2) := by decide +kernel
theorem dX7_drawn_148 : decode cX7_drawn 148 = .ok (.imul, 1) := by decide +kernel
theorem dX7_drawn_149 : decode cX7_drawn 149 = .ok (.aload_n 0, 1) := by decide +kernel
theorem dX7_drawn_150 : decode cX7_drawn 150 = .ok (.getfield 13, 3) := by decide +kernel
theorem dX7_drawn_153 : decode cX7_drawn 153 = .ok (.iconst 4, 1) := by decide +kernel
theorem dX7_drawn_154 : decode cX7_drawn 154 = .ok (.iload_n 1, 1) := by decide +kernel
theorem dX7_drawn_155 : decode cX7_drawn 155 = .ok (.imul, 1) := by decide +kernel
theorem dX7_drawn_156 : decode cX7_drawn 156 = .ok (.iload_n 2, 1) := by decide +kernel
theorem dX7_drawn_157 : decode cX7_drawn 157 = .ok (.iadd, 1) := by decide +kernel
theorem dX7_drawn_158 : decode cX7_drawn 158 = .ok (.iaload, 1) := by decide +kernel
theorem dX7_drawn_159 : decode cX7_drawn 159 = .ok (.iload_n 3, 1) := by decide +kernel
theorem dX7_drawn_160 : decode cX7_drawn 160 = .ok (.iload 8, 2) := by decide +kernel
theorem dX7_drawn_162 : decode cX7_drawn 162 = .ok (.isub, 1) := by decide +kernel
theorem dX7_drawn_163 : decode cX7_drawn 163 = .ok (.imul, 1) := by decide +kernel
theorem dX7_drawn_164 : decode cX7_drawn 164 = .ok (.iadd, 1) := by decide +kernel
theorem dX7_drawn_165 : decode cX7_drawn 165 = .ok (.aload_n 0, 1) := by decide +kernel
theorem dX7_drawn_166 : decode cX7_drawn 166 = .ok (.getfield 16, 3) := by decide +kernel
theorem dX7_drawn_169 : decode cX7_drawn 169 = .ok (.iconst 4, 1) := by decide +kernel
theorem dX7_drawn_170 : decode cX7_drawn 170 = .ok (.iload_n 1, 1) := by decide +kernel
theorem dX7_drawn_171 : decode cX7_drawn 171 = .ok (.imul, 1) := by decide +kernel
theorem dX7_drawn_172 : decode cX7_drawn 172 = .ok (.iload_n 2, 1) := by decide +kernel
theorem dX7_drawn_173 : decode cX7_drawn 173 = .ok (.iadd, 1) := by decide +kernel
theorem dX7_drawn_174 : decode cX7_drawn 174 = .ok (.iaload, 1) := by decide +kernel
theorem dX7_drawn_175 : decode cX7_drawn 175 = .ok (.iadd, 1) := by decide +kernel
theorem dX7_drawn_176 : decode cX7_drawn 176 = .ok (.iadd, 1) := by decide +kernel
theorem dX7_drawn_177 : decode cX7_drawn 177 = .ok (.istore 7, 2) := by decide +kernel
theorem dX7_drawn_179 : decode cX7_drawn 179 = .ok (.iinc 8 1, 3) := by decide +kernel
theorem dX7_drawn_182 : decode cX7_drawn 182 = .ok (.goto (-72), 3) := by decide +kernel
theorem dX7_drawn_185 : decode cX7_drawn 185 = .ok (.iload 7, 2) := by decide +kernel
theorem dX7_drawn_187 : decode cX7_drawn 187 = .ok (.iload 6, 2) := by decide +kernel
theorem dX7_drawn_189 : decode cX7_drawn 189 = .ok (.iload 4, 2) := by decide +kernel
theorem dX7_drawn_191 : decode cX7_drawn 191 = .ok (.invokestatic 174, 3) := by decide +kernel
theorem dX7_drawn_194 : decode cX7_drawn 194 = .ok (.ireturn, 1) := by decide +kernel
theorem dX7_count_0 : decode cX7_count 0 = .ok (.aload_n 0, 1) := by decide +kernel
theorem dX7_count_1 : decode cX7_count 1 = .ok (.bipush (-6), 2) := by decide +kernel
theorem dX7_count_3 : decode cX7_count 3 = .ok (.invokevirtual 143, 3) := by decide +kernel
theorem dX7_count_6 : decode cX7_count 6 = .ok (.iload_n 1, 1) := by decide +kernel
theorem dX7_count_7 : decode cX7_count 7 = .ok (.tableswitch 124 0 6 #[41, 46, 51, 56, 84, 89, 94], 41) := by decide +kernel
theorem dX7_count_48 : decode cX7_count 48 = .ok (.aload_n 0, 1) := by decide +kernel
theorem dX7_count_49 : decode cX7_count 49 = .ok (.getfield 94, 3) := by decide +kernel
theorem dX7_count_52 : decode cX7_count 52 = .ok (.ireturn, 1) := by decide +kernel
theorem dX7_count_53 : decode cX7_count 53 = .ok (.aload_n 0, 1) := by decide +kernel
theorem dX7_count_54 : decode cX7_count 54 = .ok (.getfield 34, 3) := by decide +kernel
theorem dX7_count_57 : decode cX7_count 57 = .ok (.ireturn, 1) := by decide +kernel
theorem dX7_count_58 : decode cX7_count 58 = .ok (.aload_n 0, 1) := by decide +kernel
theorem dX7_count_59 : decode cX7_count 59 = .ok (.getfield 108, 3) := by decide +kernel
theorem dX7_count_62 : decode cX7_count 62 = .ok (.ireturn, 1) := by decide +kernel
theorem dX7_count_63 : decode cX7_count 63 = .ok (.aload_n 0, 1) := by decide +kernel
theorem dX7_count_64 : decode cX7_count 64 = .ok (.getfield 44, 3) := by decide +kernel
theorem dX7_count_67 : decode cX7_count 67 = .ok (.iconst 0, 1) := by decide +kernel
theorem dX7_count_68 : decode cX7_count 68 = .ok (.iaload, 1) := by decide +kernel
theorem dX7_count_69 : decode cX7_count 69 = .ok (.aload_n 0, 1) := by decide +kernel
theorem dX7_count_70 : decode cX7_count 70 = .ok (.getfield 44, 3) := by decide +kernel
theorem dX7_count_73 : decode cX7_count 73 = .ok (.iconst 1, 1) := by decide +kernel
theorem dX7_count_74 : decode cX7_count 74 = .ok (.iaload, 1) := by decide +kernel
theorem dX7_count_75 : decode cX7_count 75 = .ok (.iadd, 1) := by decide +kernel
theorem dX7_count_76 : decode cX7_count 76 = .ok (.aload_n 0, 1) := by decide +kernel
theorem dX7_count_77 : decode cX7_count 77 = .ok (.getfield 44, 3) := by decide +kernel
theorem dX7_count_80 : decode cX7_count 80 = .ok (.iconst 2, 1) := by decide +kernel
theorem dX7_count_81 : decode cX7_count 81 = .ok (.iaload, 1) := by decide +kernel
theorem dX7_count_82 : decode cX7_count 82 = .ok (.iadd, 1) := by decide +kernel
theorem dX7_count_83 : decode cX7_count 83 = .ok (.aload_n 0, 1) := by decide +kernel
theorem dX7_count_84 : decode cX7_count 84 = .ok (.getfield 44, 3) := by decide +kernel
theorem dX7_count_87 : decode cX7_count 87 = .ok (.iconst 3, 1) := by decide +kernel
theorem dX7_count_88 : decode cX7_count 88 = .ok (.iaload, 1) := by decide +kernel
theorem dX7_count_89 : decode cX7_count 89 = .ok (.iadd, 1) := by decide +kernel
theorem dX7_count_90 : decode cX7_count 90 = .ok (.ireturn, 1) := by decide +kernel
theorem dX7_count_91 : decode cX7_count 91 = .ok (.aload_n 0, 1) := by decide +kernel
theorem dX7_count_92 : decode cX7_count 92 = .ok (.getfield 121, 3) := by decide +kernel
theorem dX7_count_95 : decode cX7_count 95 = .ok (.ireturn, 1) := by decide +kernel
theorem dX7_count_96 : decode cX7_count 96 = .ok (.aload_n 0, 1) := by decide +kernel
theorem dX7_count_97 : decode cX7_count 97 = .ok (.getfield 127, 3) := by decide +kernel
theorem dX7_count_100 : decode cX7_count 100 = .ok (.ireturn, 1) := by decide +kernel
theorem dX7_count_101 : decode cX7_count 101 = .ok (.aload_n 0, 1) := by decide +kernel
theorem dX7_count_102 : decode cX7_count 102 = .ok (.getfield 87, 3) := by decide +kernel
theorem dX7_count_105 : decode cX7_count 105 = .ok (.iconst 0, 1) := by decide +kernel
theorem dX7_count_106 : decode cX7_count 106 = .ok (.baload, 1) := by decide +kernel
theorem dX7_count_107 : decode cX7_count 107 = .ok (.ifCond .eq 7, 3) := by decide +kernel
theorem dX7_count_110 : decode cX7_count 110 = .ok (.iconst 1, 1) := by decide +kernel
theorem dX7_count_111 : decode cX7_count 111 = .ok (.goto 4, 3) := by decide +kernel
theorem dX7_count_114 : decode cX7_count 114 = .ok (.iconst 0, 1) := by decide +kernel
theorem dX7_count_115 : decode cX7_count 115 = .ok (.aload_n 0, 1) := by decide +kernel
theorem dX7_count_116 : decode cX7_count 116 = .ok (.getfield 87, 3) := by decide +kernel
theorem dX7_count_119 : decode cX7_count 119 = .ok (.iconst 1, 1) := by decide +kernel
theorem dX7_count_120 : decode cX7_count 120 = .ok (.baload, 1) := by decide +kernel
theorem dX7_count_121 : decode cX7_count 121 = .ok (.ifCond .eq 7, 3) := by decide +kernel
theorem dX7_count_124 : decode cX7_count 124 = .ok (.iconst 2, 1) := by decide +kernel
theorem dX7_count_125 : decode cX7_count 125 = .ok (.goto 4, 3) := by decide +kernel
theorem dX7_count_128 : decode cX7_count 128 = .ok (.iconst 0, 1) := by decide +kernel
theorem dX7_count_129 : decode cX7_count 129 = .ok (.iadd, 1) := by decide +kernel
theorem dX7_count_130 : decode cX7_count 130 = .ok (.ireturn, 1) := by decide +kernel
theorem dX7_count_131 : decode cX7_count 131 = .ok (.bipush (-2), 2) := by decide +kernel
theorem dX7_count_133 : decode cX7_count 133 = .ok (.ireturn, 1) := by decide +kernel
theorem dX7_image_0 : decode cX7_image 0 = .ok (.iload_n 1, 1) := by decide +kernel
theorem dX7_image_1 : decode cX7_image 1 = .ok (.iconst 0, 1) := by decide +kernel
theorem dX7_image_2 : decode cX7_image 2 = .ok (.iconst 1, 1) := by decide +kernel
theorem dX7_image_3 : decode cX7_image 3 = .ok (.invokestatic 90, 3) := by decide +kernel
theorem dX7_image_6 : decode cX7_image 6 = .ok (.ifCond .ne 6, 3) := by decide +kernel
theorem dX7_image_9 : decode cX7_image 9 = .ok (.bipush (-2), 2) := by decide +kernel
theorem dX7_image_11 : decode cX7_image 11 = .ok (.ireturn, 1) := by decide +kernel
theorem dX7_image_12 : decode cX7_image 12 = .ok (.sipush 167, 3) := by decide +kernel
theorem dX7_image_15 : decode cX7_image 15 = .ok (.iload_n 1, 1) := by decide +kernel
theorem dX7_image_16 : decode cX7_image 16 = .ok (.imul, 1) := by decide +kernel
theorem dX7_image_17 : decode cX7_image 17 = .ok (.istore_n 2, 1) := by decide +kernel
theorem dX7_image_18 : decode cX7_image 18 = .ok (.iconst 0, 1) := by decide +kernel
theorem dX7_image_19 : decode cX7_image 19 = .ok (.istore_n 3, 1) := by decide +kernel
theorem dX7_image_20 : decode cX7_image 20 = .ok (.iload_n 3, 1) := by decide +kernel
theorem dX7_image_21 : decode cX7_image 21 = .ok (.iconst 4, 1) := by decide +kernel
theorem dX7_image_22 : decode cX7_image 22 = .ok (.if_icmp .ge 136, 3) := by decide +kernel
theorem dX7_image_25 : decode cX7_image 25 = .ok (.iconst 0, 1) := by decide +kernel
theorem dX7_image_26 : decode cX7_image 26 = .ok (.istore 4, 2) := by decide +kernel
theorem dX7_image_28 : decode cX7_image 28 = .ok (.iload 4, 2) := by decide +kernel
theorem dX7_image_30 : decode cX7_image 30 = .ok (.iconst 4, 1) := by decide +kernel
theorem dX7_image_31 : decode cX7_image 31 = .ok (.if_icmp .ge 61, 3) := by decide +kernel
theorem dX7_image_34 : decode cX7_image 34 = .ok (.aload_n 0, 1) := by decide +kernel
theorem dX7_image_35 : decode cX7_image 35 = .ok (.getfield 84, 3) := by decide +kernel
theorem dX7_image_38 : decode cX7_image 38 = .ok (.iload_n 2, 1) := by decide +kernel
theorem dX7_image_39 : decode cX7_image 39 = .ok (.bipush 11, 2) := by decide +kernel
theorem dX7_image_41 : decode cX7_image 41 = .ok (.iload_n 3, 1) := by decide +kernel
theorem dX7_image_42 : decode cX7_image 42 = .ok (.imul, 1) := by decide +kernel
theorem dX7_image_43 : decode cX7_image 43 = .ok (.iadd, 1) := by decide +kernel
theorem dX7_image_44 : decode cX7_image 44 = .ok (.iload 4, 2) := by decide +kernel
theorem dX7_image_46 : decode cX7_image 46 = .ok (.iadd, 1) := by decide +kernel
theorem dX7_image_47 : decode cX7_image 47 = .ok (.aload_n 0, 1) := by decide +kernel
theorem dX7_image_48 : decode cX7_image 48 = .ok (.getfield 13, 3) := by decide +kernel
theorem dX7_image_51 : decode cX7_image 51 = .ok (.iconst 4, 1) := by decide +kernel
theorem dX7_image_52 : decode cX7_image 52 = .ok (.iload_n 3, 1) := by decide +kernel
theorem dX7_image_53 : decode cX7_image 53 = .ok (.imul, 1) := by decide +kernel
theorem dX7_image_54 : decode cX7_image 54 = .ok (.iload 4, 2) := by decide +kernel
theorem dX7_image_56 : decode cX7_image 56 = .ok (.iadd, 1) := by decide +kernel
theorem dX7_image_57 : decode cX7_image 57 = .ok (.iaload, 1) := by decide +kernel
theorem dX7_image_58 : decode cX7_image 58 = .ok (.iastore, 1) := by decide +kernel
theorem dX7_image_59 : decode cX7_image 59 = .ok (.aload_n 0, 1) := by decide +kernel
theorem dX7_image_60 : decode cX7_image 60 = .ok (.getfield 84, 3) := by decide +kernel
theorem dX7_image_63 : decode cX7_image 63 = .ok (.iload_n 2, 1) := by decide +kernel
theorem dX7_image_64 : decode cX7_image 64 = .ok (.bipush 11, 2) := by decide +kernel
theorem dX7_image_66 : decode cX7_image 66 = .ok (.iload_n 3, 1) := by decide +kernel
theorem dX7_image_67 : decode cX7_image 67 = .ok (.imul, 1) := by decide +kernel
theorem dX7_image_68 : decode cX7_image 68 = .ok (.iadd, 1) := by decide +kernel
theorem dX7_image_69 : decode cX7_image 69 = .ok (.iconst 4, 1) := by decide +kernel
theorem dX7_image_70 : decode cX7_image 70 = .ok (.iadd, 1) := by decide +kernel
theorem dX7_image_71 : decode cX7_image 71 = .ok (.iload 4, 2) := by decide +kernel
theorem dX7_image_73 : decode cX7_image 73 = .ok (.iadd, 1) := by decide +kernel
theorem dX7_image_74 : decode cX7_image 74 = .ok (.aload_n 0, 1) := by decide +kernel
theorem dX7_image_75 : decode cX7_image 75 = .ok (.getfield 16, 3) := by decide +kernel
theorem dX7_image_78 : decode cX7_image 78 = .ok (.iconst 4, 1) := by decide +kernel
theorem dX7_image_79 : decode cX7_image 79 = .ok (.iload_n 3, 1) := by decide +kernel
theorem dX7_image_80 : decode cX7_image 80 = .ok (.imul, 1) := by decide +kernel
theorem dX7_image_81 : decode cX7_image 81 = .ok (.iload 4, 2) := by decide +kernel
theorem dX7_image_83 : decode cX7_image 83 = .ok (.iadd, 1) := by decide +kernel
theorem dX7_image_84 : decode cX7_image 84 = .ok (.iaload, 1) := by decide +kernel
theorem dX7_image_85 : decode cX7_image 85 = .ok (.iastore, 1) := by decide +kernel
theorem dX7_image_86 : decode cX7_image 86 = .ok (.iinc 4 1, 3) := by decide +kernel
theorem dX7_image_89 : decode cX7_image 89 = .ok (.goto (-61), 3) := by decide +kernel
theorem dX7_image_92 : decode cX7_image 92 = .ok (.aload_n 0, 1) := by decide +kernel
theorem dX7_image_93 : decode cX7_image 93 = .ok (.getfield 84, 3) := by decide +kernel
theorem dX7_image_96 : decode cX7_image 96 = .ok (.iload_n 2, 1) := by decide +kernel
theorem dX7_image_97 : decode cX7_image 97 = .ok (.bipush 11, 2) := by decide +kernel
theorem dX7_image_99 : decode cX7_image 99 = .ok (.iload_n 3, 1) := by decide +kernel
theorem dX7_image_100 : decode cX7_image 100 = .ok (.imul, 1) := by decide +kernel
theorem dX7_image_101 : decode cX7_image 101 = .ok (.iadd, 1) := by decide +kernel
theorem dX7_image_102 : decode cX7_image 102 = .ok (.bipush 8, 2) := by decide +kernel
theorem dX7_image_104 : decode cX7_image 104 = .ok (.iadd, 1) := by decide +kernel
theorem dX7_image_105 : decode cX7_image 105 = .ok (.aload_n 0, 1) := by decide +kernel
theorem dX7_image_106 : decode cX7_image 106 = .ok (.getfield 7, 3) := by decide +kernel
theorem dX7_image_109 : decode cX7_image 109 = .ok (.iload_n 3, 1) := by decide +kernel
theorem dX7_image_110 : decode cX7_image 110 = .ok (.iaload, 1) := by decide +kernel
theorem dX7_image_111 : decode cX7_image 111 = .ok (.iastore, 1) := by decide +kernel
theorem dX7_image_112 : decode cX7_image 112 = .ok (.aload_n 0, 1) := by decide +kernel
theorem dX7_image_113 : decode cX7_image 113 = .ok (.getfield 84, 3) := by decide +kernel
theorem dX7_image_116 : decode cX7_image 116 = .ok (.iload_n 2, 1) := by decide +kernel
theorem dX7_image_117 : decode cX7_image 117 = .ok (.bipush 11, 2) := by decide +kernel
theorem dX7_image_119 : decode cX7_image 119 = .ok (.iload_n 3, 1) := by decide +kernel
theorem dX7_image_120 : decode cX7_image 120 = .ok (.imul, 1) := by decide +kernel
theorem dX7_image_121 : decode cX7_image 121 = .ok (.iadd, 1) := by decide +kernel
theorem dX7_image_122 : decode cX7_image 122 = .ok (.bipush 9, 2) := by decide +kernel
theorem dX7_image_124 : decode cX7_image 124 = .ok (.iadd, 1) := by decide +kernel
theorem dX7_image_125 : decode cX7_image 125 = .ok (.aload_n 0, 1) := by decide +kernel
theorem dX7_image_126 : decode cX7_image 126 = .ok (.getfield 19, 3) := by decide +kernel
theorem dX7_image_129 : decode cX7_image 129 = .ok (.iload_n 3, 1) := by decide +kernel
theorem dX7_image_130 : decode cX7_image 130 = .ok (.iaload, 1) := by decide +kernel
theorem dX7_image_131 : decode cX7_image 131 = .ok (.iastore, 1) := by decide +kernel
theorem dX7_image_132 : decode cX7_image 132 = .ok (.aload_n 0, 1) := by decide +kernel
theorem dX7_image_133 : decode cX7_image 133 = .ok (.getfield 84, 3) := by decide +kernel
theorem dX7_image_136 : decode cX7_image 136 = .ok (.iload_n 2, 1) := by decide +kernel
theorem dX7_image_137 : decode cX7_image 137 = .ok (.bipush 11, 2) := by decide +kernel
theorem dX7_image_139 : decode cX7_image 139 = .ok (.iload_n 3, 1) := by decide +kernel
theorem dX7_image_140 : decode cX7_image 140 = .ok (.imul, 1) := by decide +kernel
theorem dX7_image_141 : decode cX7_image 141 = .ok (.iadd, 1) := by decide +kernel
theorem dX7_image_142 : decode cX7_image 142 = .ok (.bipush 10, 2) := by decide +kernel
theorem dX7_image_144 : decode cX7_image 144 = .ok (.iadd, 1) := by decide +kernel
theorem dX7_image_145 : decode cX7_image 145 = .ok (.aload_n 0, 1) := by decide +kernel
theorem dX7_image_146 : decode cX7_image 146 = .ok (.getfield 22, 3) := by decide +kernel
theorem dX7_image_149 : decode cX7_image 149 = .ok (.iload_n 3, 1) := by decide +kernel
theorem dX7_image_150 : decode cX7_image 150 = .ok (.iaload, 1) := by decide +kernel
theorem dX7_image_151 : decode cX7_image 151 = .ok (.iastore, 1) := by decide +kernel
theorem dX7_image_152 : decode cX7_image 152 = .ok (.iinc 3 1, 3) := by decide +kernel
theorem dX7_image_155 : decode cX7_image 155 = .ok (.goto (-135), 3) := by decide +kernel
theorem dX7_image_158 : decode cX7_image 158 = .ok (.iconst 0, 1) := by decide +kernel
theorem dX7_image_159 : decode cX7_image 159 = .ok (.istore_n 3, 1) := by decide +kernel
theorem dX7_image_160 : decode cX7_image 160 = .ok (.iload_n 3, 1) := by decide +kernel
theorem dX7_image_161 : decode cX7_image 161 = .ok (.bipush 40, 2) := by decide +kernel
theorem dX7_image_163 : decode cX7_image 163 = .ok (.if_icmp .ge 66, 3) := by decide +kernel
theorem dX7_image_166 : decode cX7_image 166 = .ok (.aload_n 0, 1) := by decide +kernel
theorem dX7_image_167 : decode cX7_image 167 = .ok (.getfield 84, 3) := by decide +kernel
theorem dX7_image_170 : decode cX7_image 170 = .ok (.iload_n 2, 1) := by decide +kernel
theorem dX7_image_171 : decode cX7_image 171 = .ok (.bipush 44, 2) := by decide +kernel
theorem dX7_image_173 : decode cX7_image 173 = .ok (.iadd, 1) := by decide +kernel
theorem dX7_image_174 : decode cX7_image 174 = .ok (.iconst 3, 1) := by decide +kernel
theorem dX7_image_175 : decode cX7_image 175 = .ok (.iload_n 3, 1) := by decide +kernel
theorem dX7_image_176 : decode cX7_image 176 = .ok (.imul, 1) := by decide +kernel
theorem dX7_image_177 : decode cX7_image 177 = .ok (.iadd, 1) := by decide +kernel
theorem dX7_image_178 : decode cX7_image 178 = .ok (.aload_n 0, 1) := by decide +kernel
theorem dX7_image_179 : decode cX7_image 179 = .ok (.getfield 25, 3) := by decide +kernel
theorem dX7_image_182 : decode cX7_image 182 = .ok (.iload_n 3, 1) := by decide +kernel
theorem dX7_image_183 : decode cX7_image 183 = .ok (.iaload, 1) := by decide +kernel
theorem dX7_image_184 : decode cX7_image 184 = .ok (.iastore, 1) := by decide +kernel
theorem dX7_image_185 : decode cX7_image 185 = .ok (.aload_n 0, 1) := by decide +kernel
theorem dX7_image_186 : decode cX7_image 186 = .ok (.getfield 84, 3) := by decide +kernel
theorem dX7_image_189 : decode cX7_image 189 = .ok (.iload_n 2, 1) := by decide +kernel
theorem dX7_image_190 : decode cX7_image 190 = .ok (.bipush 45, 2) := by decide +kernel
theorem dX7_image_192 : decode cX7_image 192 = .ok (.iadd, 1) := by decide +kernel
theorem dX7_image_193 : decode cX7_image 193 = .ok (.iconst 3, 1) := by decide +kernel
theorem dX7_image_194 : decode cX7_image 194 = .ok (.iload_n 3, 1) := by decide +kernel
theorem dX7_image_195 : decode cX7_image 195 = .ok (.imul, 1) := by decide +kernel
theorem dX7_image_196 : decode cX7_image 196 = .ok (.iadd, 1) := by decide +kernel
theorem dX7_image_197 : decode cX7_image 197 = .ok (.aload_n 0, 1) := by decide +kernel
theorem dX7_image_198 : decode cX7_image 198 = .ok (.getfield 28, 3) := by decide +kernel
theorem dX7_image_201 : decode cX7_image 201 = .ok (.iload_n 3, 1) := by decide +kernel
theorem dX7_image_202 : decode cX7_image 202 = .ok (.iaload, 1) := by decide +kernel
theorem dX7_image_203 : decode cX7_image 203 = .ok (.iastore, 1) := by decide +kernel
theorem dX7_image_204 : decode cX7_image 204 = .ok (.aload_n 0, 1) := by decide +kernel
theorem dX7_image_205 : decode cX7_image 205 = .ok (.getfield 84, 3) := by decide +kernel
theorem dX7_image_208 : decode cX7_image 208 = .ok (.iload_n 2, 1) := by decide +kernel
theorem dX7_image_209 : decode cX7_image 209 = .ok (.bipush 46, 2) := by decide +kernel
theorem dX7_image_211 : decode cX7_image 211 = .ok (.iadd, 1) := by decide +kernel
theorem dX7_image_212 : decode cX7_image 212 = .ok (.iconst 3, 1) := by decide +kernel
theorem dX7_image_213 : decode cX7_image 213 = .ok (.iload_n 3, 1) := by decide +kernel
theorem dX7_image_214 : decode cX7_image 214 = .ok (.imul, 1) := by decide +kernel
theorem dX7_image_215 : decode cX7_image 215 = .ok (.iadd, 1) := by decide +kernel
theorem dX7_image_216 : decode cX7_image 216 = .ok (.aload_n 0, 1) := by decide +kernel
theorem dX7_image_217 : decode cX7_image 217 = .ok (.getfield 31, 3) := by decide +kernel
theorem dX7_image_220 : decode cX7_image 220 = .ok (.iload_n 3, 1) := by decide +kernel
theorem dX7_image_221 : decode cX7_image 221 = .ok (.iaload, 1) := by decide +kernel
theorem dX7_image_222 : decode cX7_image 222 = .ok (.iastore, 1) := by decide +kernel
theorem dX7_image_223 : decode cX7_image 223 = .ok (.iinc 3 1, 3) := by decide +kernel
theorem dX7_image_226 : decode cX7_image 226 = .ok (.goto (-66), 3) := by decide +kernel
theorem dX7_image_229 : decode cX7_image 229 = .ok (.aload_n 0, 1) := by decide +kernel
theorem dX7_image_230 : decode cX7_image 230 = .ok (.getfield 84, 3) := by decide +kernel
theorem dX7_image_233 : decode cX7_image 233 = .ok (.iload_n 2, 1) := by decide +kernel
theorem dX7_image_234 : decode cX7_image 234 = .ok (.sipush 164, 3) := by decide +kernel
theorem dX7_image_237 : decode cX7_image 237 = .ok (.iadd, 1) := by decide +kernel
theorem dX7_image_238 : decode cX7_image 238 = .ok (.aload_n 0, 1) := by decide +kernel
theorem dX7_image_239 : decode cX7_image 239 = .ok (.getfield 94, 3) := by decide +kernel
theorem dX7_image_242 : decode cX7_image 242 = .ok (.iastore, 1) := by decide +kernel
theorem dX7_image_243 : decode cX7_image 243 = .ok (.aload_n 0, 1) := by decide +kernel
theorem dX7_image_244 : decode cX7_image 244 = .ok (.getfield 84, 3) := by decide +kernel
theorem dX7_image_247 : decode cX7_image 247 = .ok (.iload_n 2, 1) := by decide +kernel
theorem dX7_image_248 : decode cX7_image 248 = .ok (.sipush 165, 3) := by decide +kernel
theorem dX7_image_251 : decode cX7_image 251 = .ok (.iadd, 1) := by decide +kernel
theorem dX7_image_252 : decode cX7_image 252 = .ok (.aload_n 0, 1) := by decide +kernel
theorem dX7_image_253 : decode cX7_image 253 = .ok (.getfield 34, 3) := by decide +kernel
theorem dX7_image_256 : decode cX7_image 256 = .ok (.iastore, 1) := by decide +kernel
theorem dX7_image_257 : decode cX7_image 257 = .ok (.aload_n 0, 1) := by decide +kernel
theorem dX7_image_258 : decode cX7_image 258 = .ok (.getfield 84, 3) := by decide +kernel
theorem dX7_image_261 : decode cX7_image 261 = .ok (.iload_n 2, 1) := by decide +kernel
theorem dX7_image_262 : decode cX7_image 262 = .ok (.sipush 166, 3) := by decide +kernel
theorem dX7_image_265 : decode cX7_image 265 = .ok (.iadd, 1) := by decide +kernel
theorem dX7_image_266 : decode cX7_image 266 = .ok (.aload_n 0, 1) := by decide +kernel
theorem dX7_image_267 : decode cX7_image 267 = .ok (.getfield 108, 3) := by decide +kernel
theorem dX7_image_270 : decode cX7_image 270 = .ok (.iastore, 1) := by decide +kernel
theorem dX7_image_271 : decode cX7_image 271 = .ok (.aload_n 0, 1) := by decide +kernel
theorem dX7_image_272 : decode cX7_image 272 = .ok (.getfield 87, 3) := by decide +kernel
theorem dX7_image_275 : decode cX7_image 275 = .ok (.iload_n 1, 1) := by decide +kernel
theorem dX7_image_276 : decode cX7_image 276 = .ok (.iconst 1, 1) := by decide +kernel
theorem dX7_image_277 : decode cX7_image 277 = .ok (.bastore, 1) := by decide +kernel
theorem dX7_image_278 : decode cX7_image 278 = .ok (.iconst 1, 1) := by decide +kernel
theorem dX7_image_279 : decode cX7_image 279 = .ok (.ireturn, 1) := by decide +kernel
theorem dX7_restore_0 : decode cX7_restore 0 = .ok (.iload_n 1, 1) := by decide +kernel
theorem dX7_restore_1 : decode cX7_restore 1 = .ok (.iconst 0, 1) := by decide +kernel
theorem dX7_restore_2 : decode cX7_restore 2 = .ok (.iconst 1, 1) := by decide +kernel
theorem dX7_restore_3 : decode cX7_restore 3 = .ok (.invokestatic 90, 3) := by decide +kernel
theorem dX7_restore_6 : decode cX7_restore 6 = .ok (.ifCond .ne 6, 3) := by decide +kernel
theorem dX7_restore_9 : decode cX7_restore 9 = .ok (.bipush (-2), 2) := by decide +kernel
theorem dX7_restore_11 : decode cX7_restore 11 = .ok (.ireturn, 1) := by decide +kernel
theorem dX7_restore_12 : decode cX7_restore 12 = .ok (.aload_n 0, 1) := by decide +kernel
theorem dX7_restore_13 : decode cX7_restore 13 = .ok (.getfield 87, 3) := by decide +kernel
theorem dX7_restore_16 : decode cX7_restore 16 = .ok (.iload_n 1, 1) := by decide +kernel
theorem dX7_restore_17 : decode cX7_restore 17 = .ok (.baload, 1) := by decide +kernel
theorem dX7_restore_18 : decode cX7_restore 18 = .ok (.ifCond .ne 6, 3) := by decide +kernel
theorem dX7_restore_21 : decode cX7_restore 21 = .ok (.bipush (-3), 2) := by decide +kernel
theorem dX7_restore_23 : decode cX7_restore 23 = .ok (.ireturn, 1) := by decide +kernel
theorem dX7_restore_24 : decode cX7_restore 24 = .ok (.sipush 167, 3) := by decide +kernel
theorem dX7_restore_27 : decode cX7_restore 27 = .ok (.iload_n 1, 1) := by decide +kernel
theorem dX7_restore_28 : decode cX7_restore 28 = .ok (.imul, 1) := by decide +kernel
theorem dX7_restore_29 : decode cX7_restore 29 = .ok (.istore_n 2, 1) := by decide +kernel
theorem dX7_restore_30 : decode cX7_restore 30 = .ok (.iconst 0, 1) := by decide +kernel
theorem dX7_restore_31 : decode cX7_restore 31 = .ok (.istore_n 3, 1) := by decide +kernel
theorem dX7_restore_32 : decode cX7_restore 32 = .ok (.iload_n 3, 1) := by decide +kernel
theorem dX7_restore_33 : decode cX7_restore 33 = .ok (.iconst 4, 1) := by decide +kernel
theorem dX7_restore_34 : decode cX7_restore 34 = .ok (.if_icmp .ge 136, 3) := by decide +kernel
theorem dX7_restore_37 : decode cX7_restore 37 = .ok (.iconst 0, 1) := by decide +kernel
theorem dX7_restore_38 : decode cX7_restore 38 = .ok (.istore 4, 2) := by decide +kernel
theorem dX7_restore_40 : decode cX7_restore 40 = .ok (.iload 4, 2) := by decide +kernel
theorem dX7_restore_42 : decode cX7_restore 42 = .ok (.iconst 4, 1) := by decide +kernel
theorem dX7_restore_43 : decode cX7_restore 43 = .ok (.if_icmp .ge 61, 3) := by decide +kernel
theorem dX7_restore_46 : decode cX7_restore 46 = .ok (.aload_n 0, 1) := by decide +kernel
theorem dX7_restore_47 : decode cX7_restore 47 = .ok (.getfield 13, 3) := by decide +kernel
theorem dX7_restore_50 : decode cX7_restore 50 = .ok (.iconst 4, 1) := by decide +kernel
theorem dX7_restore_51 : decode cX7_restore 51 = .ok (.iload_n 3, 1) := by decide +kernel
theorem dX7_restore_52 : decode cX7_restore 52 = .ok (.imul, 1) := by decide +kernel
theorem dX7_restore_53 : decode cX7_restore 53 = .ok (.iload 4, 2) := by decide +kernel
theorem dX7_restore_55 : decode cX7_restore 55 = .ok (.iadd, 1) := by decide +kernel
theorem dX7_restore_56 : decode cX7_restore 56 = .ok (.aload_n 0, 1) := by decide +kernel
theorem dX7_restore_57 : decode cX7_restore 57 = .ok (.getfield 84, 3) := by decide +kernel
theorem dX7_restore_60 : decode cX7_restore 60 = .ok (.iload_n 2, 1) := by decide +kernel
theorem dX7_restore_61 : decode cX7_restore 61 = .ok (.bipush 11, 2) := by decide +kernel
theorem dX7_restore_63 : decode cX7_restore 63 = .ok (.iload_n 3, 1) := by decide +kernel
theorem dX7_restore_64 : decode cX7_restore 64 = .ok (.imul, 1) := by decide +kernel
theorem dX7_restore_65 : decode cX7_restore 65 = .ok (.iadd, 1) := by decide +kernel
theorem dX7_restore_66 : decode cX7_restore 66 = .ok (.iload 4, 2) := by decide +kernel
theorem dX7_restore_68 : decode cX7_restore 68 = .ok (.iadd, 1) := by decide +kernel
theorem dX7_restore_69 : decode cX7_restore 69 = .ok (.iaload, 1) := by decide +kernel
theorem dX7_restore_70 : decode cX7_restore 70 = .ok (.iastore, 1) := by decide +kernel
theorem dX7_restore_71 : decode cX7_restore 71 = .ok (.aload_n 0, 1) := by decide +kernel
theorem dX7_restore_72 : decode cX7_restore 72 = .ok (.getfield 16, 3) := by decide +kernel
theorem dX7_restore_75 : decode cX7_restore 75 = .ok (.iconst 4, 1) := by decide +kernel
theorem dX7_restore_76 : decode cX7_restore 76 = .ok (.iload_n 3, 1) := by decide +kernel
theorem dX7_restore_77 : decode cX7_restore 77 = .ok (.imul, 1) := by decide +kernel
theorem dX7_restore_78 : decode cX7_restore 78 = .ok (.iload 4, 2) := by decide +kernel
theorem dX7_restore_80 : decode cX7_restore 80 = .ok (.iadd, 1) := by decide +kernel
theorem dX7_restore_81 : decode cX7_restore 81 = .ok (.aload_n 0, 1) := by decide +kernel
theorem dX7_restore_82 : decode cX7_restore 82 = .ok (.getfield 84, 3) := by decide +kernel
theorem dX7_restore_85 : decode cX7_restore 85 = .ok (.iload_n 2, 1) := by decide +kernel
theorem dX7_restore_86 : decode cX7_restore 86 = .ok (.bipush 11, 2) := by decide +kernel
theorem dX7_restore_88 : decode cX7_restore 88 = .ok (.iload_n 3, 1) := by decide +kernel
theorem dX7_restore_89 : decode cX7_restore 89 = .ok (.imul, 1) := by decide +kernel
theorem dX7_restore_90 : decode cX7_restore 90 = .ok (.iadd, 1) := by decide +kernel
theorem dX7_restore_91 : decode cX7_restore 91 = .ok (.iconst 4, 1) := by decide +kernel
theorem dX7_restore_92 : decode cX7_restore 92 = .ok (.iadd, 1) := by decide +kernel
theorem dX7_restore_93 : decode cX7_restore 93 = .ok (.iload 4, 2) := by decide +kernel
theorem dX7_restore_95 : decode cX7_restore 95 = .ok (.iadd, 1) := by decide +kernel
theorem dX7_restore_96 : decode cX7_restore 96 = .ok (.iaload, 1) := by decide +kernel
theorem dX7_restore_97 : decode cX7_restore 97 = .ok (.iastore, 1) := by decide +kernel
theorem dX7_restore_98 : decode cX7_restore 98 = .ok (.iinc 4 1, 3) := by decide +kernel
theorem dX7_restore_101 : decode cX7_restore 101 = .ok (.goto (-61), 3) := by decide +kernel
theorem dX7_restore_104 : decode cX7_restore 104 = .ok (.aload_n 0, 1) := by decide +kernel
theorem dX7_restore_105 : decode cX7_restore 105 = .ok (.getfield 7, 3) := by decide +kernel
theorem dX7_restore_108 : decode cX7_restore 108 = .ok (.iload_n 3, 1) := by decide +kernel
theorem dX7_restore_109 : decode cX7_restore 109 = .ok (.aload_n 0, 1) := by decide +kernel
theorem dX7_restore_110 : decode cX7_restore 110 = .ok (.getfield 84, 3) := by decide +kernel
theorem dX7_restore_113 : decode cX7_restore 113 = .ok (.iload_n 2, 1) := by decide +kernel
theorem dX7_restore_114 : decode cX7_restore 114 = .ok (.bipush 11, 2) := by decide +kernel
theorem dX7_restore_116 : decode cX7_restore 116 = .ok (.iload_n 3, 1) := by decide +kernel
theorem dX7_restore_117 : decode cX7_restore 117 = .ok (.imul, 1) := by decide +kernel
theorem dX7_restore_118 : decode cX7_restore 118 = .ok (.iadd, 1) := by decide +kernel
theorem dX7_restore_119 : decode cX7_restore 119 = .ok (.bipush 8, 2) := by decide +kernel
theorem dX7_restore_121 : decode cX7_restore 121 = .ok (.iadd, 1) := by decide +kernel
theorem dX7_restore_122 : decode cX7_restore 122 = .ok (.iaload, 1) := by decide +kernel
theorem dX7_restore_123 : decode cX7_restore 123 = .ok (.iastore, 1) := by decide +kernel
theorem dX7_restore_124 : decode cX7_restore 124 = .ok (.aload_n 0, 1) := by decide +kernel
theorem dX7_restore_125 : decode cX7_restore 125 = .ok (.getfield 19, 3) := by decide +kernel
theorem dX7_restore_128 : decode cX7_restore 128 = .ok (.iload_n 3, 1) := by decide +kernel
theorem dX7_restore_129 : decode cX7_restore 129 = .ok (.aload_n 0, 1) := by decide +kernel
theorem dX7_restore_130 : decode cX7_restore 130 = .ok (.getfield 84, 3) := by decide +kernel
theorem dX7_restore_133 : decode cX7_restore 133 = .ok (.iload_n 2, 1) := by decide +kernel
theorem dX7_restore_134 : decode cX7_restore 134 = .ok (.bipush 11, 2) := by decide +kernel
theorem dX7_restore_136 : decode cX7_restore 136 = .ok (.iload_n 3, 1) := by decide +kernel
theorem dX7_restore_137 : decode cX7_restore 137 = .ok (.imul, 1) := by decide +kernel
theorem dX7_restore_138 : decode cX7_restore 138 = .ok (.iadd, 1) := by decide +kernel
theorem dX7_restore_139 : decode cX7_restore 139 = .ok (.bipush 9, 2) := by decide +kernel
theorem dX7_restore_141 : decode cX7_restore 141 = .ok (.iadd, 1) := by decide +kernel
theorem dX7_restore_142 : decode cX7_restore 142 = .ok (.iaload, 1) := by decide +kernel
theorem dX7_restore_143 : decode cX7_restore 143 = .ok (.iastore, 1) := by decide +kernel
theorem dX7_restore_144 : decode cX7_restore 144 = .ok (.aload_n 0, 1) := by decide +kernel
theorem dX7_restore_145 : decode cX7_restore 145 = .ok (.getfield 22, 3) := by decide +kernel
theorem dX7_restore_148 : decode cX7_restore 148 = .ok (.iload_n 3, 1) := by decide +kernel
theorem dX7_restore_149 : decode cX7_restore 149 = .ok (.aload_n 0, 1) := by decide +kernel
theorem dX7_restore_150 : decode cX7_restore 150 = .ok (.getfield 84, 3) := by decide +kernel
theorem dX7_restore_153 : decode cX7_restore 153 = .ok (.iload_n 2, 1) := by decide +kernel
theorem dX7_restore_154 : decode cX7_restore 154 = .ok (.bipush 11, 2) := by decide +kernel
theorem dX7_restore_156 : decode cX7_restore 156 = .ok (.iload_n 3, 1) := by decide +kernel
theorem dX7_restore_157 : decode cX7_restore 157 = .ok (.imul, 1) := by decide +kernel
theorem dX7_restore_158 : decode cX7_restore 158 = .ok (.iadd, 1) := by decide +kernel
theorem dX7_restore_159 : decode cX7_restore 159 = .ok (.bipush 10, 2) := by decide +kernel
theorem dX7_restore_161 : decode cX7_restore 161 = .ok (.iadd, 1) := by decide +kernel
theorem dX7_restore_162 : decode cX7_restore 162 = .ok (.iaload, 1) := by decide +kernel
theorem dX7_restore_163 : decode cX7_restore 163 = .ok (.iastore, 1) := by decide +kernel
theorem dX7_restore_164 : decode cX7_restore 164 = .ok (.iinc 3 1, 3) := by decide +kernel
theorem dX7_restore_167 : decode cX7_restore 167 = .ok (.goto (-135), 3) := by decide +kernel
theorem dX7_restore_170 : decode cX7_restore 170 = .ok (.iconst 0, 1) := by decide +kernel
theorem dX7_restore_171 : decode cX7_restore 171 = .ok (.istore_n 3, 1) := by decide +kernel
theorem dX7_restore_172 : decode cX7_restore 172 = .ok (.iload_n 3, 1) := by decide +kernel
theorem dX7_restore_173 : decode cX7_restore 173 = .ok (.bipush 40, 2) := by decide +kernel
theorem dX7_restore_175 : decode cX7_restore 175 = .ok (.if_icmp .ge 66, 3) := by decide +kernel
theorem dX7_restore_178 : decode cX7_restore 178 = .ok (.aload_n 0, 1) := by decide +kernel
theorem dX7_restore_179 : decode cX7_restore 179 = .ok (.getfield 25, 3) := by decide +kernel
theorem dX7_restore_182 : decode cX7_restore 182 = .ok (.iload_n 3, 1) := by decide +kernel
theorem dX7_restore_183 : decode cX7_restore 183 = .ok (.aload_n 0, 1) := by decide +kernel
theorem dX7_restore_184 : decode cX7_restore 184 = .ok (.getfield 84, 3) := by decide +kernel
theorem dX7_restore_187 : decode cX7_restore 187 = .ok (.iload_n 2, 1) := by decide +kernel
theorem dX7_restore_188 : decode cX7_restore 188 = .ok (.bipush 44, 2) := by decide +kernel
theorem dX7_restore_190 : decode cX7_restore 190 = .ok (.iadd, 1) := by decide +kernel
theorem dX7_restore_191 : decode cX7_restore 191 = .ok (.iconst 3, 1) := by decide +kernel
theorem dX7_restore_192 : decode cX7_restore 192 = .ok (.iload_n 3, 1) := by decide +kernel
theorem dX7_restore_193 : decode cX7_restore 193 = .ok (.imul, 1) := by decide +kernel
theorem dX7_restore_194 : decode cX7_restore 194 = .ok (.iadd, 1) := by decide +kernel
theorem dX7_restore_195 : decode cX7_restore 195 = .ok (.iaload, 1) := by decide +kernel
theorem dX7_restore_196 : decode cX7_restore 196 = .ok (.iastore, 1) := by decide +kernel
theorem dX7_restore_197 : decode cX7_restore 197 = .ok (.aload_n 0, 1) := by decide +kernel
theorem dX7_restore_198 : decode cX7_restore 198 = .ok (.getfield 28, 3) := by decide +kernel
theorem dX7_restore_201 : decode cX7_restore 201 = .ok (.iload_n 3, 1) := by decide +kernel
theorem dX7_restore_202 : decode cX7_restore 202 = .ok (.aload_n 0, 1) := by decide +kernel
theorem dX7_restore_203 : decode cX7_restore 203 = .ok (.getfield 84, 3) := by decide +kernel
theorem dX7_restore_206 : decode cX7_restore 206 = .ok (.iload_n 2, 1) := by decide +kernel
theorem dX7_restore_207 : decode cX7_restore 207 = .ok (.bipush 45, 2) := by decide +kernel
theorem dX7_restore_209 : decode cX7_restore 209 = .ok (.iadd, 1) := by decide +kernel
theorem dX7_restore_210 : decode cX7_restore 210 = .ok (.iconst 3, 1) := by decide +kernel
theorem dX7_restore_211 : decode cX7_restore 211 = .ok (.iload_n 3, 1) := by decide +kernel
theorem dX7_restore_212 : decode cX7_restore 212 = .ok (.imul, 1) := by decide +kernel
theorem dX7_restore_213 : decode cX7_restore 213 = .ok (.iadd, 1) := by decide +kernel
theorem dX7_restore_214 : decode cX7_restore 214 = .ok (.iaload, 1) := by decide +kernel
theorem dX7_restore_215 : decode cX7_restore 215 = .ok (.iastore, 1) := by decide +kernel
theorem dX7_restore_216 : decode cX7_restore 216 = .ok (.aload_n 0, 1) := by decide +kernel
theorem dX7_restore_217 : decode cX7_restore 217 = .ok (.getfield 31, 3) := by decide +kernel
theorem dX7_restore_220 : decode cX7_restore 220 = .ok (.iload_n 3, 1) := by decide +kernel
theorem dX7_restore_221 : decode cX7_restore 221 = .ok (.aload_n 0, 1) := by decide +kernel
theorem dX7_restore_222 : decode cX7_restore 222 = .ok (.getfield 84, 3) := by decide +kernel
theorem dX7_restore_225 : decode cX7_restore 225 = .ok (.iload_n 2, 1) := by decide +kernel
theorem dX7_restore_226 : decode cX7_restore 226 = .ok (.bipush 46, 2) := by decide +kernel
theorem dX7_restore_228 : decode cX7_restore 228 = .ok (.iadd, 1) := by decide +kernel
theorem dX7_restore_229 : decode cX7_restore 229 = .ok (.iconst 3, 1) := by decide +kernel
theorem dX7_restore_230 : decode cX7_restore 230 = .ok (.iload_n 3, 1) := by decide +kernel
theorem dX7_restore_231 : decode cX7_restore 231 = .ok (.imul, 1) := by decide +kernel
theorem dX7_restore_232 : decode cX7_restore 232 = .ok (.iadd, 1) := by decide +kernel
theorem dX7_restore_233 : decode cX7_restore 233 = .ok (.iaload, 1) := by decide +kernel
theorem dX7_restore_234 : decode cX7_restore 234 = .ok (.iastore, 1) := by decide +kernel
theorem dX7_restore_235 : decode cX7_restore 235 = .ok (.iinc 3 1, 3) := by decide +kernel
theorem dX7_restore_238 : decode cX7_restore 238 = .ok (.goto (-66), 3) := by decide +kernel
theorem dX7_restore_241 : decode cX7_restore 241 = .ok (.aload_n 0, 1) := by decide +kernel
theorem dX7_restore_242 : decode cX7_restore 242 = .ok (.aload_n 0, 1) := by decide +kernel
theorem dX7_restore_243 : decode cX7_restore 243 = .ok (.getfield 84, 3) := by decide +kernel
theorem dX7_restore_246 : decode cX7_restore 246 = .ok (.iload_n 2, 1) := by decide +kernel
theorem dX7_restore_247 : decode cX7_restore 247 = .ok (.sipush 164, 3) := by decide +kernel
theorem dX7_restore_250 : decode cX7_restore 250 = .ok (.iadd, 1) := by decide +kernel
theorem dX7_restore_251 : decode cX7_restore 251 = .ok (.iaload, 1) := by decide +kernel
theorem dX7_restore_252 : decode cX7_restore 252 = .ok (.putfield 94, 3) := by decide +kernel
theorem dX7_restore_255 : decode cX7_restore 255 = .ok (.aload_n 0, 1) := by decide +kernel
theorem dX7_restore_256 : decode cX7_restore 256 = .ok (.aload_n 0, 1) := by decide +kernel
theorem dX7_restore_257 : decode cX7_restore 257 = .ok (.getfield 84, 3) := by decide +kernel
theorem dX7_restore_260 : decode cX7_restore 260 = .ok (.iload_n 2, 1) := by decide +kernel
theorem dX7_restore_261 : decode cX7_restore 261 = .ok (.sipush 165, 3) := by decide +kernel
theorem dX7_restore_264 : decode cX7_restore 264 = .ok (.iadd, 1) := by decide +kernel
theorem dX7_restore_265 : decode cX7_restore 265 = .ok (.iaload, 1) := by decide +kernel
theorem dX7_restore_266 : decode cX7_restore 266 = .ok (.putfield 34, 3) := by decide +kernel
theorem dX7_restore_269 : decode cX7_restore 269 = .ok (.aload_n 0, 1) := by decide +kernel
theorem dX7_restore_270 : decode cX7_restore 270 = .ok (.aload_n 0, 1) := by decide +kernel
theorem dX7_restore_271 : decode cX7_restore 271 = .ok (.getfield 84, 3) := by decide +kernel
theorem dX7_restore_274 : decode cX7_restore 274 = .ok (.iload_n 2, 1) := by decide +kernel
theorem dX7_restore_275 : decode cX7_restore 275 = .ok (.sipush 166, 3) := by decide +kernel
theorem dX7_restore_278 : decode cX7_restore 278 = .ok (.iadd, 1) := by decide +kernel
theorem dX7_restore_279 : decode cX7_restore 279 = .ok (.iaload, 1) := by decide +kernel
theorem dX7_restore_280 : decode cX7_restore 280 = .ok (.putfield 108, 3) := by decide +kernel
theorem dX7_restore_283 : decode cX7_restore 283 = .ok (.iconst 1, 1) := by decide +kernel
theorem dX7_restore_284 : decode cX7_restore 284 = .ok (.ireturn, 1) := by decide +kernel
end
section
/-! THE ABSTRACT MACHINE: the heap above a base address as a list of cells (a reference is a place in it), and ab_Ev, the machine at a frame whose locals, stack and heap are such pictures. -/
abbrev ab_C : Type := (Nat × vp_A) ⊕ (Nat × List Value)
abbrev ab_H : Type := List ab_C
abbrev ab_G : Type := va_G × (Nat → ClassId) × Nat
abbrev ab_M : Type := String × MethodName × ByteArray × Nat × Option FieldType
def ab_v (b : Nat) (v : Value) : Value := match v with
  | .ref k => .ref (b + k)
  | w => w
def ab_a (b : Nat) (a : vp_A) : vp_A := match a with
  | (n, .inr (.inr (.inr (.inr f)))) => (n, .inr (.inr (.inr (.inr (fun k => (f k).map (fun j => b + j))))))
  | w => w
def ab_c (b : Nat) (cA : Nat → ClassId) (c : ab_C) : va_E := match c with
  | .inl q => .inl (cA q.1, ab_a b q.2)
  | .inr o => .inr (o.1, o.2.map (ab_v b))
def ab_w (b : Nat) (cA : Nat → ClassId) (h : ab_H) : va_W := h.mapIdx (fun k c => (b + k, ab_c b cA c))
theorem ab_w_get {b : Nat} {cA : Nat → ClassId} {h : ab_H} {k : Nat} {c : ab_C} (e : h[k]? = some c) : (ab_w b cA h)[k]? = some (b + k, ab_c b cA c) := by
  simp [ab_w, e]
theorem ab_w_at {b : Nat} {cA : Nat → ClassId} {h : ab_H} {k : Nat} {q : Nat × va_E} (e : (ab_w b cA h)[k]? = some q) : q.1 = b + k := by
  simp only [ab_w, List.getElem?_mapIdx] at e
  cases hk : h[k]? with
  | none => rw [hk] at e; cases e
  | some c => rw [hk] at e; cases e; rfl
theorem ab_w_set {b : Nat} {cA : Nat → ClassId} {h : ab_H} {k : Nat} {c : ab_C} : (ab_w b cA h).set k (b + k, ab_c b cA c) = ab_w b cA (h.set k c) := by
  apply List.ext_getElem?
  intro j
  simp only [ab_w, List.getElem?_set, List.getElem?_mapIdx, List.length_mapIdx]
  by_cases hj : k = j
  · subst hj
    by_cases hl : k < h.length <;> simp [hl]
  · simp [hj]
theorem ab_w_app {b : Nat} {cA : Nat → ClassId} {h : ab_H} {c : ab_C} : ab_w b cA (h ++ [c]) = ab_w b cA h ++ [(b + h.length, ab_c b cA c)] := by
  simp [ab_w, List.mapIdx_append]
theorem ab_w_D {b : Nat} {cA : Nat → ClassId} {h : ab_H} : va_D (fun q => b ≤ q) (ab_w b cA h) := by
  refine ⟨fun i j p q hi hj e => ?_, fun k q hk => ?_⟩
  · have e1 := ab_w_at hi
    have e2 := ab_w_at hj
    omega
  · have e1 := ab_w_at hk
    show b ≤ q.1
    omega
def ab_tb : List Cond := lw_tbl.filter goodWord
def ab_isX : Cond → Bool
  | .fieldLinkNest .. => true
  | .methodLinkNest .. => true
  | .arrayOver (.object _) => true
  | _ => false
def ab_xs : List Cond := tables_1.filter ab_isX
def ab_X (s : State) : Prop := ∀ w ∈ ab_xs, va_Nw w s
theorem ab_X.moved {s U : State} (hW : s.WarmedH U.vm) (h : ab_X s) : ab_X U := by
  intro w hw
  have h1 := h w hw
  have h2 := (List.mem_filter.mp hw).2
  match w, h1, h2 with
  | .fieldLinkNest .., h1, _ => exact va_Nw.warmF hW h1
  | .methodLinkNest .., h1, _ => exact va_Nw.warmM hW h1
  | .arrayOver (.object C), h1, _ => exact va_AO.moved (C := C) hW.alike h1
def ab_ty (cA : Nat → ClassId) : List (ClassId × FieldType) := [(cA 0, .int), (cA 1, .boolean), (cA 2, .object RX5), (cA 3, .object RX1), (cA 4, .object RX0)]
def ab_ws (M : ab_M) : List Cond := Cond.code M.2.1 M.2.2.1 M.2.2.2.1 M.2.2.2.2 :: ab_tb
def ab_R (d mc ms : Nat) : Room := { frames := d, cells := mc, slots := ms, locals := 36 * d }
def ab_E (g : ab_G) (s : State) : Prop := va_K g.1 vwCl (ab_ty g.2.1) s ∧ ab_X s ∧ g.2.2 ≤ s.heap.size
def ab_W (g : ab_G) (h : ab_H) (H : Heap) : Prop := H.size = g.2.2 + h.length ∧ va_P g.1 vwCl (ab_w g.2.2 g.2.1 h) H
def ab_F (g : ab_G) : Nat → Prop := fun q => g.2.2 ≤ q
abbrev ab_K : Type := Option Value → ab_H → Prop
def ab_Q (g : ab_G) (K : ab_K) : Array Value → State → Outcome → State → Prop := fun _ st oc t => (∃ (v : Option Value) (h : ab_H), oc = .returned (v.map (ab_v g.2.2)) ∧ K v h ∧ ab_W g h t.heap) ∧ va_F (ab_F g) st t
def ab_Pc (g : ab_G) (vs : List Value) (h : ab_H) : Array Value → State → Prop := va_Pc (vs.map (ab_v g.2.2)) (fun U => ab_E g U ∧ ab_W g h U.heap)
def ab_S (l : Launch) (g : ab_G) (M : ab_M) (d mc ms : Nat) (vs : List Value) (h : ab_H) (K : ab_K) : Prop := Met l M.2.1 (ab_ws M) (ab_R d mc ms) (ab_Pc g vs h) (ab_Q g K) mc ms (ab_F g)
def ab_Cx (M : ab_M) (p : Program) (s : State) (m : MethodId) (args : Array Value) (meth : Method) (c : Code) : Prop :=
  p.tables.exec = Jvm.exec ∧ c.code = M.2.2.1 ∧ meth.sig.returnType = M.2.2.2.2 ∧ c.maxLocals = M.2.2.2.1 ∧ s.vm.findClass M.1 = some m.cls ∧ (∀ w ∈ ab_ws M, w.before args s = true) ∧ meth.locks = false ∧ meth.name = M.2.1.name
def ab_ml (b : Nat) (ls : List (Nat × Value)) : List (Nat × Value) := ls.map (fun q => (q.1, ab_v b q.2))
def ab_Ev (l : Launch) (g : ab_G) (M : ab_M) (d mc ms : Nat) (pc : Nat) (ls : List (Nat × Value)) (st : List Value) (h : ab_H) (ce sl : Nat) (K : ab_K) : Prop :=
  ∀ (p : Program) (e : Env) (s : State) (m : MethodId) (args : Array Value) (below : List Frame) (meth : Method) (c : Code) (H : Heap) (locs : List Loc) (la : Array Slot),
    ab_Cx M p s m args meth c → ab_E g s → va_S (ab_F g) s.heap H locs → ab_W g h H → lv_has la M.2.2.2.1 (ab_ml g.2.2 ls) →
    W p l e (ab_R d mc ms) s m args below meth c H locs ce sl (MQ below (ab_Q g K) args s mc ms (ab_F g)) (F0 m pc la (st.map (ab_v g.2.2)))
theorem ab_cat (b : Nat) (v : Value) : (ab_v b v).category = v.category := by cases v <;> rfl
theorem ab_args (b : Nat) (vs : List Value) : ∀ i : Nat, lv_args i (vs.map (ab_v b)) = ab_ml b (lv_args i vs) := by
  induction vs with
  | nil => intro i; rfl
  | cons v t ih =>
    intro i
    simp only [List.map_cons, lv_args, ab_ml, ab_cat]
    rw [ih]
    rfl
theorem ab_sl (b : Nat) (vs : List Value) : (lg_sl (vs.map (ab_v b))).length = (lg_sl vs).length := by
  induction vs with
  | nil => rfl
  | cons v t ih =>
    simp only [lg_sl, List.map_cons, List.flatMap_cons, List.length_append, ab_cat] at ih ⊢
    rw [ih]
    by_cases h : v.category = 2 <;> simp [h]
theorem ab_enter {l : Launch} {g : ab_G} {M : ab_M} {d mc ms : Nat} {vs : List Value} {h : ab_H} {K : ab_K} {ls : List (Nat × Value)} (hy : plainName M.2.1.cls = true) (ho : M.1 = M.2.1.cls) (hlen : (lg_sl vs).length ≤ M.2.2.2.1) (hls : lv_args 0 vs = ls) (k : ab_Ev l g M d mc ms 0 ls [] h 0 0 K) : ab_S l g M d mc ms vs h K := by
  refine Met.ofW (cc := M.2.2.1) (maxL := M.2.2.2.1) (ret := M.2.2.2.2) hy rfl ?_
  intro p e s m args below meth c s₁ B hml hv
  obtain ⟨rfl, hE, hW⟩ := hv
  have hl := lv_entry (vs.map (ab_v g.2.2)) (n := M.2.2.2.1) (by rw [ab_sl]; exact hlen)
  rw [lg_entry_eq]
  rw [ab_args, hls] at hl
  have hown : s.vm.findClass M.1 = some m.cls := by rw [ho]; exact findClass_of_methodNamed B.named
  exact k p e s m _ below meth c s.heap [] _ ⟨B.exec, B.bytes, B.returns, hml, hown, atoms_spec (ws := ab_ws M) B.pre, B.notSynchronized, (name_of_methodNamed B.named B.method).1⟩ hE va_S.rf hW hl
end
section
section
variable {l : Launch} {g : ab_G} {M : ab_M} {d mc ms pc pc' ce sl : Nat} {ls ls' : List (Nat × Value)} {st : List Value} {h : ab_H} {K : ab_K}
theorem ab_ml_get {b : Nat} {ls : List (Nat × Value)} {q i : Nat} {v : Value} (e : ls[q]? = some (i, v)) : (ab_ml b ls)[q]? = some (i, ab_v b v) := by
  simp [ab_ml, e]
theorem ab_ml_f1 (b i : Nat) (ls : List (Nat × Value)) : (ab_ml b ls).filter (fun q => !(q.1 == i) && !(q.1 + 1 == i && q.2.category == 2)) = ab_ml b (ls.filter (fun q => !(q.1 == i) && !(q.1 + 1 == i && q.2.category == 2))) := by
  unfold ab_ml
  rw [List.filter_map]
  congr 1
  congr 1
  funext q
  simp [ab_cat]
theorem ab_ml_f2 (b i : Nat) (ls : List (Nat × Value)) : (ab_ml b ls).filter (fun q => !(q.1 == i) && (!(q.1 == i + 1) && !(q.1 + 1 == i && q.2.category == 2))) = ab_ml b (ls.filter (fun q => !(q.1 == i) && (!(q.1 == i + 1) && !(q.1 + 1 == i && q.2.category == 2)))) := by
  unfold ab_ml
  rw [List.filter_map]
  congr 1
  congr 1
  funext q
  simp [ab_cat]
/-- fewer locals -/
theorem ab_drop (ks : List Nat) (e : lv_pick ls ks = ls') (k : ab_Ev l g M d mc ms pc ls' st h ce sl K) : ab_Ev l g M d mc ms pc ls st h ce sl K := by
  intro p e' s m args below meth c H locs la C E S Wd hl
  refine k p e' s m args below meth c H locs la C E S Wd ⟨hl.1, hl.2.1, fun q hq => ?_⟩
  obtain ⟨q0, hq0, rfl⟩ := List.mem_map.mp hq
  rw [← e] at hq0
  obtain ⟨i, -, hi⟩ := List.mem_filterMap.mp hq0
  exact hl.2.2 _ (List.mem_map.mpr ⟨q0, List.mem_of_getElem? hi, rfl⟩)
theorem ab_widen {k n : Nat} (h1 : ce ≤ k) (h2 : sl ≤ n) (kk : ab_Ev l g M d mc ms pc ls st h k n K) : ab_Ev l g M d mc ms pc ls st h ce sl K := by
  intro p e' s m args below meth c H locs la C E S Wd hl
  exact W.widen h1 h2 (kk p e' s m args below meth c H locs la C E S Wd hl)
theorem ab_iconst {n : Int} {v : Int32} (hd : decode M.2.2.1 pc = .ok (.iconst n, 1)) (hv : Int32.ofInt n = v) (hp : pc + 1 = pc') (k : ab_Ev l g M d mc ms pc' ls (.int v :: st) h ce sl K) : ab_Ev l g M d mc ms pc ls st h ce sl K := by
  subst hp
  intro p e s m args below meth c H locs la C E S Wd hl
  exact lv_iconst C.1 C.2.1 hd hv (k p e s m args below meth c H locs la C E S Wd hl)
theorem ab_bipush {n : Int} {v : Int32} (hd : decode M.2.2.1 pc = .ok (.bipush n, 2)) (hv : (Int8.ofInt n).toInt32 = v) (hp : pc + 2 = pc') (k : ab_Ev l g M d mc ms pc' ls (.int v :: st) h ce sl K) : ab_Ev l g M d mc ms pc ls st h ce sl K := by
  subst hp
  intro p e s m args below meth c H locs la C E S Wd hl
  exact lv_bipush C.1 C.2.1 hd hv (k p e s m args below meth c H locs la C E S Wd hl)
theorem ab_sipush {n : Int} {v : Int32} (hd : decode M.2.2.1 pc = .ok (.sipush n, 3)) (hv : (Int16.ofInt n).toInt32 = v) (hp : pc + 3 = pc') (k : ab_Ev l g M d mc ms pc' ls (.int v :: st) h ce sl K) : ab_Ev l g M d mc ms pc ls st h ce sl K := by
  subst hp
  intro p e s m args below meth c H locs la C E S Wd hl
  exact lv_sipush C.1 C.2.1 hd hv (k p e s m args below meth c H locs la C E S Wd hl)
theorem ab_lconst {n : Fin 2} {v : Int64} (hd : decode M.2.2.1 pc = .ok (.lconst n, 1)) (hv : Int64.ofNat (n : Nat) = v) (hp : pc + 1 = pc') (k : ab_Ev l g M d mc ms pc' ls (.long v :: st) h ce sl K) : ab_Ev l g M d mc ms pc ls st h ce sl K := by
  subst hp
  intro p e s m args below meth c H locs la C E S Wd hl
  exact lv_lconst C.1 C.2.1 hd hv (k p e s m args below meth c H locs la C E S Wd hl)
theorem ab_iload_n {k4 : Fin 4} {i q : Nat} {x : Int32} (hd : decode M.2.2.1 pc = .ok (.iload_n k4, 1)) (hi : (k4 : Nat) = i) (hq : ls[q]? = some (i, .int x)) (hp : pc + 1 = pc') (k : ab_Ev l g M d mc ms pc' ls (.int x :: st) h ce sl K) : ab_Ev l g M d mc ms pc ls st h ce sl K := by
  subst hp
  intro p e s m args below meth c H locs la C E S Wd hl
  exact lv_iload_n C.1 C.2.1 hd hi (lv_at hl q (ab_ml_get hq)) (k p e s m args below meth c H locs la C E S Wd hl)
theorem ab_iload {i q : Nat} {x : Int32} (hd : decode M.2.2.1 pc = .ok (.iload i, 2)) (hq : ls[q]? = some (i, .int x)) (hp : pc + 2 = pc') (k : ab_Ev l g M d mc ms pc' ls (.int x :: st) h ce sl K) : ab_Ev l g M d mc ms pc ls st h ce sl K := by
  subst hp
  intro p e s m args below meth c H locs la C E S Wd hl
  exact lv_iload C.1 C.2.1 hd (lv_at hl q (ab_ml_get hq)) (k p e s m args below meth c H locs la C E S Wd hl)
theorem ab_istore_n {k4 : Fin 4} {i : Nat} {x : Int32} (hd : decode M.2.2.1 pc = .ok (.istore_n k4, 1)) (hi : (k4 : Nat) = i) (hb : i < M.2.2.2.1) (hs : (i, Value.int x) :: ls.filter (fun q => !(q.1 == i) && !(q.1 + 1 == i && q.2.category == 2)) = ls') (hp : pc + 1 = pc') (k : ab_Ev l g M d mc ms pc' ls' st h ce sl K) : ab_Ev l g M d mc ms pc ls (.int x :: st) h ce sl K := by
  subst hp
  intro p e s m args below meth c H locs la C E S Wd hl
  refine lv_istore_n (lv' := ab_ml g.2.2 ls') C.1 C.2.1 hd hi hl hb (by rw [ab_ml_f1, ← hs]; rfl) (fun la hl => ?_)
  exact (k p e s m args below meth c H locs la C E S Wd hl)
theorem ab_istore {i : Nat} {x : Int32} (hd : decode M.2.2.1 pc = .ok (.istore i, 2)) (hb : i < M.2.2.2.1) (hs : (i, Value.int x) :: ls.filter (fun q => !(q.1 == i) && !(q.1 + 1 == i && q.2.category == 2)) = ls') (hp : pc + 2 = pc') (k : ab_Ev l g M d mc ms pc' ls' st h ce sl K) : ab_Ev l g M d mc ms pc ls (.int x :: st) h ce sl K := by
  subst hp
  intro p e s m args below meth c H locs la C E S Wd hl
  refine lv_istore (lv' := ab_ml g.2.2 ls') C.1 C.2.1 hd hl hb (by rw [ab_ml_f1, ← hs]; rfl) (fun la hl => ?_)
  exact (k p e s m args below meth c H locs la C E S Wd hl)
theorem ab_lload_n {k4 : Fin 4} {i q : Nat} {x : Int64} (hd : decode M.2.2.1 pc = .ok (.lload_n k4, 1)) (hi : (k4 : Nat) = i) (hq : ls[q]? = some (i, .long x)) (hp : pc + 1 = pc') (k : ab_Ev l g M d mc ms pc' ls (.long x :: st) h ce sl K) : ab_Ev l g M d mc ms pc ls st h ce sl K := by
  subst hp
  intro p e s m args below meth c H locs la C E S Wd hl
  exact lv_lload_n C.1 C.2.1 hd hi (lv_at hl q (ab_ml_get hq)) (k p e s m args below meth c H locs la C E S Wd hl)
theorem ab_lload {i q : Nat} {x : Int64} (hd : decode M.2.2.1 pc = .ok (.lload i, 2)) (hq : ls[q]? = some (i, .long x)) (hp : pc + 2 = pc') (k : ab_Ev l g M d mc ms pc' ls (.long x :: st) h ce sl K) : ab_Ev l g M d mc ms pc ls st h ce sl K := by
  subst hp
  intro p e s m args below meth c H locs la C E S Wd hl
  exact lv_lload C.1 C.2.1 hd (lv_at hl q (ab_ml_get hq)) (k p e s m args below meth c H locs la C E S Wd hl)
theorem ab_lstore_n {k4 : Fin 4} {i : Nat} {x : Int64} (hd : decode M.2.2.1 pc = .ok (.lstore_n k4, 1)) (hi : (k4 : Nat) = i) (hb : i + 1 < M.2.2.2.1) (hs : (i, Value.long x) :: ls.filter (fun q => !(q.1 == i) && (!(q.1 == i + 1) && !(q.1 + 1 == i && q.2.category == 2))) = ls') (hp : pc + 1 = pc') (k : ab_Ev l g M d mc ms pc' ls' st h ce sl K) : ab_Ev l g M d mc ms pc ls (.long x :: st) h ce sl K := by
  subst hp
  intro p e s m args below meth c H locs la C E S Wd hl
  refine lv_lstore_n (lv' := ab_ml g.2.2 ls') C.1 C.2.1 hd hi hl hb (by rw [ab_ml_f2, ← hs]; rfl) (fun la hl => ?_)
  exact (k p e s m args below meth c H locs la C E S Wd hl)
theorem ab_lstore {i : Nat} {x : Int64} (hd : decode M.2.2.1 pc = .ok (.lstore i, 2)) (hb : i + 1 < M.2.2.2.1) (hs : (i, Value.long x) :: ls.filter (fun q => !(q.1 == i) && (!(q.1 == i + 1) && !(q.1 + 1 == i && q.2.category == 2))) = ls') (hp : pc + 2 = pc') (k : ab_Ev l g M d mc ms pc' ls' st h ce sl K) : ab_Ev l g M d mc ms pc ls (.long x :: st) h ce sl K := by
  subst hp
  intro p e s m args below meth c H locs la C E S Wd hl
  refine lv_lstore (lv' := ab_ml g.2.2 ls') C.1 C.2.1 hd hl hb (by rw [ab_ml_f2, ← hs]; rfl) (fun la hl => ?_)
  exact (k p e s m args below meth c H locs la C E S Wd hl)
theorem ab_aload_n {k4 : Fin 4} {i q : Nat} {x : Nat} (hd : decode M.2.2.1 pc = .ok (.aload_n k4, 1)) (hi : (k4 : Nat) = i) (hq : ls[q]? = some (i, .ref x)) (hp : pc + 1 = pc') (k : ab_Ev l g M d mc ms pc' ls (.ref x :: st) h ce sl K) : ab_Ev l g M d mc ms pc ls st h ce sl K := by
  subst hp
  intro p e s m args below meth c H locs la C E S Wd hl
  exact lv_aload_n C.1 C.2.1 hd hi (lv_at hl q (ab_ml_get hq)) (k p e s m args below meth c H locs la C E S Wd hl)
theorem ab_aload {i q : Nat} {x : Nat} (hd : decode M.2.2.1 pc = .ok (.aload i, 2)) (hq : ls[q]? = some (i, .ref x)) (hp : pc + 2 = pc') (k : ab_Ev l g M d mc ms pc' ls (.ref x :: st) h ce sl K) : ab_Ev l g M d mc ms pc ls st h ce sl K := by
  subst hp
  intro p e s m args below meth c H locs la C E S Wd hl
  exact lv_aload C.1 C.2.1 hd (lv_at hl q (ab_ml_get hq)) (k p e s m args below meth c H locs la C E S Wd hl)
theorem ab_astore_n {k4 : Fin 4} {i : Nat} {x : Nat} (hd : decode M.2.2.1 pc = .ok (.astore_n k4, 1)) (hi : (k4 : Nat) = i) (hb : i < M.2.2.2.1) (hs : (i, Value.ref x) :: ls.filter (fun q => !(q.1 == i) && !(q.1 + 1 == i && q.2.category == 2)) = ls') (hp : pc + 1 = pc') (k : ab_Ev l g M d mc ms pc' ls' st h ce sl K) : ab_Ev l g M d mc ms pc ls (.ref x :: st) h ce sl K := by
  subst hp
  intro p e s m args below meth c H locs la C E S Wd hl
  refine lv_astore_n (lv' := ab_ml g.2.2 ls') C.1 C.2.1 hd hi hl hb (by rw [ab_ml_f1, ← hs]; rfl) (fun la hl => ?_)
  exact (k p e s m args below meth c H locs la C E S Wd hl)
theorem ab_astore {i : Nat} {x : Nat} (hd : decode M.2.2.1 pc = .ok (.astore i, 2)) (hb : i < M.2.2.2.1) (hs : (i, Value.ref x) :: ls.filter (fun q => !(q.1 == i) && !(q.1 + 1 == i && q.2.category == 2)) = ls') (hp : pc + 2 = pc') (k : ab_Ev l g M d mc ms pc' ls' st h ce sl K) : ab_Ev l g M d mc ms pc ls (.ref x :: st) h ce sl K := by
  subst hp
  intro p e s m args below meth c H locs la C E S Wd hl
  refine lv_astore (lv' := ab_ml g.2.2 ls') C.1 C.2.1 hd hl hb (by rw [ab_ml_f1, ← hs]; rfl) (fun la hl => ?_)
  exact (k p e s m args below meth c H locs la C E S Wd hl)
theorem ab_iinc {i q : Nat} {n : Int} {x v : Int32} (hd : decode M.2.2.1 pc = .ok (.iinc i n, 3)) (hq : ls[q]? = some (i, .int x)) (hv : x + Int32.ofInt n = v) (hb : i < M.2.2.2.1) (hs : (i, Value.int v) :: ls.filter (fun q => !(q.1 == i) && !(q.1 + 1 == i && q.2.category == 2)) = ls') (hp : pc + 3 = pc') (k : ab_Ev l g M d mc ms pc' ls' st h ce sl K) : ab_Ev l g M d mc ms pc ls st h ce sl K := by
  subst hp
  intro p e s m args below meth c H locs la C E S Wd hl
  refine lv_iinc (lv' := ab_ml g.2.2 ls') C.1 C.2.1 hd hl (ab_ml_get hq) hv hb (by rw [ab_ml_f1, ← hs]; rfl) (fun la hl => ?_)
  exact (k p e s m args below meth c H locs la C E S Wd hl)
theorem ab_iadd {x y : Int32} (hd : decode M.2.2.1 pc = .ok (.iadd, 1))  (hp : pc + 1 = pc') (k : ab_Ev l g M d mc ms pc' ls (.int (x + y) :: st) h ce sl K) : ab_Ev l g M d mc ms pc ls (.int y :: .int x :: st) h ce sl K := by
  subst hp
  intro p e s m args below meth c H locs la C E S Wd hl
  exact lv_iadd C.1 C.2.1 hd  (k p e s m args below meth c H locs la C E S Wd hl)
theorem ab_isub {x y : Int32} (hd : decode M.2.2.1 pc = .ok (.isub, 1))  (hp : pc + 1 = pc') (k : ab_Ev l g M d mc ms pc' ls (.int (x - y) :: st) h ce sl K) : ab_Ev l g M d mc ms pc ls (.int y :: .int x :: st) h ce sl K := by
  subst hp
  intro p e s m args below meth c H locs la C E S Wd hl
  exact lv_isub C.1 C.2.1 hd  (k p e s m args below meth c H locs la C E S Wd hl)
theorem ab_imul {x y : Int32} (hd : decode M.2.2.1 pc = .ok (.imul, 1))  (hp : pc + 1 = pc') (k : ab_Ev l g M d mc ms pc' ls (.int (x * y) :: st) h ce sl K) : ab_Ev l g M d mc ms pc ls (.int y :: .int x :: st) h ce sl K := by
  subst hp
  intro p e s m args below meth c H locs la C E S Wd hl
  exact lv_imul C.1 C.2.1 hd  (k p e s m args below meth c H locs la C E S Wd hl)
theorem ab_iand {x y : Int32} (hd : decode M.2.2.1 pc = .ok (.iand, 1))  (hp : pc + 1 = pc') (k : ab_Ev l g M d mc ms pc' ls (.int (x &&& y) :: st) h ce sl K) : ab_Ev l g M d mc ms pc ls (.int y :: .int x :: st) h ce sl K := by
  subst hp
  intro p e s m args below meth c H locs la C E S Wd hl
  exact lv_iand C.1 C.2.1 hd  (k p e s m args below meth c H locs la C E S Wd hl)
theorem ab_idiv {x y : Int32} (hd : decode M.2.2.1 pc = .ok (.idiv, 1)) (hne : ¬ y = 0) (hp : pc + 1 = pc') (k : ab_Ev l g M d mc ms pc' ls (.int (x / y) :: st) h ce sl K) : ab_Ev l g M d mc ms pc ls (.int y :: .int x :: st) h ce sl K := by
  subst hp
  intro p e s m args below meth c H locs la C E S Wd hl
  exact lv_idiv C.1 C.2.1 hd hne (k p e s m args below meth c H locs la C E S Wd hl)
theorem ab_irem {x y : Int32} (hd : decode M.2.2.1 pc = .ok (.irem, 1)) (hne : ¬ y = 0) (hp : pc + 1 = pc') (k : ab_Ev l g M d mc ms pc' ls (.int (x - x / y * y) :: st) h ce sl K) : ab_Ev l g M d mc ms pc ls (.int y :: .int x :: st) h ce sl K := by
  subst hp
  intro p e s m args below meth c H locs la C E S Wd hl
  exact lv_irem C.1 C.2.1 hd hne (k p e s m args below meth c H locs la C E S Wd hl)
theorem ab_lmul {x y : Int64} (hd : decode M.2.2.1 pc = .ok (.lmul, 1))  (hp : pc + 1 = pc') (k : ab_Ev l g M d mc ms pc' ls (.long (x * y) :: st) h ce sl K) : ab_Ev l g M d mc ms pc ls (.long y :: .long x :: st) h ce sl K := by
  subst hp
  intro p e s m args below meth c H locs la C E S Wd hl
  exact lv_lmul C.1 C.2.1 hd  (k p e s m args below meth c H locs la C E S Wd hl)
theorem ab_lcmp {x y : Int64} (hd : decode M.2.2.1 pc = .ok (.lcmp, 1))  (hp : pc + 1 = pc') (k : ab_Ev l g M d mc ms pc' ls (.int (lg_cmp x y) :: st) h ce sl K) : ab_Ev l g M d mc ms pc ls (.long y :: .long x :: st) h ce sl K := by
  subst hp
  intro p e s m args below meth c H locs la C E S Wd hl
  exact W.lcmp C.1 C.2.1 hd  (k p e s m args below meth c H locs la C E S Wd hl)
theorem ab_i2l {x : Int32} (hd : decode M.2.2.1 pc = .ok (.i2l, 1))  (hp : pc + 1 = pc') (k : ab_Ev l g M d mc ms pc' ls (.long x.toInt64 :: st) h ce sl K) : ab_Ev l g M d mc ms pc ls (.int x :: st) h ce sl K := by
  subst hp
  intro p e s m args below meth c H locs la C E S Wd hl
  exact lv_i2l C.1 C.2.1 hd rfl (k p e s m args below meth c H locs la C E S Wd hl)
theorem ab_dup_int {x : Int32} (hd : decode M.2.2.1 pc = .ok (.dup, 1))  (hp : pc + 1 = pc') (k : ab_Ev l g M d mc ms pc' ls (.int x :: .int x :: st) h ce sl K) : ab_Ev l g M d mc ms pc ls (.int x :: st) h ce sl K := by
  subst hp
  intro p e s m args below meth c H locs la C E S Wd hl
  exact lv_dup C.1 C.2.1 hd rfl (k p e s m args below meth c H locs la C E S Wd hl)
theorem ab_dup_ref {x : Nat} (hd : decode M.2.2.1 pc = .ok (.dup, 1))  (hp : pc + 1 = pc') (k : ab_Ev l g M d mc ms pc' ls (.ref x :: .ref x :: st) h ce sl K) : ab_Ev l g M d mc ms pc ls (.ref x :: st) h ce sl K := by
  subst hp
  intro p e s m args below meth c H locs la C E S Wd hl
  exact lv_dup C.1 C.2.1 hd rfl (k p e s m args below meth c H locs la C E S Wd hl)
theorem ab_dup2 {x : Int32} {r : Nat} (hd : decode M.2.2.1 pc = .ok (.dup2, 1))  (hp : pc + 1 = pc') (k : ab_Ev l g M d mc ms pc' ls (.int x :: .ref r :: .int x :: .ref r :: st) h ce sl K) : ab_Ev l g M d mc ms pc ls (.int x :: .ref r :: st) h ce sl K := by
  subst hp
  intro p e s m args below meth c H locs la C E S Wd hl
  exact lv_dup2_11 C.1 C.2.1 hd rfl rfl (k p e s m args below meth c H locs la C E S Wd hl)
theorem ab_if_eq {x : Int32} {off : Int} {tgt : Nat} (hd : decode M.2.2.1 pc = .ok (.ifCond .eq off, 3)) (ht : (pc : Int) + off = (tgt : Int)) (hp : pc + 3 = pc') (kt : x = 0 → ab_Ev l g M d mc ms tgt ls st h ce sl K) (kf : ¬ (x = 0) → ab_Ev l g M d mc ms pc' ls st h ce sl K) : ab_Ev l g M d mc ms pc ls (.int x :: st) h ce sl K := by
  subst hp
  intro p e s m args below meth c H locs la C E S Wd hl
  exact lv_if_eq C.1 C.2.1 hd ht (fun z => kt z p e s m args below meth c H locs la C E S Wd hl) (fun z => kf z p e s m args below meth c H locs la C E S Wd hl)
theorem ab_icmp_eq {x y : Int32} {off : Int} {tgt : Nat} (hd : decode M.2.2.1 pc = .ok (.if_icmp .eq off, 3)) (ht : (pc : Int) + off = (tgt : Int)) (hp : pc + 3 = pc') (kt : x = y → ab_Ev l g M d mc ms tgt ls st h ce sl K) (kf : ¬ (x = y) → ab_Ev l g M d mc ms pc' ls st h ce sl K) : ab_Ev l g M d mc ms pc ls (.int y :: .int x :: st) h ce sl K := by
  subst hp
  intro p e s m args below meth c H locs la C E S Wd hl
  exact lv_icmp_eq C.1 C.2.1 hd ht (fun z => kt z p e s m args below meth c H locs la C E S Wd hl) (fun z => kf z p e s m args below meth c H locs la C E S Wd hl)
theorem ab_if_ne {x : Int32} {off : Int} {tgt : Nat} (hd : decode M.2.2.1 pc = .ok (.ifCond .ne off, 3)) (ht : (pc : Int) + off = (tgt : Int)) (hp : pc + 3 = pc') (kt : ¬ x = 0 → ab_Ev l g M d mc ms tgt ls st h ce sl K) (kf : x = 0 → ab_Ev l g M d mc ms pc' ls st h ce sl K) : ab_Ev l g M d mc ms pc ls (.int x :: st) h ce sl K := by
  subst hp
  intro p e s m args below meth c H locs la C E S Wd hl
  exact lv_if_ne C.1 C.2.1 hd ht (fun z => kt z p e s m args below meth c H locs la C E S Wd hl) (fun z => kf z p e s m args below meth c H locs la C E S Wd hl)
theorem ab_icmp_ne {x y : Int32} {off : Int} {tgt : Nat} (hd : decode M.2.2.1 pc = .ok (.if_icmp .ne off, 3)) (ht : (pc : Int) + off = (tgt : Int)) (hp : pc + 3 = pc') (kt : ¬ x = y → ab_Ev l g M d mc ms tgt ls st h ce sl K) (kf : x = y → ab_Ev l g M d mc ms pc' ls st h ce sl K) : ab_Ev l g M d mc ms pc ls (.int y :: .int x :: st) h ce sl K := by
  subst hp
  intro p e s m args below meth c H locs la C E S Wd hl
  exact lv_icmp_ne C.1 C.2.1 hd ht (fun z => kt z p e s m args below meth c H locs la C E S Wd hl) (fun z => kf z p e s m args below meth c H locs la C E S Wd hl)
theorem ab_if_lt {x : Int32} {off : Int} {tgt : Nat} (hd : decode M.2.2.1 pc = .ok (.ifCond .lt off, 3)) (ht : (pc : Int) + off = (tgt : Int)) (hp : pc + 3 = pc') (kt : x < 0 → ab_Ev l g M d mc ms tgt ls st h ce sl K) (kf : ¬ (x < 0) → ab_Ev l g M d mc ms pc' ls st h ce sl K) : ab_Ev l g M d mc ms pc ls (.int x :: st) h ce sl K := by
  subst hp
  intro p e s m args below meth c H locs la C E S Wd hl
  exact lv_if_lt C.1 C.2.1 hd ht (fun z => kt z p e s m args below meth c H locs la C E S Wd hl) (fun z => kf z p e s m args below meth c H locs la C E S Wd hl)
theorem ab_icmp_lt {x y : Int32} {off : Int} {tgt : Nat} (hd : decode M.2.2.1 pc = .ok (.if_icmp .lt off, 3)) (ht : (pc : Int) + off = (tgt : Int)) (hp : pc + 3 = pc') (kt : x < y → ab_Ev l g M d mc ms tgt ls st h ce sl K) (kf : ¬ (x < y) → ab_Ev l g M d mc ms pc' ls st h ce sl K) : ab_Ev l g M d mc ms pc ls (.int y :: .int x :: st) h ce sl K := by
  subst hp
  intro p e s m args below meth c H locs la C E S Wd hl
  exact lv_icmp_lt C.1 C.2.1 hd ht (fun z => kt z p e s m args below meth c H locs la C E S Wd hl) (fun z => kf z p e s m args below meth c H locs la C E S Wd hl)
theorem ab_if_ge {x : Int32} {off : Int} {tgt : Nat} (hd : decode M.2.2.1 pc = .ok (.ifCond .ge off, 3)) (ht : (pc : Int) + off = (tgt : Int)) (hp : pc + 3 = pc') (kt : 0 ≤ x → ab_Ev l g M d mc ms tgt ls st h ce sl K) (kf : ¬ (0 ≤ x) → ab_Ev l g M d mc ms pc' ls st h ce sl K) : ab_Ev l g M d mc ms pc ls (.int x :: st) h ce sl K := by
  subst hp
  intro p e s m args below meth c H locs la C E S Wd hl
  exact lv_if_ge C.1 C.2.1 hd ht (fun z => kt z p e s m args below meth c H locs la C E S Wd hl) (fun z => kf z p e s m args below meth c H locs la C E S Wd hl)
theorem ab_icmp_ge {x y : Int32} {off : Int} {tgt : Nat} (hd : decode M.2.2.1 pc = .ok (.if_icmp .ge off, 3)) (ht : (pc : Int) + off = (tgt : Int)) (hp : pc + 3 = pc') (kt : y ≤ x → ab_Ev l g M d mc ms tgt ls st h ce sl K) (kf : ¬ (y ≤ x) → ab_Ev l g M d mc ms pc' ls st h ce sl K) : ab_Ev l g M d mc ms pc ls (.int y :: .int x :: st) h ce sl K := by
  subst hp
  intro p e s m args below meth c H locs la C E S Wd hl
  exact lv_icmp_ge C.1 C.2.1 hd ht (fun z => kt z p e s m args below meth c H locs la C E S Wd hl) (fun z => kf z p e s m args below meth c H locs la C E S Wd hl)
theorem ab_if_gt {x : Int32} {off : Int} {tgt : Nat} (hd : decode M.2.2.1 pc = .ok (.ifCond .gt off, 3)) (ht : (pc : Int) + off = (tgt : Int)) (hp : pc + 3 = pc') (kt : 0 < x → ab_Ev l g M d mc ms tgt ls st h ce sl K) (kf : ¬ (0 < x) → ab_Ev l g M d mc ms pc' ls st h ce sl K) : ab_Ev l g M d mc ms pc ls (.int x :: st) h ce sl K := by
  subst hp
  intro p e s m args below meth c H locs la C E S Wd hl
  exact lv_if_gt C.1 C.2.1 hd ht (fun z => kt z p e s m args below meth c H locs la C E S Wd hl) (fun z => kf z p e s m args below meth c H locs la C E S Wd hl)
theorem ab_icmp_gt {x y : Int32} {off : Int} {tgt : Nat} (hd : decode M.2.2.1 pc = .ok (.if_icmp .gt off, 3)) (ht : (pc : Int) + off = (tgt : Int)) (hp : pc + 3 = pc') (kt : y < x → ab_Ev l g M d mc ms tgt ls st h ce sl K) (kf : ¬ (y < x) → ab_Ev l g M d mc ms pc' ls st h ce sl K) : ab_Ev l g M d mc ms pc ls (.int y :: .int x :: st) h ce sl K := by
  subst hp
  intro p e s m args below meth c H locs la C E S Wd hl
  exact lv_icmp_gt C.1 C.2.1 hd ht (fun z => kt z p e s m args below meth c H locs la C E S Wd hl) (fun z => kf z p e s m args below meth c H locs la C E S Wd hl)
theorem ab_if_le {x : Int32} {off : Int} {tgt : Nat} (hd : decode M.2.2.1 pc = .ok (.ifCond .le off, 3)) (ht : (pc : Int) + off = (tgt : Int)) (hp : pc + 3 = pc') (kt : x ≤ 0 → ab_Ev l g M d mc ms tgt ls st h ce sl K) (kf : ¬ (x ≤ 0) → ab_Ev l g M d mc ms pc' ls st h ce sl K) : ab_Ev l g M d mc ms pc ls (.int x :: st) h ce sl K := by
  subst hp
  intro p e s m args below meth c H locs la C E S Wd hl
  exact lv_if_le C.1 C.2.1 hd ht (fun z => kt z p e s m args below meth c H locs la C E S Wd hl) (fun z => kf z p e s m args below meth c H locs la C E S Wd hl)
theorem ab_icmp_le {x y : Int32} {off : Int} {tgt : Nat} (hd : decode M.2.2.1 pc = .ok (.if_icmp .le off, 3)) (ht : (pc : Int) + off = (tgt : Int)) (hp : pc + 3 = pc') (kt : x ≤ y → ab_Ev l g M d mc ms tgt ls st h ce sl K) (kf : ¬ (x ≤ y) → ab_Ev l g M d mc ms pc' ls st h ce sl K) : ab_Ev l g M d mc ms pc ls (.int y :: .int x :: st) h ce sl K := by
  subst hp
  intro p e s m args below meth c H locs la C E S Wd hl
  exact lv_icmp_le C.1 C.2.1 hd ht (fun z => kt z p e s m args below meth c H locs la C E S Wd hl) (fun z => kf z p e s m args below meth c H locs la C E S Wd hl)
theorem ab_goto {off : Int} {tgt : Nat} (hd : decode M.2.2.1 pc = .ok (.goto off, 3)) (ht : (pc : Int) + off = (tgt : Int)) (k : ab_Ev l g M d mc ms tgt ls st h ce sl K) : ab_Ev l g M d mc ms pc ls st h ce sl K := by
  intro p e s m args below meth c H locs la C E S Wd hl
  exact lv_goto C.1 C.2.1 hd ht (k p e s m args below meth c H locs la C E S Wd hl)
theorem ab_lookup {dflt : Int} {ps : Array (Int × Int)} {len : Nat} {x : Int32} {off : Int} {tgt : Nat} (hd : decode M.2.2.1 pc = .ok (.lookupswitch dflt ps, len)) (hps : (ps.toList.zip (ps.toList.drop 1)).all (fun (a, next) => a.1 < next.1) = true) (ho : Op.lookupswitch.offset ps.toList dflt x.toInt = off) (ht : (pc : Int) + off = (tgt : Int)) (k : ab_Ev l g M d mc ms tgt ls st h ce sl K) : ab_Ev l g M d mc ms pc ls (.int x :: st) h ce sl K := by
  intro p e s m args below meth c H locs la C E S Wd hl
  exact lv_lookup C.1 C.2.1 hd hps ho ht (k p e s m args below meth c H locs la C E S Wd hl)
theorem ab_tableOut {dflt lo hi : Int} {offs : Array Int} {len : Nat} {x : Int32} {tgt : Nat} (hd : decode M.2.2.1 pc = .ok (.tableswitch dflt lo hi offs, len)) (hx : x.toInt < lo ∨ hi < x.toInt) (ht : (pc : Int) + dflt = (tgt : Int)) (k : ab_Ev l g M d mc ms tgt ls st h ce sl K) : ab_Ev l g M d mc ms pc ls (.int x :: st) h ce sl K := by
  intro p e s m args below meth c H locs la C E S Wd hl
  exact lv_tableOut C.1 C.2.1 hd hx ht (k p e s m args below meth c H locs la C E S Wd hl)
theorem ab_tableIn {dflt lo hi : Int} {offs : Array Int} {len : Nat} {x : Int32} {off : Int} {tgt : Nat} (hd : decode M.2.2.1 pc = .ok (.tableswitch dflt lo hi offs, len)) (h1 : ¬ x.toInt < lo) (h2 : ¬ hi < x.toInt) (ho : offs[(x.toInt - lo).toNat]? = some off) (ht : (pc : Int) + off = (tgt : Int)) (k : ab_Ev l g M d mc ms tgt ls st h ce sl K) : ab_Ev l g M d mc ms pc ls (.int x :: st) h ce sl K := by
  intro p e s m args below meth c H locs la C E S Wd hl
  exact lv_tableIn C.1 C.2.1 hd h1 h2 ho ht (k p e s m args below meth c H locs la C E S Wd hl)
theorem ab_ne {x c : Int32} {i : Int} (hc : c.toInt = i) (hx : ¬ x = c) : ¬ x.toInt = i := fun e => hx (Int32.toInt_inj.mp (e.trans hc.symm))
/-- the ends -/
theorem ab_iret {x : Int32} (hr : M.2.2.2.2 = some .int) (hd : decode M.2.2.1 pc = .ok (.ireturn, 1)) (hk : K (some (.int x)) h) : ab_Ev l g M d mc ms pc ls [.int x] h mc ms K := by
  intro p e s m args below meth c H locs la C E S Wd hl
  exact W.iret C.1 C.2.1 (C.2.2.1.trans hr) (fun t ht hW => ⟨⟨some (.int x), h, rfl, hk, by rw [ht]; exact Wd⟩, S.F ht⟩) S.2.2 hd C.2.2.2.2.2.2.1
theorem ab_zret {x : Int32} (hr : M.2.2.2.2 = some .boolean) (hn : narrow .boolean (.int x) = .int x) (hd : decode M.2.2.1 pc = .ok (.ireturn, 1)) (hk : K (some (.int x)) h) : ab_Ev l g M d mc ms pc ls [.int x] h mc ms K := by
  intro p e s m args below meth c H locs la C E S Wd hl
  exact W.zret C.1 C.2.1 (C.2.2.1.trans hr) hn (fun t ht hW => ⟨⟨some (.int x), h, rfl, hk, by rw [ht]; exact Wd⟩, S.F ht⟩) S.2.2 hd C.2.2.2.2.2.2.1
theorem ab_aret {r : Nat} {n : String} (hr : M.2.2.2.2 = some (.object n)) (hd : decode M.2.2.1 pc = .ok (.areturn, 1)) (hk : K (some (.ref r)) h) : ab_Ev l g M d mc ms pc ls [.ref r] h mc ms K := by
  intro p e s m args below meth c H locs la C E S Wd hl
  exact W.aret (v := .ref (g.2.2 + r)) C.1 C.2.1 (C.2.2.1.trans hr) (Or.inl ⟨_, rfl⟩) (Or.inr ⟨_, rfl⟩) (fun t ht hW => ⟨⟨some (.ref r), h, rfl, hk, by rw [ht]; exact Wd⟩, S.F ht⟩) S.2.2 hd C.2.2.2.2.2.2.1
theorem ab_vret (hr : M.2.2.2.2 = none) (hd : decode M.2.2.1 pc = .ok (.return_, 1)) (hk : K none h) : ab_Ev l g M d mc ms pc ls [] h mc ms K := by
  intro p e s m args below meth c H locs la C E S Wd hl
  exact W.vret C.1 C.2.1 (C.2.2.1.trans hr) (fun t ht hW => ⟨⟨none, h, rfl, hk, by rw [ht]; exact Wd⟩, S.F ht⟩) S.2.2 hd C.2.2.2.2.2.2.1
end
end
section
/-! the heap's own rows: what is read and written, as functions of the picture -/
def ab_gI (h : ab_H) (a ci k : Nat) : Option Int32 := match h[a]? with
  | some (.inr (c, fs)) => if c = ci then (match fs[k]? with
    | some (.int x) => some x
    | _ => none) else none
  | _ => none
def ab_gR (h : ab_H) (a ci k : Nat) : Option Nat := match h[a]? with
  | some (.inr (c, fs)) => if c = ci then (match fs[k]? with
    | some (.ref x) => some x
    | _ => none) else none
  | _ => none
def ab_pV (h : ab_H) (a ci k : Nat) (v : Value) : Option ab_H := match h[a]? with
  | some (.inr (c, fs)) => if c = ci ∧ k < fs.length then some (h.set a (.inr (ci, fs.set k v))) else none
  | _ => none
def ab_aI (h : ab_H) (r : Nat) (i : Int32) : Option Int32 := match h[r]? with
  | some (.inl (0, n, .inl f)) => if i < 0 ∨ n ≤ i.toNatClampNeg then none else some (f i.toNatClampNeg)
  | _ => none
def ab_aZ (h : ab_H) (r : Nat) (i : Int32) : Option Int32 := match h[r]? with
  | some (.inl (1, n, .inl f)) => if i < 0 ∨ n ≤ i.toNatClampNeg then none else some (f i.toNatClampNeg)
  | _ => none
def ab_aR (h : ab_H) (r : Nat) (i : Int32) : Option Nat := match h[r]? with
  | some (.inl (t, n, .inr (.inr (.inr (.inr f))))) => if i < 0 ∨ n ≤ i.toNatClampNeg ∨ t < 2 ∨ 4 < t then none else f i.toNatClampNeg
  | _ => none
def ab_sI (h : ab_H) (r : Nat) (i x : Int32) : Option ab_H := match h[r]? with
  | some (.inl (0, n, .inl f)) => if i < 0 ∨ n ≤ i.toNatClampNeg then none else some (h.set r (.inl (0, n, .inl (upd f i.toNatClampNeg x))))
  | _ => none
def ab_sZ (h : ab_H) (r : Nat) (i x : Int32) : Option ab_H := match h[r]? with
  | some (.inl (1, n, .inl f)) => if i < 0 ∨ n ≤ i.toNatClampNeg then none else some (h.set r (.inl (1, n, .inl (upd f i.toNatClampNeg (vp_nar .boolean x)))))
  | _ => none
def ab_ek (t : Nat) : Nat := if t = 2 then 5 else if t = 3 then 1 else 0
def ab_sR (h : ab_H) (r : Nat) (i : Int32) (v : Nat) : Option ab_H := match h[r]?, h[v]? with
  | some (.inl (t, n, .inr (.inr (.inr (.inr f))))), some (.inr (c, _)) => if i < 0 ∨ n ≤ i.toNatClampNeg ∨ t < 2 ∨ 4 < t ∨ c ≠ ab_ek t then none else some (h.set r (.inl (t, n, .inr (.inr (.inr (.inr (va_up f i.toNatClampNeg (some v))))))))
  | _, _ => none
def ab_cp (h : ab_H) (r0 : Nat) (sp : Int32) (r1 : Nat) (dp n : Int32) : Option ab_H := match h[r0]?, h[r1]? with
  | some (.inl (0, n0, .inl f)), some (.inl (0, n1, .inl f1)) => if sp < 0 ∨ dp < 0 ∨ n < 0 ∨ n0 < sp.toNatClampNeg + n.toNatClampNeg ∨ n1 < dp.toNatClampNeg + n.toNatClampNeg then none else some (h.set r1 (.inl (0, n1, .inl (va_cpy f f1 sp.toNatClampNeg dp.toNatClampNeg n.toNatClampNeg))))
  | _, _ => none
theorem ab_gI_of {h : ab_H} {a ci k : Nat} {x : Int32} (e : ab_gI h a ci k = some x) : ∃ fs, h[a]? = some (.inr (ci, fs)) ∧ fs[k]? = some (.int x) := by
  unfold ab_gI at e
  split at e
  · next c fs hc =>
    split at e
    · next hci =>
      split at e
      · next y hy => cases e; exact ⟨fs, by rw [hc, hci], hy⟩
      · cases e
    · cases e
  · cases e
theorem ab_gR_of {h : ab_H} {a ci k : Nat} {x : Nat} (e : ab_gR h a ci k = some x) : ∃ fs, h[a]? = some (.inr (ci, fs)) ∧ fs[k]? = some (.ref x) := by
  unfold ab_gR at e
  split at e
  · next c fs hc =>
    split at e
    · next hci =>
      split at e
      · next y hy => cases e; exact ⟨fs, by rw [hc, hci], hy⟩
      · cases e
    · cases e
  · cases e
theorem ab_pV_of {h h' : ab_H} {a ci k : Nat} {v : Value} (e : ab_pV h a ci k v = some h') : ∃ fs, h[a]? = some (.inr (ci, fs)) ∧ k < fs.length ∧ h' = h.set a (.inr (ci, fs.set k v)) := by
  unfold ab_pV at e
  split at e
  · next c fs hc =>
    split at e
    · next hci => cases e; exact ⟨fs, by rw [hc, hci.1], hci.2, rfl⟩
    · cases e
  · cases e
theorem ab_aI_of {h : ab_H} {r : Nat} {i x : Int32} (e : ab_aI h r i = some x) : ∃ n f, h[r]? = some (.inl (0, n, .inl f)) ∧ vp_in i n ∧ x = f i.toNatClampNeg := by
  unfold ab_aI at e
  split at e
  · next n f hc =>
    split at e
    · cases e
    · next hn => cases e; exact ⟨n, f, hc, hn, rfl⟩
  · cases e
theorem ab_aZ_of {h : ab_H} {r : Nat} {i x : Int32} (e : ab_aZ h r i = some x) : ∃ n f, h[r]? = some (.inl (1, n, .inl f)) ∧ vp_in i n ∧ x = f i.toNatClampNeg := by
  unfold ab_aZ at e
  split at e
  · next n f hc =>
    split at e
    · cases e
    · next hn => cases e; exact ⟨n, f, hc, hn, rfl⟩
  · cases e
theorem ab_aR_of {h : ab_H} {r x : Nat} {i : Int32} (e : ab_aR h r i = some x) : ∃ t n f, h[r]? = some (.inl (t, n, .inr (.inr (.inr (.inr f))))) ∧ vp_in i n ∧ f i.toNatClampNeg = some x ∧ ¬ t < 2 ∧ ¬ 4 < t := by
  unfold ab_aR at e
  split at e
  · next t n f hc =>
    split at e
    · cases e
    · next hn => exact ⟨t, n, f, hc, fun q => hn (q.elim Or.inl (fun z => Or.inr (Or.inl z))), e, fun q => hn (Or.inr (Or.inr (Or.inl q))), fun q => hn (Or.inr (Or.inr (Or.inr q)))⟩
  · cases e
theorem ab_sI_of {h h' : ab_H} {r : Nat} {i x : Int32} (e : ab_sI h r i x = some h') : ∃ n f, h[r]? = some (.inl (0, n, .inl f)) ∧ vp_in i n ∧ h' = h.set r (.inl (0, n, .inl (upd f i.toNatClampNeg x))) := by
  unfold ab_sI at e
  split at e
  · next n f hc =>
    split at e
    · cases e
    · next hn => cases e; exact ⟨n, f, hc, hn, rfl⟩
  · cases e
theorem ab_sZ_of {h h' : ab_H} {r : Nat} {i x : Int32} (e : ab_sZ h r i x = some h') : ∃ n f, h[r]? = some (.inl (1, n, .inl f)) ∧ vp_in i n ∧ h' = h.set r (.inl (1, n, .inl (upd f i.toNatClampNeg (vp_nar .boolean x)))) := by
  unfold ab_sZ at e
  split at e
  · next n f hc =>
    split at e
    · cases e
    · next hn => cases e; exact ⟨n, f, hc, hn, rfl⟩
  · cases e
theorem ab_sR_of {h h' : ab_H} {r v : Nat} {i : Int32} (e : ab_sR h r i v = some h') : ∃ t n f c vs, h[r]? = some (.inl (t, n, .inr (.inr (.inr (.inr f))))) ∧ h[v]? = some (.inr (c, vs)) ∧ vp_in i n ∧ ¬ t < 2 ∧ ¬ 4 < t ∧ c = ab_ek t ∧ h' = h.set r (.inl (t, n, .inr (.inr (.inr (.inr (va_up f i.toNatClampNeg (some v))))))) := by
  unfold ab_sR at e
  split at e
  · next t n f c vs hc hv =>
    split at e
    · cases e
    · next hn =>
      cases e
      refine ⟨t, n, f, c, vs, hc, hv, fun q => hn (q.elim Or.inl (fun z => Or.inr (Or.inl z))), fun q => hn (Or.inr (Or.inr (Or.inl q))), fun q => hn (Or.inr (Or.inr (Or.inr (Or.inl q)))), ?_, rfl⟩
      exact Classical.byContradiction fun q => hn (Or.inr (Or.inr (Or.inr (Or.inr q))))
  · cases e
theorem ab_cp_of {h h' : ab_H} {r0 r1 : Nat} {sp dp n : Int32} (e : ab_cp h r0 sp r1 dp n = some h') : ∃ n0 n1 f f1, h[r0]? = some (.inl (0, n0, .inl f)) ∧ h[r1]? = some (.inl (0, n1, .inl f1)) ∧ ¬ sp < 0 ∧ ¬ dp < 0 ∧ ¬ n < 0 ∧ sp.toNatClampNeg + n.toNatClampNeg ≤ n0 ∧ dp.toNatClampNeg + n.toNatClampNeg ≤ n1 ∧ h' = h.set r1 (.inl (0, n1, .inl (va_cpy f f1 sp.toNatClampNeg dp.toNatClampNeg n.toNatClampNeg))) := by
  unfold ab_cp at e
  split at e
  · next n0 f n1 f1 h0 h1 =>
    split at e
    · cases e
    · next hn =>
      cases e
      refine ⟨n0, n1, f, f1, h0, h1, fun q => hn (Or.inl q), fun q => hn (Or.inr (Or.inl q)), fun q => hn (Or.inr (Or.inr (Or.inl q))), ?_, ?_, rfl⟩
      · exact Nat.not_lt.mp fun q => hn (Or.inr (Or.inr (Or.inr (Or.inl q))))
      · exact Nat.not_lt.mp fun q => hn (Or.inr (Or.inr (Or.inr (Or.inr q))))
  · cases e
/-! words -/
theorem ab_in {w : Cond} (hw : w ∈ lw_tbl) (hg : goodWord w = true) : w ∈ ab_tb := List.mem_filter.mpr ⟨hw, hg⟩
theorem ab_inS {ws : List Cond} (hw : ∀ w ∈ ws, w ∈ lw_tbl) (hg : ws.all goodWord = true) : ∀ w ∈ ws, w ∈ ab_tb := fun w h => ab_in (hw w h) (List.all_eq_true.mp hg w h)
theorem ab_lay0 : ∀ w ∈ u_ws RX0 TX0 10, w ∈ ab_tb := ab_inS (by decide +kernel) (by decide +kernel)
theorem ab_lay1 : ∀ w ∈ u_ws RX1 TX1 5, w ∈ ab_tb := ab_inS (by decide +kernel) (by decide +kernel)
theorem ab_lay2 : ∀ w ∈ u_ws RX2 TX2 5, w ∈ ab_tb := ab_inS (by decide +kernel) (by decide +kernel)
theorem ab_lay3 : ∀ w ∈ u_ws RX3 TX3 4, w ∈ ab_tb := ab_inS (by decide +kernel) (by decide +kernel)
theorem ab_lay4 : ∀ w ∈ u_ws RX4 TX4 9, w ∈ ab_tb := ab_inS (by decide +kernel) (by decide +kernel)
theorem ab_lay5 : ∀ w ∈ u_ws RX5 TX5 4, w ∈ ab_tb := ab_inS (by decide +kernel) (by decide +kernel)
theorem ab_lay6 : ∀ w ∈ u_ws RX6 TX6 5, w ∈ ab_tb := ab_inS (by decide +kernel) (by decide +kernel)
theorem ab_lay7 : ∀ w ∈ u_ws RX7 TX7 31, w ∈ ab_tb := ab_inS (by decide +kernel) (by decide +kernel)
def ab_Cl (C : String) (T : u_T) (N : Nat) (ty : Nat → FieldType) : Prop := (∀ w ∈ u_ws C T N, w ∈ ab_tb) ∧ (∀ k, k < N → parseFieldDescriptor (T k).2.2.1 = some (ty k)) ∧ (∀ a, a < N → ∀ b, b < N → a ≠ b → (T a).2.1 ≠ (T b).2.1)
theorem ab_cl {ci : Nat} {C : String} {T : u_T} {N : Nat} (h : vwCl[ci]? = some (C, T, N)) : ∃ ty, ab_Cl C T N ty := by
  match ci, h with
  | 0, h => cases h; exact ⟨tyX0, ab_lay0, tyX0_ok, nmX0⟩
  | 1, h => cases h; exact ⟨tyX1, ab_lay1, tyX1_ok, nmX1⟩
  | 2, h => cases h; exact ⟨tyX2, ab_lay2, tyX2_ok, nmX2⟩
  | 3, h => cases h; exact ⟨tyX3, ab_lay3, tyX3_ok, nmX3⟩
  | 4, h => cases h; exact ⟨tyX4, ab_lay4, tyX4_ok, nmX4⟩
  | 5, h => cases h; exact ⟨tyX5, ab_lay5, tyX5_ok, nmX5⟩
  | 6, h => cases h; exact ⟨tyX6, ab_lay6, tyX6_ok, nmX6⟩
  | 7, h => cases h; exact ⟨tyX7, ab_lay7, tyX7_ok, nmX7⟩
  | k + 8, h => simp [vwCl] at h
/-- a field's link: of the class itself, or of a nest mate -/
def ab_FL (own : String) (idx : Nat) (q : String × String × String × Bool) : Prop := Cond.fieldLink own idx q.1 q.2.1 q.2.2.1 ∈ ab_tb ∨ Cond.fieldLinkNest own idx q.1 q.2.1 q.2.2.1 "DiskRests" ∈ ab_xs
def ab_ML (own : String) (idx : Nat) (y : MethodName) : Prop := Cond.methodLink own idx y ∈ ab_tb ∨ Cond.methodLinkNest own idx y "DiskRests" ∈ ab_xs
theorem ab_xin {w : Cond} (hw : w ∈ tables_1) (hg : ab_isX w = true) : w ∈ ab_xs := List.mem_filter.mpr ⟨hw, hg⟩
theorem ab_tsin {M : ab_M} {w : Cond} (h : w ∈ ab_tb) : w ∈ ab_ws M := List.mem_cons_of_mem _ h
section
variable {l : Launch} {g : ab_G} {M : ab_M} {d mc ms pc pc' ce sl : Nat} {ls ls' : List (Nat × Value)} {st : List Value} {h h' : ab_H} {K : ab_K}
theorem ab_getV {idx a ci k : Nat} {C : String} {T : u_T} {N : Nat} {fs : List Value} {v : Value} (hd : decode M.2.2.1 pc = .ok (.getfield idx, 3)) (hc : vwCl[ci]? = some (C, T, N)) (hk : k < N) (hl : ab_FL M.1 idx (T k)) (he : h[a]? = some (.inr (ci, fs))) (hf : fs[k]? = some v) (hp : pc + 3 = pc') (kk : ab_Ev l g M d mc ms pc' ls (v :: st) h ce sl K) : ab_Ev l g M d mc ms pc ls (.ref a :: st) h ce sl K := by
  subst hp
  intro p e s m args below meth c H locs la C0 E S Wd hla
  obtain ⟨ty, hC⟩ := ab_cl hc
  have hk2 := kk p e s m args below meth c H locs la C0 E S Wd hla
  have hw := ab_w_get (b := g.2.2) (cA := g.2.1) he
  have hv : (fs.map (ab_v g.2.2))[k]? = some (ab_v g.2.2 v) := by simp [hf]
  rcases hl with hl | hl
  · exact va_get C0.1 C0.2.1 C0.2.2.2.2.2.1 (fun w z => ab_tsin (hC.1 w z)) C0.2.2.2.2.1 E.1 Wd.2 a hw hc k hk (C0.2.2.2.2.2.1 _ (ab_tsin hl)) (fun _ z => z) hv hd hk2
  · exact va_getN C0.1 C0.2.1 C0.2.2.2.2.2.1 (fun w z => ab_tsin (hC.1 w z)) C0.2.2.2.2.1 E.1 Wd.2 a hw hc k hk (va_Nw.use rfl (E.2.1 _ hl)) (fun _ z => z) hv hd hk2
theorem ab_getI {idx a ci k : Nat} {C : String} {T : u_T} {N : Nat} {x : Int32} (hd : decode M.2.2.1 pc = .ok (.getfield idx, 3)) (hc : vwCl[ci]? = some (C, T, N)) (hk : k < N) (hl : ab_FL M.1 idx (T k)) (he : ab_gI h a ci k = some x) (hp : pc + 3 = pc') (kk : ab_Ev l g M d mc ms pc' ls (.int x :: st) h ce sl K) : ab_Ev l g M d mc ms pc ls (.ref a :: st) h ce sl K := by
  obtain ⟨fs, h1, h2⟩ := ab_gI_of he
  exact ab_getV hd hc hk hl h1 h2 hp kk
theorem ab_getR {idx a ci k : Nat} {C : String} {T : u_T} {N : Nat} {x : Nat} (hd : decode M.2.2.1 pc = .ok (.getfield idx, 3)) (hc : vwCl[ci]? = some (C, T, N)) (hk : k < N) (hl : ab_FL M.1 idx (T k)) (he : ab_gR h a ci k = some x) (hp : pc + 3 = pc') (kk : ab_Ev l g M d mc ms pc' ls (.ref x :: st) h ce sl K) : ab_Ev l g M d mc ms pc ls (.ref a :: st) h ce sl K := by
  obtain ⟨fs, h1, h2⟩ := ab_gR_of he
  exact ab_getV hd hc hk hl h1 h2 hp kk
theorem ab_W_set {H H1 : Heap} {a : Nat} {c : ab_C} (Wd : ab_W g h H) (hz : H1.size = H.size) (hP : va_P g.1 vwCl (ab_w g.2.2 g.2.1 (h.set a c)) H1) : ab_W g (h.set a c) H1 := ⟨by rw [hz, List.length_set]; exact Wd.1, hP⟩
theorem ab_setF (a ci k : Nat) (fs : List Value) (v : Value) (b : Nat) (cA : Nat → ClassId) : (ab_w b cA h).set a (b + a, .inr (ci, (fs.map (ab_v b)).set k (ab_v b v))) = ab_w b cA (h.set a (.inr (ci, fs.set k v))) := by
  rw [← ab_w_set]
  simp [ab_c, List.map_set]
end
end
section
section
variable {l : Launch} {g : ab_G} {M : ab_M} {d mc ms pc pc' ce sl : Nat} {ls ls' : List (Nat × Value)} {st : List Value} {h h' : ab_H} {K : ab_K}
theorem ab_D : va_D (ab_F g) (ab_w g.2.2 g.2.1 h) := ab_w_D
theorem ab_putV {idx a ci k : Nat} {C : String} {T : u_T} {N : Nat} {fs : List Value} {v : Value} {ty : FieldType} (hd : decode M.2.2.1 pc = .ok (.putfield idx, 3)) (hc : vwCl[ci]? = some (C, T, N)) (hk : k < N) (hl : ab_FL M.1 idx (T k)) (hfin : (T k).2.2.2 = false) (hty : parseFieldDescriptor (T k).2.2.1 = some ty) (hn : narrow ty (ab_v g.2.2 v) = ab_v g.2.2 v) (hfit : fits ty (ab_v g.2.2 v) = true) (he : h[a]? = some (.inr (ci, fs))) (hlen : k < fs.length) (hp : pc + 3 = pc') (kk : ab_Ev l g M d mc ms pc' ls st (h.set a (.inr (ci, fs.set k v))) ce sl K) : ab_Ev l g M d mc ms pc ls (v :: .ref a :: st) h ce sl K := by
  subst hp
  intro p e s m args below meth c H locs la C0 E S Wd hla
  obtain ⟨ty0, hC⟩ := ab_cl hc
  have hin : ∀ w ∈ u_ws C T N, w ∈ ab_ws M := fun w z => ab_tsin (hC.1 w z)
  have hts := C0.2.2.2.2.2.1
  have hw := ab_w_get (b := g.2.2) (cA := g.2.1) he
  have hap := va_apart (own := M.1) hts hin ty0 hC.2.1 hC.2.2 E.1 hc
  obtain ⟨r, h1, cell, q1, q2, q3, q4⟩ := Wd.2 a _ hw
  have hr : r = (C, T, N) := Option.some.inj (h1.symm.trans hc)
  subst hr
  obtain ⟨hS, hfc, kC, hkC, hkind⟩ := E.1.1 ci _ hc
  obtain ⟨cf, kf, fi, f, hi, hsl⟩ := hS k hk
  have hlay := hts _ (hin _ (u_in_lay hk))
  unfold u_lay at hlay
  rw [if_neg (by rw [hfin]; decide)] at hlay
  have hst := (u_facts hfc hkC (u_lays hts hin hk) hi).1
  have h6 := u_store hfc hkC hkind hlay hi hty hn hfit
  have hlen' : k < (fs.map (ab_v g.2.2)).length := by simpa using hlen
  have fin : ∀ H' : Heap, H'[g.2.2 + a]? = some (cell.setSlot f.slot (ab_v g.2.2 v)) → H'.size = H.size → (∀ q, q ≠ g.2.2 + a → H'[q]? = H[q]?) → W p l e (ab_R d mc ms) s m args below meth c H' (locs ++ [⟨g.2.2 + a, f.slot⟩]) ce sl (MQ below (ab_Q g K) args s mc ms (ab_F g)) (F0 m (pc + 3) la (st.map (ab_v g.2.2))) := by
    intro H' e1 e2 e3
    rw [hsl] at e1
    have hP' := Wd.2.set (ab_D (g := g)) hw (e := .inr (ci, (fs.map (ab_v g.2.2)).set k (ab_v g.2.2 v))) ⟨_, hc, t_OB.to (V := updV (vp_V (fs.map (ab_v g.2.2))) k (ab_v g.2.2 v)) ⟨_, e1, q2, q3, t_set q4 hap hk (ab_v g.2.2 v)⟩ (fun j _ => vp_updV_set hlen' (ab_v g.2.2 v) j)⟩ e3
    rw [ab_setF] at hP'
    exact kk p e s m args below meth c H' _ la C0 E (S.put e2 e3 (ab_D.2 a _ hw)) (ab_W_set Wd e2 hP') hla
  rcases hl with hl | hl
  · exact W.putK C0.1 C0.2.1 (f := f) ⟨C0.2.2.2.2.1, hts _ (ab_tsin hl), ⟨_, _, _, hi⟩, hst⟩ (by rw [q2]; exact h6) q1 q3 (by rw [hsl]; exact k2_hasslot (q4 k hk)) rfl rfl hd fin
  · exact va_WputK C0.1 C0.2.1 (f := f) C0.2.2.2.2.1 (va_Nw.use rfl (E.2.1 _ hl)) hi hst (by rw [q2]; exact h6) q1 q3 (by rw [hsl]; exact k2_hasslot (q4 k hk)) rfl rfl hd fin
theorem ab_put {idx a ci k : Nat} {C : String} {T : u_T} {N : Nat} {v : Value} {ty : FieldType} (hd : decode M.2.2.1 pc = .ok (.putfield idx, 3)) (hc : vwCl[ci]? = some (C, T, N)) (hk : k < N) (hl : ab_FL M.1 idx (T k)) (hfin : (T k).2.2.2 = false) (hty : parseFieldDescriptor (T k).2.2.1 = some ty) (hn : narrow ty (ab_v g.2.2 v) = ab_v g.2.2 v) (hfit : fits ty (ab_v g.2.2 v) = true) (he : ab_pV h a ci k v = some h') (hp : pc + 3 = pc') (kk : ab_Ev l g M d mc ms pc' ls st h' ce sl K) : ab_Ev l g M d mc ms pc ls (v :: .ref a :: st) h ce sl K := by
  obtain ⟨fs, e1, e2, rfl⟩ := ab_pV_of he
  exact ab_putV hd hc hk hl hfin hty hn hfit e1 e2 hp kk
/-- a final field, in its own class's constructor -/
theorem ab_putF {idx a ci k : Nat} {C : String} {T : u_T} {N : Nat} {v : Value} {ty : FieldType} (hd : decode M.2.2.1 pc = .ok (.putfield idx, 3)) (hc : vwCl[ci]? = some (C, T, N)) (hk : k < N) (hl : Cond.fieldLink M.1 idx (T k).1 (T k).2.1 (T k).2.2.1 ∈ ab_tb) (hfin : (T k).2.2.2 = true) (hi0 : M.2.1.name = "<init>") (hdecl : (T k).1 = M.1) (hty : parseFieldDescriptor (T k).2.2.1 = some ty) (hn : narrow ty (ab_v g.2.2 v) = ab_v g.2.2 v) (hfit : fits ty (ab_v g.2.2 v) = true) (he0 : ab_pV h a ci k v = some h') (hp : pc + 3 = pc') (kk : ab_Ev l g M d mc ms pc' ls st h' ce sl K) : ab_Ev l g M d mc ms pc ls (v :: .ref a :: st) h ce sl K := by
  obtain ⟨fs, he, hlen, rfl⟩ := ab_pV_of he0
  subst hp
  intro p e s m args below meth c H locs la C0 E S Wd hla
  obtain ⟨ty0, hC⟩ := ab_cl hc
  have hin : ∀ w ∈ u_ws C T N, w ∈ ab_ws M := fun w z => ab_tsin (hC.1 w z)
  have hts := C0.2.2.2.2.2.1
  have hown := C0.2.2.2.2.1
  have hw := ab_w_get (b := g.2.2) (cA := g.2.1) he
  have hap := va_apart (own := M.1) hts hin ty0 hC.2.1 hC.2.2 E.1 hc
  obtain ⟨r, h1, cell, q1, q2, q3, q4⟩ := Wd.2 a _ hw
  have hr : r = (C, T, N) := Option.some.inj (h1.symm.trans hc)
  subst hr
  obtain ⟨hS, hfc, kC, hkC, hkind⟩ := E.1.1 ci _ hc
  obtain ⟨cf, kf, fi, f, hi, hsl⟩ := hS k hk
  have hlay := hts _ (hin _ (u_in_lay hk))
  unfold u_lay at hlay
  rw [if_pos hfin] at hlay
  have hst := (u_facts hfc hkC (u_lays hts hin hk) hi).1
  have hcf : m.cls = cf := by
    obtain ⟨_, _, c', _, _, _, -, -, hf', -, -, -, hown2, -⟩ := Cond.laysFinal_spec hlay
    have e1 : c' = cf := by have := hi.symm.trans hf'; simp at this; exact this.1.symm
    rw [hdecl] at hown2
    rw [← e1]; exact Option.some.inj (hown.symm.trans hown2)
  have h6 := u_fits hfc hkC hkind (Or.inr hlay) hi hty hn hfit
  have hlen' : k < (fs.map (ab_v g.2.2)).length := by simpa using hlen
  refine W.putFinK C0.1 C0.2.1 hown (hts _ (ab_tsin hl)) hi hst hcf (C0.2.2.2.2.2.2.2.trans hi0) (by rw [q2]; exact h6) q1 q3 (by rw [hsl]; exact k2_hasslot (q4 k hk)) rfl rfl hd fun H' e1 e2 e3 => ?_
  rw [hsl] at e1
  have hP' := Wd.2.set (ab_D (g := g)) hw (e := .inr (ci, (fs.map (ab_v g.2.2)).set k (ab_v g.2.2 v))) ⟨_, hc, t_OB.to (V := updV (vp_V (fs.map (ab_v g.2.2))) k (ab_v g.2.2 v)) ⟨_, e1, q2, q3, t_set q4 hap hk (ab_v g.2.2 v)⟩ (fun j _ => vp_updV_set hlen' (ab_v g.2.2 v) j)⟩ e3
  rw [ab_setF] at hP'
  exact kk p e s m args below meth c H' _ la C0 E (S.put e2 e3 (ab_D.2 a _ hw)) (ab_W_set Wd e2 hP') hla
theorem ab_iald {r : Nat} {i x : Int32} (hd : decode M.2.2.1 pc = .ok (.iaload, 1)) (he : ab_aI h r i = some x) (hp : pc + 1 = pc') (kk : ab_Ev l g M d mc ms pc' ls (.int x :: st) h ce sl K) : ab_Ev l g M d mc ms pc ls (.int i :: .ref r :: st) h ce sl K := by
  obtain ⟨n, f, e1, e2, rfl⟩ := ab_aI_of he
  subst hp
  intro p e s m args below meth c H locs la C0 E S Wd hla
  exact va_iald C0.1 C0.2.1 E.1 Wd.2 r 0 (ab_w_get e1) rfl e2 hd (kk p e s m args below meth c H locs la C0 E S Wd hla)
theorem ab_zald {r : Nat} {i x : Int32} (hd : decode M.2.2.1 pc = .ok (.baload, 1)) (he : ab_aZ h r i = some x) (hp : pc + 1 = pc') (kk : ab_Ev l g M d mc ms pc' ls (.int x :: st) h ce sl K) : ab_Ev l g M d mc ms pc ls (.int i :: .ref r :: st) h ce sl K := by
  obtain ⟨n, f, e1, e2, rfl⟩ := ab_aZ_of he
  subst hp
  intro p e s m args below meth c H locs la C0 E S Wd hla
  exact va_zald C0.1 C0.2.1 E.1 Wd.2 r 1 (ab_w_get e1) rfl e2 hd (kk p e s m args below meth c H locs la C0 E S Wd hla)
theorem ab_ty_at {cA : Nat → ClassId} {t : Nat} (h1 : ¬ t < 2) (h2 : ¬ 4 < t) : ∃ r, vwCl[ab_ek t]? = some r ∧ (ab_ty cA)[t]? = some (cA t, .object r.1) := by
  have h3 : t = 2 ∨ t = 3 ∨ t = 4 := by omega
  rcases h3 with rfl | rfl | rfl <;> exact ⟨_, rfl, rfl⟩
theorem ab_aald {r x : Nat} {i : Int32} (hd : decode M.2.2.1 pc = .ok (.aaload, 1)) (he : ab_aR h r i = some x) (hp : pc + 1 = pc') (kk : ab_Ev l g M d mc ms pc' ls (.ref x :: st) h ce sl K) : ab_Ev l g M d mc ms pc ls (.int i :: .ref r :: st) h ce sl K := by
  obtain ⟨t, n, f, e1, e2, e3, t1, t2⟩ := ab_aR_of he
  subst hp
  intro p e s m args below meth c H locs la C0 E S Wd hla
  obtain ⟨q, -, hq⟩ := ab_ty_at (cA := g.2.1) t1 t2
  have k0 := kk p e s m args below meth c H locs la C0 E S Wd hla
  refine va_aldq C0.1 C0.2.1 E.1 Wd.2 r t (ab_w_get e1) hq e2 hd ?_
  have ev : va_rf ((f i.toNatClampNeg).map (fun j => g.2.2 + j)) = .ref (g.2.2 + x) := by rw [e3]; rfl
  rw [ev]
  exact k0
theorem ab_iast {r : Nat} {i x : Int32} (hd : decode M.2.2.1 pc = .ok (.iastore, 1)) (he : ab_sI h r i x = some h') (hp : pc + 1 = pc') (kk : ab_Ev l g M d mc ms pc' ls st h' ce sl K) : ab_Ev l g M d mc ms pc ls (.int x :: .int i :: .ref r :: st) h ce sl K := by
  obtain ⟨n, f, e1, e2, rfl⟩ := ab_sI_of he
  subst hp
  intro p e s m args below meth c H locs la C0 E S Wd hla
  have hw := ab_w_get (b := g.2.2) (cA := g.2.1) e1
  refine W.iast C0.1 C0.2.1 (Wd.2 r _ hw) ((E.1.2 0 _ rfl).1 n (fun j => .int (f j))) (fun q => by cases q) (by show ¬ (i < 0 ∨ (arrV _ _ _).slots.size ≤ _); rw [arrV_size]; exact e2) rfl rfl hd fun H1 e0 z oq => ?_
  have hP' := Wd.2.set (ab_D (g := g)) hw (e := ab_c g.2.2 g.2.1 (.inl (0, n, .inl (upd f i.toNatClampNeg x)))) (H1 := H1) (by
    show H1[g.2.2 + r]? = some (vp_cell _ _)
    rw [e0]
    show some ((vp_cell (g.2.1 0) (n, .inl f)).setSlot _ _) = some (vp_cell (g.2.1 0) (n, .inl (upd f i.toNatClampNeg x)))
    rw [vp_cell_i, vp_cell_i, arrV_store]
    congr 2
    funext q
    by_cases hq : q = i.toNatClampNeg
    · subst hq; simp [updV, upd]
    · simp [updV, upd, hq]) oq
  rw [ab_w_set] at hP'
  exact kk p e s m args below meth c H1 _ la C0 E (S.put z oq (ab_D.2 r _ hw)) (ab_W_set Wd z hP') hla
theorem ab_zast {r : Nat} {i x : Int32} (hd : decode M.2.2.1 pc = .ok (.bastore, 1)) (he : ab_sZ h r i x = some h') (hp : pc + 1 = pc') (kk : ab_Ev l g M d mc ms pc' ls st h' ce sl K) : ab_Ev l g M d mc ms pc ls (.int x :: .int i :: .ref r :: st) h ce sl K := by
  obtain ⟨n, f, e1, e2, rfl⟩ := ab_sZ_of he
  subst hp
  intro p e s m args below meth c H locs la C0 E S Wd hla
  have hw := ab_w_get (b := g.2.2) (cA := g.2.1) e1
  refine W.zast C0.1 C0.2.1 (Wd.2 r _ hw) ((E.1.2 1 _ rfl).1 n (fun j => .int (f j))) (fun q => by cases q) (by show ¬ (i < 0 ∨ (arrV _ _ _).slots.size ≤ _); rw [arrV_size]; exact e2) rfl rfl hd fun H1 e0 z oq => ?_
  have hP' := Wd.2.set (ab_D (g := g)) hw (e := ab_c g.2.2 g.2.1 (.inl (1, n, .inl (upd f i.toNatClampNeg (vp_nar .boolean x))))) (H1 := H1) (by
    show H1[g.2.2 + r]? = some (vp_cell _ _)
    rw [e0]
    show some ((vp_cell (g.2.1 1) (n, .inl f)).setSlot _ _) = some (vp_cell (g.2.1 1) (n, .inl (upd f i.toNatClampNeg (vp_nar .boolean x))))
    rw [vp_cell_i, vp_cell_i, arrV_store]
    congr 2
    funext q
    by_cases hq : q = i.toNatClampNeg
    · subst hq; simp [updV, upd, vp_nar, narrow]
    · simp [updV, upd, hq]) oq
  rw [ab_w_set] at hP'
  exact kk p e s m args below meth c H1 _ la C0 E (S.put z oq (ab_D.2 r _ hw)) (ab_W_set Wd z hP') hla
end
end
section
section
variable {l : Launch} {g : ab_G} {M : ab_M} {d mc ms pc pc' ce sl : Nat} {ls ls' : List (Nat × Value)} {st : List Value} {h h' : ab_H} {K : ab_K}
theorem ab_aast {r v : Nat} {i : Int32} (hd : decode M.2.2.1 pc = .ok (.aastore, 1)) (he : ab_sR h r i v = some h') (hp : pc + 1 = pc') (kk : ab_Ev l g M d mc ms pc' ls st h' ce sl K) : ab_Ev l g M d mc ms pc ls (.ref v :: .int i :: .ref r :: st) h ce sl K := by
  obtain ⟨t, n, f, ci, vs, e1, e2, hin, t1, t2, rfl, rfl⟩ := ab_sR_of he
  subst hp
  intro p e s m args below meth c H locs la C0 E S Wd hla
  have hw := ab_w_get (b := g.2.2) (cA := g.2.1) e1
  obtain ⟨rr, hc, ht⟩ := ab_ty_at (cA := g.2.1) t1 t2
  have hlt : i.toNatClampNeg < n := Nat.not_le.mp fun q => hin (Or.inr q)
  have h0 : ¬ i < 0 := fun q => hin (Or.inl q)
  obtain ⟨r', hr', cellV, g1, g2, g3, -⟩ := Wd.2 v _ (ab_w_get e2)
  have hcls := (E.1.1 (ab_ek t) rr hc).2
  obtain ⟨kA, comp, k1, k2, k3, -⟩ := (E.1.2 t _ ht).2
  have hcomp : comp = g.1.1 (ab_ek t) := Option.some.inj (k3.symm.trans hcls.1)
  subst hcomp
  obtain ⟨kC, hkC, -⟩ := hcls.2
  refine W.aast C0.1 C0.2.1 (Wd.2 r _ hw) (fun q h => by cases h) (fun h => by cases h) k1 k2 rfl hkC ⟨h0, by show _ < (arrV _ _ _).slots.size; rw [arrV_size]; exact hlt⟩ g1 (fun q h => by rw [g3] at h; cases h) (by rw [g2]; exact hkC) (by rw [g2]; exact va_assign hcls) rfl rfl hd fun H1 e0 z oq => ?_
  have hP' := Wd.2.set (ab_D (g := g)) hw (e := ab_c g.2.2 g.2.1 (.inl (t, n, .inr (.inr (.inr (.inr (va_up f i.toNatClampNeg (some v)))))))) (H1 := H1) (by
    show H1[g.2.2 + r]? = some (vp_cell _ _)
    rw [e0]
    show some ((vp_cell (g.2.1 t) (n, .inr (.inr (.inr (.inr (fun k => (f k).map (fun j => g.2.2 + j))))))).setSlot _ _) = some (vp_cell (g.2.1 t) (n, .inr (.inr (.inr (.inr (fun k => (va_up f i.toNatClampNeg (some v) k).map (fun j => g.2.2 + j)))))))
    rw [vp_cell_q, vp_cell_q, arrV_store]
    congr 2
    funext q
    by_cases hq : q = i.toNatClampNeg
    · subst hq
      simp [updV, va_up, va_rf]
    · simp [updV, va_up, hq]) oq
  rw [ab_w_set] at hP'
  exact kk p e s m args below meth c H1 _ la C0 E (S.put z oq (ab_D.2 r _ hw)) (ab_W_set Wd z hP') hla
theorem ab_W_push {H H1 : Heap} {c : ab_C} (Wd : ab_W g h H) (hz : H1.size = H.size + 1) (o1 : ∀ q, q < H.size → H1[q]? = H[q]?) (hc : va_at g.1 vwCl (g.2.2 + h.length, ab_c g.2.2 g.2.1 c) H1) : ab_W g (h ++ [c]) H1 := by
  refine ⟨by rw [hz, Wd.1, List.length_append]; rfl, ?_⟩
  rw [ab_w_app]
  refine (Wd.2.kept (fun k x hx => o1 x.1 ((Wd.2 k x hx).lt))).app (fun k x hx => ?_)
  have hz : k < 1 := (List.getElem?_eq_some_iff.mp hx).1
  rw [show k = 0 by omega] at hx
  cases hx
  exact hc
theorem ab_S_push {A : Nat → Prop} {H0 H H1 : Heap} {locs : List Loc} (S : va_S A H0 H locs) (hz : H1.size = H.size + 1) (o1 : ∀ q, q < H.size → H1[q]? = H[q]?) : va_S A H0 H1 locs :=
  ⟨Nat.le_trans S.1 (by omega), fun x h1 h2 => (o1 x (Nat.lt_of_lt_of_le h1 S.1)).trans (S.2.1 x h1 h2), S.2.2⟩
theorem ab_new {idx ci : Nat} {C : String} {T : u_T} {N ce' sl' : Nat} {fs : List Value} (ty : Nat → FieldType) (hty : ∀ k, k < N → parseFieldDescriptor (T k).2.2.1 = some (ty k)) (hd : decode M.2.2.1 pc = .ok (.new idx, 3)) (hc : vwCl[ci]? = some (C, T, N)) (hcl : Cond.classLink M.1 idx C ∈ ab_tb) (hins : Cond.instantiable C N ∈ ab_tb) (hini : Cond.initialized C ∈ ab_tb) (hfs : ∀ j, j < N → defaultValue (ty j) = vp_V (fs.map (ab_v g.2.2)) j) (hce : ce + 1 = ce') (hsl : sl + N = sl') (h1 : ce' ≤ mc) (h2 : sl' ≤ ms) (hp : pc + 3 = pc') (kk : ab_Ev l g M d mc ms pc' ls (.ref h.length :: st) (h ++ [.inr (ci, fs)]) ce' sl' K) : ab_Ev l g M d mc ms pc ls st h ce sl K := by
  subst hp; subst hce; subst hsl
  intro p e s m args below meth c H locs la C0 E S Wd hla
  obtain ⟨ty0, hC⟩ := ab_cl hc
  have hin : ∀ w ∈ u_ws C T N, w ∈ ab_ws M := fun w z => ab_tsin (hC.1 w z)
  have hts := C0.2.2.2.2.2.1
  have hKn := E.1.1 ci _ hc
  refine W.newcK C0.1 C0.2.1 C0.2.2.2.2.1 (hts _ (ab_tsin hcl)) (hts _ (ab_tsin hins)) (hts _ (ab_tsin hini)) rfl hd h1 h2 hKn.2.1 Wd.1 fun H1 kC hkC e1 z1 o1 => ?_
  rw [← Wd.1] at z1 o1
  exact kk p e s m args below meth c H1 locs la C0 E (ab_S_push S z1 o1) (ab_W_push Wd z1 o1 ⟨_, hc, (u_born ty hts hin hKn hkC e1 hty).to hfs⟩) hla
theorem ab_newI {n : Int32} {N ce' sl' : Nat} (hd : decode M.2.2.1 pc = .ok (.newarray .int, 2)) (ha : Cond.arrayClass .int ∈ ab_tb) (hn : ¬ n < 0) (hN : n.toNatClampNeg = N) (hby : N * 4 ≤ 536870912) (hce : ce + 1 = ce') (hsl : sl + N = sl') (h1 : ce' ≤ mc) (h2 : sl' ≤ ms) (hp : pc + 2 = pc') (kk : ab_Ev l g M d mc ms pc' ls (.ref h.length :: st) (h ++ [.inl (0, N, .inl (fun _ => 0))]) ce' sl' K) : ab_Ev l g M d mc ms pc ls (.int n :: st) h ce sl K := by
  subst hp; subst hce; subst hsl
  intro p e s m args below meth c H locs la C0 E S Wd hla
  refine va_newaK (atype := .int) C0.1 C0.2.1 (C0.2.2.2.2.2.1 _ (ab_tsin ha)) rfl hd rfl hn hN hby h1 h2 Wd.1 fun H1 cA e1 z1 o1 hAr hNm => ?_
  rw [← Wd.1] at z1 o1
  have hcA : cA = g.2.1 0 := Option.some.inj (hNm.symm.trans (E.1.2 0 _ rfl).2)
  subst hcA
  exact kk p e s m args below meth c H1 locs la C0 E (ab_S_push S z1 o1) (ab_W_push Wd z1 o1 (show H1[g.2.2 + h.length]? = some (vp_cell _ _) by rw [e1]; rfl)) hla
theorem ab_newZ {n : Int32} {N ce' sl' : Nat} (hd : decode M.2.2.1 pc = .ok (.newarray .boolean, 2)) (ha : Cond.arrayClass .boolean ∈ ab_tb) (hn : ¬ n < 0) (hN : n.toNatClampNeg = N) (hby : N * 1 ≤ 536870912) (hce : ce + 1 = ce') (hsl : sl + N = sl') (h1 : ce' ≤ mc) (h2 : sl' ≤ ms) (hp : pc + 2 = pc') (kk : ab_Ev l g M d mc ms pc' ls (.ref h.length :: st) (h ++ [.inl (1, N, .inl (fun _ => 0))]) ce' sl' K) : ab_Ev l g M d mc ms pc ls (.int n :: st) h ce sl K := by
  subst hp; subst hce; subst hsl
  intro p e s m args below meth c H locs la C0 E S Wd hla
  refine va_newaK (atype := .boolean) C0.1 C0.2.1 (C0.2.2.2.2.2.1 _ (ab_tsin ha)) rfl hd rfl hn hN hby h1 h2 Wd.1 fun H1 cA e1 z1 o1 hAr hNm => ?_
  rw [← Wd.1] at z1 o1
  have hcA : cA = g.2.1 1 := Option.some.inj (hNm.symm.trans (E.1.2 1 _ rfl).2)
  subst hcA
  exact kk p e s m args below meth c H1 locs la C0 E (ab_S_push S z1 o1) (ab_W_push Wd z1 o1 (show H1[g.2.2 + h.length]? = some (vp_cell _ _) by rw [e1]; rfl)) hla
theorem ab_newR {n : Int32} {N t ce' sl' idx : Nat} {C : String} {rr : vw_C} (hd : decode M.2.2.1 pc = .ok (.anewarray idx, 3)) (t1 : ¬ t < 2) (t2 : ¬ 4 < t) (hrr : vwCl[ab_ek t]? = some rr) (hC : rr.1 = C) (hcl : Cond.classLink M.1 idx C ∈ ab_tb) (hao : Cond.arrayOver (.object C) ∈ ab_xs) (hn : ¬ n < 0) (hN : n.toNatClampNeg = N) (hby : N * 4 ≤ 536870912) (hce : ce + 1 = ce') (hsl : sl + N = sl') (h1 : ce' ≤ mc) (h2 : sl' ≤ ms) (hp : pc + 3 = pc') (kk : ab_Ev l g M d mc ms pc' ls (.ref h.length :: st) (h ++ [.inl (t, N, .inr (.inr (.inr (.inr (fun _ => none)))))]) ce' sl' K) : ab_Ev l g M d mc ms pc ls (.int n :: st) h ce sl K := by
  subst hp; subst hce; subst hsl; subst hN
  intro p e s m args below meth c H locs la C0 E S Wd hla
  obtain ⟨r2, hc2, ht⟩ := ab_ty_at (cA := g.2.1) t1 t2
  have er : r2 = rr := Option.some.inj (hc2.symm.trans hrr)
  subst er
  rw [hC] at ht
  refine W.anew C0.1 C0.2.1 C0.2.2.2.2.1 (C0.2.2.2.2.2.1 _ (ab_tsin hcl)) (va_AO.use (C := C) (E.2.1 _ hao)) rfl hd rfl hn hby h1 h2 fun cA kA comp f1 f2 f3 f4 => ?_
  generalize hH1 : H.push ({ cls := cA, slots := Array.replicate n.toNatClampNeg .null, vm := .none } : Cell) = H1
  have z1 : H1.size = H.size + 1 := by rw [← hH1, Array.size_push]
  have e1 : H1[H.size]? = some (arrV cA n.toNatClampNeg (fun _ => .null)) := by rw [← hH1, Array.getElem?_push_size, ← arrV_new]
  have o1 : ∀ q : Nat, q < H.size → H1[q]? = H[q]? := fun q hq => by rw [← hH1, Array.getElem?_push, if_neg (Nat.ne_of_lt hq)]
  obtain ⟨kA2, comp2, -, -, -, k4⟩ := (E.1.2 t _ ht).2
  have hcA : cA = g.2.1 t := Option.some.inj (f1.symm.trans k4)
  subst hcA
  have k0 := kk p e s m args below meth c H1 locs la C0 E (ab_S_push S z1 o1) (ab_W_push Wd z1 o1 (show H1[g.2.2 + h.length]? = some (vp_cell _ _) by rw [← Wd.1, e1]; rfl)) hla
  refine W.eq ?_ k0
  show F0 _ _ _ (Value.ref H.size :: _) = _
  rw [Wd.1]
  rfl
theorem ab_copy {idx r0 r1 : Nat} {sp dp n : Int32} (hd : decode M.2.2.1 pc = .ok (.invokestatic idx, 3)) (hl : Cond.methodLink M.1 idx arraycopyName ∈ ab_tb) (hnat : Cond.native arraycopyName ∈ ab_tb) (hstat : Cond.static arraycopyName ∈ ab_tb) (hini : Cond.initialized "java/lang/System" ∈ ab_tb) (hfr : 1 ≤ d) (hst : st = []) (he : ab_cp h r0 sp r1 dp n = some h') (hp : pc + 3 = pc') (kk : ab_Ev l g M d mc ms pc' ls st h' ce sl K) : ab_Ev l g M d mc ms pc ls (.int n :: .int dp :: .ref r1 :: .int sp :: .ref r0 :: st) h ce sl K := by
  obtain ⟨n0, n1, f, f1, e0, e1, s1, s2, s3, s4, s5, rfl⟩ := ab_cp_of he
  subst hp; subst hst
  intro p e s m args below meth c H locs la C0 E S Wd hla
  have hts := C0.2.2.2.2.2.1
  have hw0 := ab_w_get (b := g.2.2) (cA := g.2.1) e0
  have hw1 := ab_w_get (b := g.2.2) (cA := g.2.1) e1
  have nn : ∀ z : Int32, ¬ z < 0 → z.toInt = (z.toNatClampNeg : Int) := by
    intro z hz
    have hz0 : (0 : Int) ≤ z.toInt := by
      have := Int32.not_lt.mp hz
      simpa using Int32.le_iff_toInt_le.mp this
    show z.toInt = ((z.toInt.toNat : Nat) : Int)
    omega
  intro T hT X
  have hc0 : H[g.2.2 + r0]? = some (vp_cell (g.2.1 0) (n0, .inl f)) := Wd.2 r0 _ hw0
  have hc1 : H[g.2.2 + r1]? = some (vp_cell (g.2.1 0) (n1, .inl f1)) := Wd.2 r1 _ hw1
  obtain ⟨-, k0, hk0, cm0, hkk0⟩ := (E.1.2 0 _ rfl).1 n0 (fun j => .int (f j))
  obtain ⟨-, k1, hk1, cm1, hkk1⟩ := (E.1.2 0 _ rfl).1 n1 (fun j => .int (f1 j))
  obtain ⟨vm', X', step⟩ := X.arraycopy C0.1 C0.2.2.2.2.1 (hts _ (ab_tsin hl)) (hts _ (ab_tsin hnat)) (hts _ (ab_tsin hstat)) (hts _ (ab_tsin hini)) (src := g.2.2 + r0) (dst := g.2.2 + r1) (cs := vp_cell (g.2.1 0) (n0, .inl f)) (cd := vp_cell (g.2.1 0) (n1, .inl f1)) (srcPos := sp) (destPos := dp) (n := n) (by rw [hT]; exact hc0) (by rw [hT]; exact hc1)
    (fun _ h => by cases h) (fun _ h => by cases h) (fun h => by cases h) (fun h => by cases h) hk0 hk1 hkk0 hkk1 (by simp [refKind]) s1 s2 s3
    (by rw [nn sp s1, nn n s3]; show ¬ _ > ((arrV _ n0 (fun j => .int (f j))).slots.size : Int); rw [arrV_size]; omega)
    (by rw [nn dp s2, nn n s3]; show ¬ _ > ((arrV _ n1 (fun j => .int (f1 j))).slots.size : Int); rw [arrV_size]; omega)
    (fun vm₁ _ i hi => by
      have e : (vp_cell (g.2.1 0) (n0, .inl f)).slots.getD (sp.toNatClampNeg + i) .null = .int (f (sp.toNatClampNeg + i)) := by
        show (arrV _ n0 (fun j => .int (f j))).slots.getD _ _ = _
        rw [Array.getD_eq_getD_getElem?, arrV_read _ _ (by omega)]
        rfl
      refine ⟨?_, ?_⟩
      · rw [e]
        rfl
      · rw [e]
        exact trivial)
    (g := F0 m pc la (.int n :: .int dp :: .ref (g.2.2 + r1) :: .int sp :: .ref (g.2.2 + r0) :: [])) rfl (by rw [C0.2.2.2.1]; exact hla.1) (rest := []) rfl (by rw [C0.2.1]; exact hd) hfr (by show 2 * 0 + 0 + (nativeFrameWords "java/lang/System" "arraycopy" 5 + 11) ≤ 36 * d; rw [show nativeFrameWords "java/lang/System" "arraycopy" 5 = 7 by decide]; omega)
  have e2 : copied (vp_cell (g.2.1 0) (n0, .inl f)) (vp_cell (g.2.1 0) (n1, .inl f1)) sp dp n = vp_cell (g.2.1 0) (n1, .inl (va_cpy f f1 sp.toNatClampNeg dp.toNatClampNeg n.toNatClampNeg)) := va_copied (fun z => .int z) (g.2.1 0) (g.2.1 0) f f1 s4
  rw [e2] at X' step
  have hlt : g.2.2 + r1 < H.size := (Array.getElem?_eq_some_iff.mp hc1).1
  have hheap : ((T.setVm vm').setCell (g.2.2 + r1) (vp_cell (g.2.1 0) (n1, .inl (va_cpy f f1 sp.toNatClampNeg dp.toNatClampNeg n.toNatClampNeg)))).heap = H.setIfInBounds (g.2.2 + r1) (vp_cell (g.2.1 0) (n1, .inl (va_cpy f f1 sp.toNatClampNeg dp.toNatClampNeg n.toNatClampNeg))) := by rw [← hT]; rfl
  generalize hH1 : H.setIfInBounds (g.2.2 + r1) (vp_cell (g.2.1 0) (n1, .inl (va_cpy f f1 sp.toNatClampNeg dp.toNatClampNeg n.toNatClampNeg))) = H1 at hheap
  have oq : ∀ q : Nat, q ≠ g.2.2 + r1 → H1[q]? = H[q]? := fun q hq => by rw [← hH1]; simp [Array.getElem?_setIfInBounds, Ne.symm hq]
  have hz : H1.size = H.size := by rw [← hH1]; simp
  have hP' := Wd.2.set (ab_D (g := g)) hw1 (e := ab_c g.2.2 g.2.1 (.inl (0, n1, .inl (va_cpy f f1 sp.toNatClampNeg dp.toNatClampNeg n.toNatClampNeg)))) (H1 := H1) (by
    show H1[g.2.2 + r1]? = some (vp_cell _ _)
    rw [← hH1]
    simp [Array.getElem?_setIfInBounds, hlt, ab_a]) oq
  rw [ab_w_set] at hP'
  obtain ⟨t, a1, b1⟩ := kk p e s m args below meth c H1 _ la C0 E ⟨by rw [hz]; exact S.1, fun q g1 g2 => by
      rw [oq q (fun e => g2 (by rw [e]; exact ab_D.2 r1 _ hw1))]
      exact S.2.1 q g1 g2, fun q hq => by
      rcases List.mem_append.mp hq with h | h
      · exact S.2.2 q h
      · obtain ⟨z, -, hz⟩ := List.mem_map.mp h
        rw [← hz]
        exact ab_D.2 r1 _ hw1⟩ (ab_W_set Wd hz hP') hla _ hheap X'
  exact ⟨t, step t a1, b1⟩
end
end
section
def ab_ob (h : ab_H) (r ci : Nat) : Option Unit := match h[r]? with
  | some (.inr (c, _)) => if c = ci then some () else none
  | _ => none
theorem ab_ob_of {h : ab_H} {r ci : Nat} {u : Unit} (e : ab_ob h r ci = some u) : ∃ fs, h[r]? = some (.inr (ci, fs)) := by
  unfold ab_ob at e
  split at e
  · next c fs hc =>
    split at e
    · next hci => exact ⟨fs, by rw [hc, hci]⟩
    · cases e
  · cases e
def ab_Ok (Mc : ab_M) (n : Nat) : Prop := Cond.code Mc.2.1 Mc.2.2.1 Mc.2.2.2.1 Mc.2.2.2.2 ∈ ab_tb ∧ Cond.initialized Mc.2.1.cls ∈ ab_tb ∧ (Mc.2.1.cls ≠ "java/lang/invoke/MethodHandle" ∧ Mc.2.1.cls ≠ "java/lang/invoke/VarHandle") ∧ (parseMethodDescriptor Mc.2.1.desc).map (fun d => d.parameters.length) = some n ∧ Mc.2.2.2.1 ≤ 17
theorem ab_gi {M Mc : ab_M} (hc : Cond.code Mc.2.1 Mc.2.2.1 Mc.2.2.2.1 Mc.2.2.2.2 ∈ ab_tb) : GoodIn (ab_ws M) (ab_ws Mc) := by
  intro w hw
  have h1 : w ∈ ab_tb := (List.mem_cons.mp hw).elim (fun e => by rw [e]; exact hc) id
  exact ⟨ab_tsin h1, good_of_word (List.mem_filter.mp h1).2⟩
theorem ab_X.same {s U : State} (hv : s.vm = U.vm) (h : ab_X s) : ab_X U := by
  intro w hw
  have h1 := h w hw
  have h2 := (List.mem_filter.mp hw).2
  match w, h1, h2 with
  | .fieldLinkNest .., h1, _ => exact va_Nw.same rfl hv h1
  | .methodLinkNest .., h1, _ => exact va_Nw.same rfl hv h1
  | .arrayOver (.object C), h1, _ => exact va_AO.moved (C := C) (by rw [hv]; exact Vm.Alike.refl U.vm) h1
theorem ab_blind {g : ab_G} {vs : List Value} {h : ab_H} : FrameBlind (ab_Pc g vs h) := by
  intro a U g' mk q
  obtain ⟨q0, qE, qW⟩ := q
  exact ⟨q0, ⟨va_K.moved (u := U) (U := U.calling g' mk a) (Vm.Alike.refl U.vm) qE.1, ab_X.same (s := U) (U := U.calling g' mk a) rfl qE.2.1, qE.2.2⟩, qW⟩
theorem ab_pre {g : ab_G} {vs : List Value} {h : ab_H} {s : State} {H : Heap} (E : ab_E g s) (Wd : ab_W g h H) : ∀ U : State, U.heap = H → s.WarmedH U.vm → ab_Pc g vs h (vs.map (ab_v g.2.2)).toArray U :=
  fun U hU hW => ⟨rfl, ⟨va_K.moved hW.alike E.1, E.2.1.moved hW, by rw [hU, Wd.1]; exact Nat.le_add_right _ _⟩, by rw [hU]; exact Wd⟩
theorem ab_sumcat (b : Nat) (st : List Value) : ((st.map (ab_v b)).map fun v => v.category).sum = (st.map fun v => v.category).sum := by
  rw [List.map_map]
  congr 1
  apply List.map_congr_left
  intro v _
  exact ab_cat b v
section
variable {l : Launch} {g : ab_G} {M : ab_M} {d mc ms pc pc' ce sl : Nat} {ls ls' : List (Nat × Value)} {st : List Value} {h h' : ab_H} {K : ab_K}
theorem ab_fin {p : Program} {e : Env} {R : Room} {s : State} {m : MethodId} {args aa : Array Value} {below : List Frame} {meth : Method} {c : Code} {H : Heap} {locs : List Loc} {la : Array Slot} {stk rest : List Value} {mc' ms' : Nat} {K' : ab_K} {Q : State → Prop}
    (hr : va_Run p l e R s m args below meth c H locs ce sl mc' ms' (F0 m pc la stk) rest (ab_Q g K' aa) (ab_F g)) (S : va_S (ab_F g) s.heap H locs)
    (kk : ∀ (v : Option Value) (h' : ab_H) (H' : Heap) (locs' : List Loc), K' v h' → ab_W g h' H' → va_S (ab_F g) s.heap H' locs' → W p l e R s m args below meth c H' locs' (ce + mc') (sl + ms') Q (F0 m (pc + 3) la ((v.map (ab_v g.2.2)).toList ++ rest))) : W p l e R s m args below meth c H locs ce sl Q (F0 m pc la stk) := by
  intro T hT X
  obtain ⟨v, st₀, t, T', L, h0, X', hL, e1, e2, ⟨⟨v', h', hv, hK, hW⟩, hz, hk⟩, st⟩ := hr T hT X
  cases hv
  rw [h0] at hz hk
  obtain ⟨t2, a1, b1⟩ := kk v' h' T'.heap (locs ++ L) hK (by rw [e1]; exact hW)
    ⟨Nat.le_trans S.1 (by rw [e1]; exact hz), fun q h1 h2 => by rw [e1, hk q (Nat.lt_of_lt_of_le h1 S.1) h2]; exact S.2.1 q h1 h2, fun q hq => by
      rcases List.mem_append.mp hq with h | h
      · exact S.2.2 q h
      · exact hL q h⟩ T' rfl X'
  exact ⟨t2, st t2 a1, b1⟩
theorem ab_stl (v : Option Value) (b : Nat) (st : List Value) : (v.map (ab_v b)).toList ++ st.map (ab_v b) = (v.toList ++ st).map (ab_v b) := by
  cases v <;> simp
theorem ab_callS {idx n mc' ms' dc : Nat} {Mc : ab_M} {as stk : List Value} (hd : decode M.2.2.1 pc = .ok (.invokestatic idx, 3)) (hl : ab_ML M.1 idx Mc.2.1) (ok : ab_Ok Mc n) (hst : Cond.static Mc.2.1 ∈ ab_tb) (hn : as.length = n) (hdc : dc + 1 ≤ d) (hcat : (st.map fun v => v.category).sum ≤ 8) (h1 : ce + mc' ≤ mc) (h2 : sl + ms' ≤ ms) (hs : as.reverse ++ st = stk) (hp : pc + 3 = pc') (kk : ab_S l g Mc dc mc' ms' as h (fun v h' => ab_Ev l g M d mc ms pc' ls (v.toList ++ st) h' (ce + mc') (sl + ms') K)) : ab_Ev l g M d mc ms pc ls stk h ce sl K := by
  subst hp; subst hs
  intro p e s m args below meth c H locs la C0 E S Wd hla
  have hts := C0.2.2.2.2.2.1
  have hR : (ab_R dc mc' ms').frames + 1 ≤ (ab_R d mc ms).frames ∧ 8 + (Mc.2.2.2.1 + 11) + (ab_R dc mc' ms').locals ≤ (ab_R d mc ms).locals := ⟨hdc, by show 8 + (Mc.2.2.2.1 + 11) + 36 * dc ≤ 36 * d; have := ok.2.2.2.2; omega⟩
  have hstk : (as.reverse ++ st).map (ab_v g.2.2) = (as.map (ab_v g.2.2)).reverse ++ st.map (ab_v g.2.2) := by simp
  have hr : va_Run p l e (ab_R d mc ms) s m args below meth c H locs ce sl mc' ms' (F0 m pc la ((as.reverse ++ st).map (ab_v g.2.2))) (st.map (ab_v g.2.2)) (ab_Q g (fun v h' => ab_Ev l g M d mc ms (pc + 3) ls (v.toList ++ st) h' (ce + mc') (sl + ms') K) (as.map (ab_v g.2.2)).toArray) (ab_F g) := by
    rcases hl with hl | hl
    · exact va_runS (As := as.map (ab_v g.2.2)) ⟨C0.1, C0.2.1, C0.2.2.2.1, C0.2.2.2.2.1, hts⟩ kk ⟨callB_of n hts (ab_gi ok.1) rfl rfl rfl (hts _ (ab_tsin ok.2.1)) (hts _ (ab_tsin hl)) ⟨ok.2.2.1.1, ok.2.2.1.2, ok.2.2.2.1⟩ hR, hts _ (ab_tsin hst)⟩ ⟨ab_blind, ab_pre E Wd⟩ rfl (by rw [List.length_map]; exact hn) hla.1 hstk (by show 2 * 0 + _ ≤ 8; rw [ab_sumcat]; omega) hd ⟨h1, h2⟩
    · exact va_runSN (As := as.map (ab_v g.2.2)) ⟨C0.1, C0.2.1, C0.2.2.2.1, C0.2.2.2.2.1, hts⟩ kk ⟨va_cnB n hts (ab_gi ok.1) rfl rfl rfl (E.2.1 _ hl) (hts _ (ab_tsin ok.2.1)) ⟨ok.2.2.1.1, ok.2.2.1.2, ok.2.2.2.1⟩ hR, hts _ (ab_tsin hst), trivial⟩ ⟨ab_blind, ab_pre E Wd⟩ rfl (by rw [List.length_map]; exact hn) hla.1 hstk (by show 2 * 0 + _ ≤ 8; rw [ab_sumcat]; omega) hd ⟨h1, h2⟩
  refine ab_fin hr S (fun v h' H' locs' hK hW hS => ?_)
  rw [ab_stl]
  exact hK p e s m args below meth c H' locs' la C0 E hS hW hla
theorem ab_callV {idx n mc' ms' dc r ci : Nat} {Mc : ab_M} {T : u_T} {N : Nat} {as stk : List Value} {u : Unit} (hd : decode M.2.2.1 pc = .ok (.invokevirtual idx, 3)) (hl : ab_ML M.1 idx Mc.2.1) (ok : ab_Ok Mc n) (hin : Cond.instanceMethod Mc.2.1 ∈ ab_tb) (hsel : Cond.selects Mc.2.1.cls Mc.2.1 Mc.2.1 ∈ ab_tb) (hc : vwCl[ci]? = some (Mc.2.1.cls, T, N)) (he : ab_ob h r ci = some u) (hn : as.length = n) (hdc : dc + 1 ≤ d) (hcat : (st.map fun v => v.category).sum ≤ 8) (h1 : ce + mc' ≤ mc) (h2 : sl + ms' ≤ ms) (hs : as.reverse ++ .ref r :: st = stk) (hp : pc + 3 = pc') (kk : ab_S l g Mc dc mc' ms' (.ref r :: as) h (fun v h' => ab_Ev l g M d mc ms pc' ls (v.toList ++ st) h' (ce + mc') (sl + ms') K)) : ab_Ev l g M d mc ms pc ls stk h ce sl K := by
  obtain ⟨fs, he⟩ := ab_ob_of he
  subst hp; subst hs
  intro p e s m args below meth c H locs la C0 E S Wd hla
  have hts := C0.2.2.2.2.2.1
  have hR : (ab_R dc mc' ms').frames + 1 ≤ (ab_R d mc ms).frames ∧ 8 + (Mc.2.2.2.1 + 11) + (ab_R dc mc' ms').locals ≤ (ab_R d mc ms).locals := ⟨hdc, by show 8 + (Mc.2.2.2.1 + 11) + 36 * dc ≤ 36 * d; have := ok.2.2.2.2; omega⟩
  have hstk : (as.reverse ++ .ref r :: st).map (ab_v g.2.2) = (as.map (ab_v g.2.2)).reverse ++ .ref (g.2.2 + r) :: st.map (ab_v g.2.2) := by simp [ab_v]
  have hrc := va_recv E.1 Wd.2 hc (ab_w_get (b := g.2.2) (cA := g.2.1) he)
  have hr : va_Run p l e (ab_R d mc ms) s m args below meth c H locs ce sl mc' ms' (F0 m pc la ((as.reverse ++ .ref r :: st).map (ab_v g.2.2))) (st.map (ab_v g.2.2)) (ab_Q g (fun v h' => ab_Ev l g M d mc ms (pc + 3) ls (v.toList ++ st) h' (ce + mc') (sl + ms') K) (Value.ref (g.2.2 + r) :: as.map (ab_v g.2.2)).toArray) (ab_F g) := by
    rcases hl with hl | hl
    · exact va_runV (C := Mc.2.1.cls) (b := g.2.2 + r) (As := as.map (ab_v g.2.2)) ⟨C0.1, C0.2.1, C0.2.2.2.1, C0.2.2.2.2.1, hts⟩ kk ⟨callB_of n hts (ab_gi ok.1) rfl rfl rfl (hts _ (ab_tsin ok.2.1)) (hts _ (ab_tsin hl)) ⟨ok.2.2.1.1, ok.2.2.1.2, ok.2.2.2.1⟩ hR, hts _ (ab_tsin hin), hts _ (ab_tsin hsel)⟩ ⟨ab_blind, hrc, ab_pre (vs := .ref r :: as) E Wd⟩ rfl (by rw [List.length_map]; exact hn) hla.1 hstk (by show 2 * 0 + _ ≤ 8; rw [ab_sumcat]; omega) hd ⟨h1, h2⟩
    · exact va_runVN (C := Mc.2.1.cls) (b := g.2.2 + r) (As := as.map (ab_v g.2.2)) ⟨C0.1, C0.2.1, C0.2.2.2.1, C0.2.2.2.2.1, hts⟩ kk ⟨va_cnB n hts (ab_gi ok.1) rfl rfl rfl (E.2.1 _ hl) (hts _ (ab_tsin ok.2.1)) ⟨ok.2.2.1.1, ok.2.2.1.2, ok.2.2.2.1⟩ hR, hts _ (ab_tsin hin), hts _ (ab_tsin hsel)⟩ ⟨ab_blind, hrc, ab_pre (vs := .ref r :: as) E Wd⟩ rfl (by rw [List.length_map]; exact hn) hla.1 hstk (by show 2 * 0 + _ ≤ 8; rw [ab_sumcat]; omega) hd ⟨h1, h2⟩
  refine ab_fin hr S (fun v h' H' locs' hK hW hS => ?_)
  rw [ab_stl]
  exact hK p e s m args below meth c H' locs' la C0 E hS hW hla
theorem ab_callI {idx n mc' ms' dc r : Nat} {Mc : ab_M} {as stk : List Value} (hd : decode M.2.2.1 pc = .ok (.invokespecial idx, 3)) (hl : ab_ML M.1 idx Mc.2.1) (ok : ab_Ok Mc n) (hret : Mc.2.2.2.2 = none) (hi : Mc.2.1.name = "<init>") (hin : Cond.instanceMethod Mc.2.1 ∈ ab_tb) (hn : as.length = n) (hdc : dc + 1 ≤ d) (hcat : (st.map fun v => v.category).sum ≤ 8) (h1 : ce + mc' ≤ mc) (h2 : sl + ms' ≤ ms) (hs : as.reverse ++ .ref r :: st = stk) (hp : pc + 3 = pc') (kk : ab_S l g Mc dc mc' ms' (.ref r :: as) h (fun v h' => ab_Ev l g M d mc ms pc' ls (v.toList ++ st) h' (ce + mc') (sl + ms') K)) : ab_Ev l g M d mc ms pc ls stk h ce sl K := by
  subst hp; subst hs
  intro p e s m args below meth c H locs la C0 E S Wd hla
  have hts := C0.2.2.2.2.2.1
  have hR : (ab_R dc mc' ms').frames + 1 ≤ (ab_R d mc ms).frames ∧ 8 + (Mc.2.2.2.1 + 11) + (ab_R dc mc' ms').locals ≤ (ab_R d mc ms).locals := ⟨hdc, by show 8 + (Mc.2.2.2.1 + 11) + 36 * dc ≤ 36 * d; have := ok.2.2.2.2; omega⟩
  have hstk : (as.reverse ++ .ref r :: st).map (ab_v g.2.2) = (as.map (ab_v g.2.2)).reverse ++ .ref (g.2.2 + r) :: st.map (ab_v g.2.2) := by simp [ab_v]
  have hwn : ab_ws Mc = Cond.code Mc.2.1 Mc.2.2.1 Mc.2.2.2.1 none :: ab_tb := by rw [← hret]; rfl
  have hr : va_Run p l e (ab_R d mc ms) s m args below meth c H locs ce sl mc' ms' (F0 m pc la ((as.reverse ++ .ref r :: st).map (ab_v g.2.2))) (st.map (ab_v g.2.2)) (ab_Q g (fun v h' => ab_Ev l g M d mc ms (pc + 3) ls (v.toList ++ st) h' (ce + mc') (sl + ms') K) (Value.ref (g.2.2 + r) :: as.map (ab_v g.2.2)).toArray) (ab_F g) := by
    rcases hl with hl | hl
    · exact va_runI (b := g.2.2 + r) (As := as.map (ab_v g.2.2)) ⟨C0.1, C0.2.1, C0.2.2.2.1, C0.2.2.2.2.1, hts⟩ kk ⟨callB_of n hts (ab_gi ok.1) hwn rfl rfl (hts _ (ab_tsin ok.2.1)) (hts _ (ab_tsin hl)) ⟨ok.2.2.1.1, ok.2.2.1.2, ok.2.2.2.1⟩ hR, hi, hts _ (ab_tsin hin)⟩ ⟨ab_blind, ab_pre (vs := .ref r :: as) E Wd⟩ rfl (by rw [List.length_map]; exact hn) hla.1 hstk (by show 2 * 0 + _ ≤ 8; rw [ab_sumcat]; omega) hd ⟨h1, h2⟩
    · exact va_runIN (b := g.2.2 + r) (As := as.map (ab_v g.2.2)) ⟨C0.1, C0.2.1, C0.2.2.2.1, C0.2.2.2.2.1, hts⟩ kk ⟨va_cnB n hts (ab_gi ok.1) hwn rfl rfl (E.2.1 _ hl) (hts _ (ab_tsin ok.2.1)) ⟨ok.2.2.1.1, ok.2.2.1.2, ok.2.2.2.1⟩ hR, hi, hts _ (ab_tsin hin)⟩ ⟨ab_blind, ab_pre (vs := .ref r :: as) E Wd⟩ rfl (by rw [List.length_map]; exact hn) hla.1 hstk (by show 2 * 0 + _ ≤ 8; rw [ab_sumcat]; omega) hd ⟨h1, h2⟩
  refine ab_fin hr S (fun v h' H' locs' hK hW hS => ?_)
  rw [ab_stl]
  exact hK p e s m args below meth c H' locs' la C0 E hS hW hla
theorem ab_mmax {idx : Nat} {x y : Int32} (hd : decode M.2.2.1 pc = .ok (.invokestatic idx, 3)) (hl : Cond.methodLink M.1 idx Lib.Math.max.name ∈ ab_tb) (hst : Cond.static Lib.Math.max.name ∈ ab_tb) (hini : Cond.initialized "java/lang/Math" ∈ ab_tb) (hco : Cond.code Lib.Math.max.name Lib.Math.max.code 2 (some .int) ∈ ab_tb) (hfr : 1 ≤ d) (hcat : (st.map fun v => v.category).sum ≤ 8) (h1 : ce ≤ mc) (h2 : sl ≤ ms) (hp : pc + 3 = pc') (kk : ab_Ev l g M d mc ms pc' ls (.int (if x < y then y else x) :: st) h ce sl K) : ab_Ev l g M d mc ms pc ls (.int y :: .int x :: st) h ce sl K := by
  subst hp
  intro p e s m args below meth c H locs la C0 E S Wd hla
  have hts := C0.2.2.2.2.2.1
  exact va_mmax C0.1 C0.2.1 (by rw [C0.2.2.2.1]; exact hla.1.symm) C0.2.2.2.2.1 (hts _ (ab_tsin hl)) (hts _ (ab_tsin hst)) (hts _ (ab_tsin hini)) (hts _ (ab_tsin hco)) hfr (by rw [ab_sumcat]; show _ + 13 ≤ 36 * d; omega) h1 h2 hd (kk p e s m args below meth c H locs la C0 E S Wd hla)
theorem ab_mmin {idx : Nat} {x y : Int32} (hd : decode M.2.2.1 pc = .ok (.invokestatic idx, 3)) (hl : Cond.methodLink M.1 idx Lib.Math.min.name ∈ ab_tb) (hst : Cond.static Lib.Math.min.name ∈ ab_tb) (hini : Cond.initialized "java/lang/Math" ∈ ab_tb) (hco : Cond.code Lib.Math.min.name Lib.Math.min.code 2 (some .int) ∈ ab_tb) (hfr : 1 ≤ d) (hcat : (st.map fun v => v.category).sum ≤ 8) (h1 : ce ≤ mc) (h2 : sl ≤ ms) (hp : pc + 3 = pc') (kk : ab_Ev l g M d mc ms pc' ls (.int (if y < x then y else x) :: st) h ce sl K) : ab_Ev l g M d mc ms pc ls (.int y :: .int x :: st) h ce sl K := by
  subst hp
  intro p e s m args below meth c H locs la C0 E S Wd hla
  have hts := C0.2.2.2.2.2.1
  exact va_mmin C0.1 C0.2.1 (by rw [C0.2.2.2.1]; exact hla.1.symm) C0.2.2.2.2.1 (hts _ (ab_tsin hl)) (hts _ (ab_tsin hst)) (hts _ (ab_tsin hini)) (hts _ (ab_tsin hco)) hfr (by rw [ab_sumcat]; show _ + 13 ≤ 36 * d; omega) h1 h2 hd (kk p e s m args below meth c H locs la C0 E S Wd hla)
theorem ab_obj {idx r : Nat} (hd : decode M.2.2.1 pc = .ok (.invokespecial idx, 3)) (hl : Cond.methodLink M.1 idx objectInit ∈ ab_tb) (hin : Cond.instanceMethod objectInit ∈ ab_tb) (hco : Cond.code objectInit ⟨#[0xb1]⟩ 1 none ∈ ab_tb) (hfr : 1 ≤ d) (hst : st = []) (hp : pc + 3 = pc') (kk : ab_Ev l g M d mc ms pc' ls st h ce sl K) : ab_Ev l g M d mc ms pc ls (.ref r :: st) h ce sl K := by
  subst hp; subst hst
  intro p e s m args below meth c H locs la C0 E S Wd hla
  have hts := C0.2.2.2.2.2.1
  exact W.objInit C0.1 C0.2.1 C0.2.2.2.2.1 (hts _ (ab_tsin hl)) (hts _ (ab_tsin hin)) (hts _ (ab_tsin hco)) rfl (by rw [C0.2.2.2.1]; exact hla.1) rfl hd hfr (by show 2 * 0 + 0 + 12 ≤ 36 * d; omega) (kk p e s m args below meth c H locs la C0 E S Wd hla)
end
end
section
theorem fl_X3_9 : ab_FL RX3 9 (TX3 0) := Or.inl (ab_in (List.mem_append_right _ (List.mem_of_getElem? (i := 33) (by decide +kernel))) (by decide +kernel))
theorem ff_X3_9 : Cond.fieldLink RX3 9 (TX3 0).1 (TX3 0).2.1 (TX3 0).2.2.1 ∈ ab_tb := ab_in (List.mem_append_right _ (List.mem_of_getElem? (i := 33) (by decide +kernel))) (by decide +kernel)
theorem fl_X3_15 : ab_FL RX3 15 (TX3 1) := Or.inl (ab_in (List.mem_append_right _ (List.mem_of_getElem? (i := 37) (by decide +kernel))) (by decide +kernel))
theorem ff_X3_15 : Cond.fieldLink RX3 15 (TX3 1).1 (TX3 1).2.1 (TX3 1).2.2.1 ∈ ab_tb := ab_in (List.mem_append_right _ (List.mem_of_getElem? (i := 37) (by decide +kernel))) (by decide +kernel)
theorem fl_X3_18 : ab_FL RX3 18 (TX3 2) := Or.inl (ab_in (List.mem_append_right _ (List.mem_of_getElem? (i := 41) (by decide +kernel))) (by decide +kernel))
theorem ff_X3_18 : Cond.fieldLink RX3 18 (TX3 2).1 (TX3 2).2.1 (TX3 2).2.2.1 ∈ ab_tb := ab_in (List.mem_append_right _ (List.mem_of_getElem? (i := 41) (by decide +kernel))) (by decide +kernel)
theorem fl_X3_27 : ab_FL RX3 27 (TX3 3) := Or.inl (ab_in (List.mem_append_right _ (List.mem_of_getElem? (i := 45) (by decide +kernel))) (by decide +kernel))
theorem ff_X3_27 : Cond.fieldLink RX3 27 (TX3 3).1 (TX3 3).2.1 (TX3 3).2.2.1 ∈ ab_tb := ab_in (List.mem_append_right _ (List.mem_of_getElem? (i := 45) (by decide +kernel))) (by decide +kernel)
theorem fl_X1_9 : ab_FL RX1 9 (TX1 0) := Or.inl (ab_in (List.mem_append_right _ (List.mem_of_getElem? (i := 63) (by decide +kernel))) (by decide +kernel))
theorem ff_X1_9 : Cond.fieldLink RX1 9 (TX1 0).1 (TX1 0).2.1 (TX1 0).2.2.1 ∈ ab_tb := ab_in (List.mem_append_right _ (List.mem_of_getElem? (i := 63) (by decide +kernel))) (by decide +kernel)
theorem fl_X1_15 : ab_FL RX1 15 (TX1 1) := Or.inl (ab_in (List.mem_append_right _ (List.mem_of_getElem? (i := 67) (by decide +kernel))) (by decide +kernel))
theorem ff_X1_15 : Cond.fieldLink RX1 15 (TX1 1).1 (TX1 1).2.1 (TX1 1).2.2.1 ∈ ab_tb := ab_in (List.mem_append_right _ (List.mem_of_getElem? (i := 67) (by decide +kernel))) (by decide +kernel)
theorem fl_X1_24 : ab_FL RX1 24 (TX1 2) := Or.inl (ab_in (List.mem_append_right _ (List.mem_of_getElem? (i := 70) (by decide +kernel))) (by decide +kernel))
theorem ff_X1_24 : Cond.fieldLink RX1 24 (TX1 2).1 (TX1 2).2.1 (TX1 2).2.2.1 ∈ ab_tb := ab_in (List.mem_append_right _ (List.mem_of_getElem? (i := 70) (by decide +kernel))) (by decide +kernel)
theorem fl_X1_28 : ab_FL RX1 28 (TX1 3) := Or.inl (ab_in (List.mem_append_right _ (List.mem_of_getElem? (i := 72) (by decide +kernel))) (by decide +kernel))
theorem ff_X1_28 : Cond.fieldLink RX1 28 (TX1 3).1 (TX1 3).2.1 (TX1 3).2.2.1 ∈ ab_tb := ab_in (List.mem_append_right _ (List.mem_of_getElem? (i := 72) (by decide +kernel))) (by decide +kernel)
theorem fl_X1_31 : ab_FL RX1 31 (TX1 4) := Or.inl (ab_in (List.mem_append_right _ (List.mem_of_getElem? (i := 74) (by decide +kernel))) (by decide +kernel))
theorem ff_X1_31 : Cond.fieldLink RX1 31 (TX1 4).1 (TX1 4).2.1 (TX1 4).2.2.1 ∈ ab_tb := ab_in (List.mem_append_right _ (List.mem_of_getElem? (i := 74) (by decide +kernel))) (by decide +kernel)
theorem fl_X5_11 : ab_FL RX5 11 (TX5 0) := Or.inl (ab_in (List.mem_append_right _ (List.mem_of_getElem? (i := 87) (by decide +kernel))) (by decide +kernel))
theorem ff_X5_11 : Cond.fieldLink RX5 11 (TX5 0).1 (TX5 0).2.1 (TX5 0).2.2.1 ∈ ab_tb := ab_in (List.mem_append_right _ (List.mem_of_getElem? (i := 87) (by decide +kernel))) (by decide +kernel)
theorem fl_X5_20 : ab_FL RX5 20 (TX5 1) := Or.inl (ab_in (List.mem_append_right _ (List.mem_of_getElem? (i := 91) (by decide +kernel))) (by decide +kernel))
theorem ff_X5_20 : Cond.fieldLink RX5 20 (TX5 1).1 (TX5 1).2.1 (TX5 1).2.2.1 ∈ ab_tb := ab_in (List.mem_append_right _ (List.mem_of_getElem? (i := 91) (by decide +kernel))) (by decide +kernel)
theorem fl_X5_24 : ab_FL RX5 24 (TX5 2) := Or.inl (ab_in (List.mem_append_right _ (List.mem_of_getElem? (i := 95) (by decide +kernel))) (by decide +kernel))
theorem ff_X5_24 : Cond.fieldLink RX5 24 (TX5 2).1 (TX5 2).2.1 (TX5 2).2.2.1 ∈ ab_tb := ab_in (List.mem_append_right _ (List.mem_of_getElem? (i := 95) (by decide +kernel))) (by decide +kernel)
theorem fl_X5_36 : ab_FL RX5 36 (TX5 3) := Or.inl (ab_in (List.mem_append_right _ (List.mem_of_getElem? (i := 98) (by decide +kernel))) (by decide +kernel))
theorem ff_X5_36 : Cond.fieldLink RX5 36 (TX5 3).1 (TX5 3).2.1 (TX5 3).2.2.1 ∈ ab_tb := ab_in (List.mem_append_right _ (List.mem_of_getElem? (i := 98) (by decide +kernel))) (by decide +kernel)
theorem fl_X0_19 : ab_FL RX0 19 (TX0 0) := Or.inl (ab_in (List.mem_append_right _ (List.mem_of_getElem? (i := 124) (by decide +kernel))) (by decide +kernel))
theorem ff_X0_19 : Cond.fieldLink RX0 19 (TX0 0).1 (TX0 0).2.1 (TX0 0).2.2.1 ∈ ab_tb := ab_in (List.mem_append_right _ (List.mem_of_getElem? (i := 124) (by decide +kernel))) (by decide +kernel)
theorem fl_X0_22 : ab_FL RX0 22 (TX0 1) := Or.inl (ab_in (List.mem_append_right _ (List.mem_of_getElem? (i := 127) (by decide +kernel))) (by decide +kernel))
theorem ff_X0_22 : Cond.fieldLink RX0 22 (TX0 1).1 (TX0 1).2.1 (TX0 1).2.2.1 ∈ ab_tb := ab_in (List.mem_append_right _ (List.mem_of_getElem? (i := 127) (by decide +kernel))) (by decide +kernel)
theorem fl_X0_25 : ab_FL RX0 25 (TX0 2) := Or.inl (ab_in (List.mem_append_right _ (List.mem_of_getElem? (i := 130) (by decide +kernel))) (by decide +kernel))
theorem ff_X0_25 : Cond.fieldLink RX0 25 (TX0 2).1 (TX0 2).2.1 (TX0 2).2.2.1 ∈ ab_tb := ab_in (List.mem_append_right _ (List.mem_of_getElem? (i := 130) (by decide +kernel))) (by decide +kernel)
theorem fl_X0_28 : ab_FL RX0 28 (TX0 3) := Or.inl (ab_in (List.mem_append_right _ (List.mem_of_getElem? (i := 133) (by decide +kernel))) (by decide +kernel))
theorem ff_X0_28 : Cond.fieldLink RX0 28 (TX0 3).1 (TX0 3).2.1 (TX0 3).2.2.1 ∈ ab_tb := ab_in (List.mem_append_right _ (List.mem_of_getElem? (i := 133) (by decide +kernel))) (by decide +kernel)
theorem fl_X0_31 : ab_FL RX0 31 (TX0 4) := Or.inl (ab_in (List.mem_append_right _ (List.mem_of_getElem? (i := 136) (by decide +kernel))) (by decide +kernel))
theorem ff_X0_31 : Cond.fieldLink RX0 31 (TX0 4).1 (TX0 4).2.1 (TX0 4).2.2.1 ∈ ab_tb := ab_in (List.mem_append_right _ (List.mem_of_getElem? (i := 136) (by decide +kernel))) (by decide +kernel)
theorem fl_X0_34 : ab_FL RX0 34 (TX0 5) := Or.inl (ab_in (List.mem_append_right _ (List.mem_of_getElem? (i := 139) (by decide +kernel))) (by decide +kernel))
theorem ff_X0_34 : Cond.fieldLink RX0 34 (TX0 5).1 (TX0 5).2.1 (TX0 5).2.2.1 ∈ ab_tb := ab_in (List.mem_append_right _ (List.mem_of_getElem? (i := 139) (by decide +kernel))) (by decide +kernel)
theorem fl_X0_37 : ab_FL RX0 37 (TX0 6) := Or.inl (ab_in (List.mem_append_right _ (List.mem_of_getElem? (i := 141) (by decide +kernel))) (by decide +kernel))
theorem ff_X0_37 : Cond.fieldLink RX0 37 (TX0 6).1 (TX0 6).2.1 (TX0 6).2.2.1 ∈ ab_tb := ab_in (List.mem_append_right _ (List.mem_of_getElem? (i := 141) (by decide +kernel))) (by decide +kernel)
theorem fl_X0_9 : ab_FL RX0 9 (TX0 7) := Or.inl (ab_in (List.mem_append_right _ (List.mem_of_getElem? (i := 144) (by decide +kernel))) (by decide +kernel))
theorem ff_X0_9 : Cond.fieldLink RX0 9 (TX0 7).1 (TX0 7).2.1 (TX0 7).2.2.1 ∈ ab_tb := ab_in (List.mem_append_right _ (List.mem_of_getElem? (i := 144) (by decide +kernel))) (by decide +kernel)
theorem fl_X0_40 : ab_FL RX0 40 (TX0 8) := Or.inl (ab_in (List.mem_append_right _ (List.mem_of_getElem? (i := 145) (by decide +kernel))) (by decide +kernel))
theorem ff_X0_40 : Cond.fieldLink RX0 40 (TX0 8).1 (TX0 8).2.1 (TX0 8).2.2.1 ∈ ab_tb := ab_in (List.mem_append_right _ (List.mem_of_getElem? (i := 145) (by decide +kernel))) (by decide +kernel)
theorem fl_X0_15 : ab_FL RX0 15 (TX0 9) := Or.inl (ab_in (List.mem_append_right _ (List.mem_of_getElem? (i := 147) (by decide +kernel))) (by decide +kernel))
theorem ff_X0_15 : Cond.fieldLink RX0 15 (TX0 9).1 (TX0 9).2.1 (TX0 9).2.2.1 ∈ ab_tb := ab_in (List.mem_append_right _ (List.mem_of_getElem? (i := 147) (by decide +kernel))) (by decide +kernel)
theorem fl_X4_11 : ab_FL RX4 11 (TX4 0) := Or.inl (ab_in (List.mem_append_right _ (List.mem_of_getElem? (i := 171) (by decide +kernel))) (by decide +kernel))
theorem ff_X4_11 : Cond.fieldLink RX4 11 (TX4 0).1 (TX4 0).2.1 (TX4 0).2.2.1 ∈ ab_tb := ab_in (List.mem_append_right _ (List.mem_of_getElem? (i := 171) (by decide +kernel))) (by decide +kernel)
theorem fl_X4_17 : ab_FL RX4 17 (TX4 1) := Or.inl (ab_in (List.mem_append_right _ (List.mem_of_getElem? (i := 173) (by decide +kernel))) (by decide +kernel))
theorem ff_X4_17 : Cond.fieldLink RX4 17 (TX4 1).1 (TX4 1).2.1 (TX4 1).2.2.1 ∈ ab_tb := ab_in (List.mem_append_right _ (List.mem_of_getElem? (i := 173) (by decide +kernel))) (by decide +kernel)
theorem fl_X4_21 : ab_FL RX4 21 (TX4 2) := Or.inl (ab_in (List.mem_append_right _ (List.mem_of_getElem? (i := 174) (by decide +kernel))) (by decide +kernel))
theorem ff_X4_21 : Cond.fieldLink RX4 21 (TX4 2).1 (TX4 2).2.1 (TX4 2).2.2.1 ∈ ab_tb := ab_in (List.mem_append_right _ (List.mem_of_getElem? (i := 174) (by decide +kernel))) (by decide +kernel)
theorem fl_X4_24 : ab_FL RX4 24 (TX4 3) := Or.inl (ab_in (List.mem_append_right _ (List.mem_of_getElem? (i := 176) (by decide +kernel))) (by decide +kernel))
theorem ff_X4_24 : Cond.fieldLink RX4 24 (TX4 3).1 (TX4 3).2.1 (TX4 3).2.2.1 ∈ ab_tb := ab_in (List.mem_append_right _ (List.mem_of_getElem? (i := 176) (by decide +kernel))) (by decide +kernel)
theorem fl_X4_66 : ab_FL RX4 66 (TX4 4) := Or.inl (ab_in (List.mem_append_right _ (List.mem_of_getElem? (i := 178) (by decide +kernel))) (by decide +kernel))
theorem ff_X4_66 : Cond.fieldLink RX4 66 (TX4 4).1 (TX4 4).2.1 (TX4 4).2.2.1 ∈ ab_tb := ab_in (List.mem_append_right _ (List.mem_of_getElem? (i := 178) (by decide +kernel))) (by decide +kernel)
theorem fl_X4_69 : ab_FL RX4 69 (TX4 5) := Or.inl (ab_in (List.mem_append_right _ (List.mem_of_getElem? (i := 180) (by decide +kernel))) (by decide +kernel))
theorem ff_X4_69 : Cond.fieldLink RX4 69 (TX4 5).1 (TX4 5).2.1 (TX4 5).2.2.1 ∈ ab_tb := ab_in (List.mem_append_right _ (List.mem_of_getElem? (i := 180) (by decide +kernel))) (by decide +kernel)
theorem fl_X4_72 : ab_FL RX4 72 (TX4 6) := Or.inl (ab_in (List.mem_append_right _ (List.mem_of_getElem? (i := 182) (by decide +kernel))) (by decide +kernel))
theorem ff_X4_72 : Cond.fieldLink RX4 72 (TX4 6).1 (TX4 6).2.1 (TX4 6).2.2.1 ∈ ab_tb := ab_in (List.mem_append_right _ (List.mem_of_getElem? (i := 182) (by decide +kernel))) (by decide +kernel)
theorem fl_X4_32 : ab_FL RX4 32 (TX4 7) := Or.inl (ab_in (List.mem_append_right _ (List.mem_of_getElem? (i := 183) (by decide +kernel))) (by decide +kernel))
theorem ff_X4_32 : Cond.fieldLink RX4 32 (TX4 7).1 (TX4 7).2.1 (TX4 7).2.2.1 ∈ ab_tb := ab_in (List.mem_append_right _ (List.mem_of_getElem? (i := 183) (by decide +kernel))) (by decide +kernel)
theorem fl_X4_27 : ab_FL RX4 27 (TX4 8) := Or.inl (ab_in (List.mem_append_right _ (List.mem_of_getElem? (i := 184) (by decide +kernel))) (by decide +kernel))
theorem ff_X4_27 : Cond.fieldLink RX4 27 (TX4 8).1 (TX4 8).2.1 (TX4 8).2.2.1 ∈ ab_tb := ab_in (List.mem_append_right _ (List.mem_of_getElem? (i := 184) (by decide +kernel))) (by decide +kernel)
theorem fl_X2_9 : ab_FL RX2 9 (TX2 0) := Or.inl (ab_in (List.mem_append_right _ (List.mem_of_getElem? (i := 210) (by decide +kernel))) (by decide +kernel))
theorem ff_X2_9 : Cond.fieldLink RX2 9 (TX2 0).1 (TX2 0).2.1 (TX2 0).2.2.1 ∈ ab_tb := ab_in (List.mem_append_right _ (List.mem_of_getElem? (i := 210) (by decide +kernel))) (by decide +kernel)
theorem fl_X2_15 : ab_FL RX2 15 (TX2 1) := Or.inl (ab_in (List.mem_append_right _ (List.mem_of_getElem? (i := 211) (by decide +kernel))) (by decide +kernel))
theorem ff_X2_15 : Cond.fieldLink RX2 15 (TX2 1).1 (TX2 1).2.1 (TX2 1).2.2.1 ∈ ab_tb := ab_in (List.mem_append_right _ (List.mem_of_getElem? (i := 211) (by decide +kernel))) (by decide +kernel)
theorem fl_X2_18 : ab_FL RX2 18 (TX2 2) := Or.inl (ab_in (List.mem_append_right _ (List.mem_of_getElem? (i := 212) (by decide +kernel))) (by decide +kernel))
theorem ff_X2_18 : Cond.fieldLink RX2 18 (TX2 2).1 (TX2 2).2.1 (TX2 2).2.2.1 ∈ ab_tb := ab_in (List.mem_append_right _ (List.mem_of_getElem? (i := 212) (by decide +kernel))) (by decide +kernel)
theorem fl_X2_21 : ab_FL RX2 21 (TX2 3) := Or.inl (ab_in (List.mem_append_right _ (List.mem_of_getElem? (i := 213) (by decide +kernel))) (by decide +kernel))
theorem ff_X2_21 : Cond.fieldLink RX2 21 (TX2 3).1 (TX2 3).2.1 (TX2 3).2.2.1 ∈ ab_tb := ab_in (List.mem_append_right _ (List.mem_of_getElem? (i := 213) (by decide +kernel))) (by decide +kernel)
theorem fl_X2_40 : ab_FL RX2 40 (TX2 4) := Or.inl (ab_in (List.mem_append_right _ (List.mem_of_getElem? (i := 214) (by decide +kernel))) (by decide +kernel))
theorem ff_X2_40 : Cond.fieldLink RX2 40 (TX2 4).1 (TX2 4).2.1 (TX2 4).2.2.1 ∈ ab_tb := ab_in (List.mem_append_right _ (List.mem_of_getElem? (i := 214) (by decide +kernel))) (by decide +kernel)
theorem fl_X6_10 : ab_FL RX6 10 (TX6 0) := Or.inl (ab_in (List.mem_append_right _ (List.mem_of_getElem? (i := 227) (by decide +kernel))) (by decide +kernel))
theorem ff_X6_10 : Cond.fieldLink RX6 10 (TX6 0).1 (TX6 0).2.1 (TX6 0).2.2.1 ∈ ab_tb := ab_in (List.mem_append_right _ (List.mem_of_getElem? (i := 227) (by decide +kernel))) (by decide +kernel)
theorem fl_X6_16 : ab_FL RX6 16 (TX6 1) := Or.inl (ab_in (List.mem_append_right _ (List.mem_of_getElem? (i := 228) (by decide +kernel))) (by decide +kernel))
theorem ff_X6_16 : Cond.fieldLink RX6 16 (TX6 1).1 (TX6 1).2.1 (TX6 1).2.2.1 ∈ ab_tb := ab_in (List.mem_append_right _ (List.mem_of_getElem? (i := 228) (by decide +kernel))) (by decide +kernel)
theorem fl_X6_20 : ab_FL RX6 20 (TX6 2) := Or.inl (ab_in (List.mem_append_right _ (List.mem_of_getElem? (i := 229) (by decide +kernel))) (by decide +kernel))
theorem ff_X6_20 : Cond.fieldLink RX6 20 (TX6 2).1 (TX6 2).2.1 (TX6 2).2.2.1 ∈ ab_tb := ab_in (List.mem_append_right _ (List.mem_of_getElem? (i := 229) (by decide +kernel))) (by decide +kernel)
theorem fl_X6_27 : ab_FL RX6 27 (TX6 3) := Or.inl (ab_in (List.mem_append_right _ (List.mem_of_getElem? (i := 230) (by decide +kernel))) (by decide +kernel))
theorem ff_X6_27 : Cond.fieldLink RX6 27 (TX6 3).1 (TX6 3).2.1 (TX6 3).2.2.1 ∈ ab_tb := ab_in (List.mem_append_right _ (List.mem_of_getElem? (i := 230) (by decide +kernel))) (by decide +kernel)
theorem fl_X6_34 : ab_FL RX6 34 (TX6 4) := Or.inl (ab_in (List.mem_append_right _ (List.mem_of_getElem? (i := 231) (by decide +kernel))) (by decide +kernel))
theorem ff_X6_34 : Cond.fieldLink RX6 34 (TX6 4).1 (TX6 4).2.1 (TX6 4).2.2.1 ∈ ab_tb := ab_in (List.mem_append_right _ (List.mem_of_getElem? (i := 231) (by decide +kernel))) (by decide +kernel)
theorem fl_X7_7 : ab_FL RX7 7 (TX7 0) := Or.inl (ab_in (List.mem_append_right _ (List.mem_of_getElem? (i := 540) (by decide +kernel))) (by decide +kernel))
theorem ff_X7_7 : Cond.fieldLink RX7 7 (TX7 0).1 (TX7 0).2.1 (TX7 0).2.2.1 ∈ ab_tb := ab_in (List.mem_append_right _ (List.mem_of_getElem? (i := 540) (by decide +kernel))) (by decide +kernel)
theorem fl_X7_13 : ab_FL RX7 13 (TX7 1) := Or.inl (ab_in (List.mem_append_right _ (List.mem_of_getElem? (i := 541) (by decide +kernel))) (by decide +kernel))
theorem ff_X7_13 : Cond.fieldLink RX7 13 (TX7 1).1 (TX7 1).2.1 (TX7 1).2.2.1 ∈ ab_tb := ab_in (List.mem_append_right _ (List.mem_of_getElem? (i := 541) (by decide +kernel))) (by decide +kernel)
theorem fl_X7_16 : ab_FL RX7 16 (TX7 2) := Or.inl (ab_in (List.mem_append_right _ (List.mem_of_getElem? (i := 542) (by decide +kernel))) (by decide +kernel))
theorem ff_X7_16 : Cond.fieldLink RX7 16 (TX7 2).1 (TX7 2).2.1 (TX7 2).2.2.1 ∈ ab_tb := ab_in (List.mem_append_right _ (List.mem_of_getElem? (i := 542) (by decide +kernel))) (by decide +kernel)
theorem fl_X7_19 : ab_FL RX7 19 (TX7 3) := Or.inl (ab_in (List.mem_append_right _ (List.mem_of_getElem? (i := 543) (by decide +kernel))) (by decide +kernel))
theorem ff_X7_19 : Cond.fieldLink RX7 19 (TX7 3).1 (TX7 3).2.1 (TX7 3).2.2.1 ∈ ab_tb := ab_in (List.mem_append_right _ (List.mem_of_getElem? (i := 543) (by decide +kernel))) (by decide +kernel)
theorem fl_X7_22 : ab_FL RX7 22 (TX7 4) := Or.inl (ab_in (List.mem_append_right _ (List.mem_of_getElem? (i := 544) (by decide +kernel))) (by decide +kernel))
theorem ff_X7_22 : Cond.fieldLink RX7 22 (TX7 4).1 (TX7 4).2.1 (TX7 4).2.2.1 ∈ ab_tb := ab_in (List.mem_append_right _ (List.mem_of_getElem? (i := 544) (by decide +kernel))) (by decide +kernel)
theorem fl_X7_94 : ab_FL RX7 94 (TX7 5) := Or.inl (ab_in (List.mem_append_right _ (List.mem_of_getElem? (i := 545) (by decide +kernel))) (by decide +kernel))
theorem ff_X7_94 : Cond.fieldLink RX7 94 (TX7 5).1 (TX7 5).2.1 (TX7 5).2.2.1 ∈ ab_tb := ab_in (List.mem_append_right _ (List.mem_of_getElem? (i := 545) (by decide +kernel))) (by decide +kernel)
theorem fl_X7_25 : ab_FL RX7 25 (TX7 6) := Or.inl (ab_in (List.mem_append_right _ (List.mem_of_getElem? (i := 546) (by decide +kernel))) (by decide +kernel))
theorem ff_X7_25 : Cond.fieldLink RX7 25 (TX7 6).1 (TX7 6).2.1 (TX7 6).2.2.1 ∈ ab_tb := ab_in (List.mem_append_right _ (List.mem_of_getElem? (i := 546) (by decide +kernel))) (by decide +kernel)
theorem fl_X7_28 : ab_FL RX7 28 (TX7 7) := Or.inl (ab_in (List.mem_append_right _ (List.mem_of_getElem? (i := 547) (by decide +kernel))) (by decide +kernel))
theorem ff_X7_28 : Cond.fieldLink RX7 28 (TX7 7).1 (TX7 7).2.1 (TX7 7).2.2.1 ∈ ab_tb := ab_in (List.mem_append_right _ (List.mem_of_getElem? (i := 547) (by decide +kernel))) (by decide +kernel)
theorem fl_X7_31 : ab_FL RX7 31 (TX7 8) := Or.inl (ab_in (List.mem_append_right _ (List.mem_of_getElem? (i := 548) (by decide +kernel))) (by decide +kernel))
theorem ff_X7_31 : Cond.fieldLink RX7 31 (TX7 8).1 (TX7 8).2.1 (TX7 8).2.2.1 ∈ ab_tb := ab_in (List.mem_append_right _ (List.mem_of_getElem? (i := 548) (by decide +kernel))) (by decide +kernel)
theorem fl_X7_34 : ab_FL RX7 34 (TX7 9) := Or.inl (ab_in (List.mem_append_right _ (List.mem_of_getElem? (i := 549) (by decide +kernel))) (by decide +kernel))
theorem ff_X7_34 : Cond.fieldLink RX7 34 (TX7 9).1 (TX7 9).2.1 (TX7 9).2.2.1 ∈ ab_tb := ab_in (List.mem_append_right _ (List.mem_of_getElem? (i := 549) (by decide +kernel))) (by decide +kernel)
theorem fl_X7_108 : ab_FL RX7 108 (TX7 10) := Or.inl (ab_in (List.mem_append_right _ (List.mem_of_getElem? (i := 550) (by decide +kernel))) (by decide +kernel))
theorem ff_X7_108 : Cond.fieldLink RX7 108 (TX7 10).1 (TX7 10).2.1 (TX7 10).2.2.1 ∈ ab_tb := ab_in (List.mem_append_right _ (List.mem_of_getElem? (i := 550) (by decide +kernel))) (by decide +kernel)
theorem fl_X7_38 : ab_FL RX7 38 (TX7 11) := Or.inl (ab_in (List.mem_append_right _ (List.mem_of_getElem? (i := 551) (by decide +kernel))) (by decide +kernel))
theorem ff_X7_38 : Cond.fieldLink RX7 38 (TX7 11).1 (TX7 11).2.1 (TX7 11).2.2.1 ∈ ab_tb := ab_in (List.mem_append_right _ (List.mem_of_getElem? (i := 551) (by decide +kernel))) (by decide +kernel)
theorem fl_X7_41 : ab_FL RX7 41 (TX7 12) := Or.inl (ab_in (List.mem_append_right _ (List.mem_of_getElem? (i := 552) (by decide +kernel))) (by decide +kernel))
theorem ff_X7_41 : Cond.fieldLink RX7 41 (TX7 12).1 (TX7 12).2.1 (TX7 12).2.2.1 ∈ ab_tb := ab_in (List.mem_append_right _ (List.mem_of_getElem? (i := 552) (by decide +kernel))) (by decide +kernel)
theorem fl_X7_44 : ab_FL RX7 44 (TX7 13) := Or.inl (ab_in (List.mem_append_right _ (List.mem_of_getElem? (i := 553) (by decide +kernel))) (by decide +kernel))
theorem ff_X7_44 : Cond.fieldLink RX7 44 (TX7 13).1 (TX7 13).2.1 (TX7 13).2.2.1 ∈ ab_tb := ab_in (List.mem_append_right _ (List.mem_of_getElem? (i := 553) (by decide +kernel))) (by decide +kernel)
theorem fl_X7_47 : ab_FL RX7 47 (TX7 14) := Or.inl (ab_in (List.mem_append_right _ (List.mem_of_getElem? (i := 554) (by decide +kernel))) (by decide +kernel))
theorem ff_X7_47 : Cond.fieldLink RX7 47 (TX7 14).1 (TX7 14).2.1 (TX7 14).2.2.1 ∈ ab_tb := ab_in (List.mem_append_right _ (List.mem_of_getElem? (i := 554) (by decide +kernel))) (by decide +kernel)
theorem fl_X7_50 : ab_FL RX7 50 (TX7 15) := Or.inl (ab_in (List.mem_append_right _ (List.mem_of_getElem? (i := 555) (by decide +kernel))) (by decide +kernel))
theorem ff_X7_50 : Cond.fieldLink RX7 50 (TX7 15).1 (TX7 15).2.1 (TX7 15).2.2.1 ∈ ab_tb := ab_in (List.mem_append_right _ (List.mem_of_getElem? (i := 555) (by decide +kernel))) (by decide +kernel)
theorem fl_X7_53 : ab_FL RX7 53 (TX7 16) := Or.inl (ab_in (List.mem_append_right _ (List.mem_of_getElem? (i := 556) (by decide +kernel))) (by decide +kernel))
theorem ff_X7_53 : Cond.fieldLink RX7 53 (TX7 16).1 (TX7 16).2.1 (TX7 16).2.2.1 ∈ ab_tb := ab_in (List.mem_append_right _ (List.mem_of_getElem? (i := 556) (by decide +kernel))) (by decide +kernel)
theorem fl_X7_56 : ab_FL RX7 56 (TX7 17) := Or.inl (ab_in (List.mem_append_right _ (List.mem_of_getElem? (i := 557) (by decide +kernel))) (by decide +kernel))
theorem ff_X7_56 : Cond.fieldLink RX7 56 (TX7 17).1 (TX7 17).2.1 (TX7 17).2.2.1 ∈ ab_tb := ab_in (List.mem_append_right _ (List.mem_of_getElem? (i := 557) (by decide +kernel))) (by decide +kernel)
theorem fl_X7_59 : ab_FL RX7 59 (TX7 18) := Or.inl (ab_in (List.mem_append_right _ (List.mem_of_getElem? (i := 558) (by decide +kernel))) (by decide +kernel))
theorem ff_X7_59 : Cond.fieldLink RX7 59 (TX7 18).1 (TX7 18).2.1 (TX7 18).2.2.1 ∈ ab_tb := ab_in (List.mem_append_right _ (List.mem_of_getElem? (i := 558) (by decide +kernel))) (by decide +kernel)
theorem fl_X7_62 : ab_FL RX7 62 (TX7 19) := Or.inl (ab_in (List.mem_append_right _ (List.mem_of_getElem? (i := 559) (by decide +kernel))) (by decide +kernel))
theorem ff_X7_62 : Cond.fieldLink RX7 62 (TX7 19).1 (TX7 19).2.1 (TX7 19).2.2.1 ∈ ab_tb := ab_in (List.mem_append_right _ (List.mem_of_getElem? (i := 559) (by decide +kernel))) (by decide +kernel)
theorem fl_X7_65 : ab_FL RX7 65 (TX7 20) := Or.inl (ab_in (List.mem_append_right _ (List.mem_of_getElem? (i := 560) (by decide +kernel))) (by decide +kernel))
theorem ff_X7_65 : Cond.fieldLink RX7 65 (TX7 20).1 (TX7 20).2.1 (TX7 20).2.2.1 ∈ ab_tb := ab_in (List.mem_append_right _ (List.mem_of_getElem? (i := 560) (by decide +kernel))) (by decide +kernel)
theorem fl_X7_68 : ab_FL RX7 68 (TX7 21) := Or.inl (ab_in (List.mem_append_right _ (List.mem_of_getElem? (i := 561) (by decide +kernel))) (by decide +kernel))
theorem ff_X7_68 : Cond.fieldLink RX7 68 (TX7 21).1 (TX7 21).2.1 (TX7 21).2.2.1 ∈ ab_tb := ab_in (List.mem_append_right _ (List.mem_of_getElem? (i := 561) (by decide +kernel))) (by decide +kernel)
theorem fl_X7_121 : ab_FL RX7 121 (TX7 22) := Or.inl (ab_in (List.mem_append_right _ (List.mem_of_getElem? (i := 562) (by decide +kernel))) (by decide +kernel))
theorem ff_X7_121 : Cond.fieldLink RX7 121 (TX7 22).1 (TX7 22).2.1 (TX7 22).2.2.1 ∈ ab_tb := ab_in (List.mem_append_right _ (List.mem_of_getElem? (i := 562) (by decide +kernel))) (by decide +kernel)
theorem fl_X7_127 : ab_FL RX7 127 (TX7 23) := Or.inl (ab_in (List.mem_append_right _ (List.mem_of_getElem? (i := 563) (by decide +kernel))) (by decide +kernel))
theorem ff_X7_127 : Cond.fieldLink RX7 127 (TX7 23).1 (TX7 23).2.1 (TX7 23).2.2.1 ∈ ab_tb := ab_in (List.mem_append_right _ (List.mem_of_getElem? (i := 563) (by decide +kernel))) (by decide +kernel)
theorem fl_X7_71 : ab_FL RX7 71 (TX7 24) := Or.inl (ab_in (List.mem_append_right _ (List.mem_of_getElem? (i := 564) (by decide +kernel))) (by decide +kernel))
theorem ff_X7_71 : Cond.fieldLink RX7 71 (TX7 24).1 (TX7 24).2.1 (TX7 24).2.2.1 ∈ ab_tb := ab_in (List.mem_append_right _ (List.mem_of_getElem? (i := 564) (by decide +kernel))) (by decide +kernel)
theorem fl_X7_74 : ab_FL RX7 74 (TX7 25) := Or.inl (ab_in (List.mem_append_right _ (List.mem_of_getElem? (i := 565) (by decide +kernel))) (by decide +kernel))
theorem ff_X7_74 : Cond.fieldLink RX7 74 (TX7 25).1 (TX7 25).2.1 (TX7 25).2.2.1 ∈ ab_tb := ab_in (List.mem_append_right _ (List.mem_of_getElem? (i := 565) (by decide +kernel))) (by decide +kernel)
theorem fl_X7_77 : ab_FL RX7 77 (TX7 26) := Or.inl (ab_in (List.mem_append_right _ (List.mem_of_getElem? (i := 566) (by decide +kernel))) (by decide +kernel))
theorem ff_X7_77 : Cond.fieldLink RX7 77 (TX7 26).1 (TX7 26).2.1 (TX7 26).2.2.1 ∈ ab_tb := ab_in (List.mem_append_right _ (List.mem_of_getElem? (i := 566) (by decide +kernel))) (by decide +kernel)
theorem fl_X7_150 : ab_FL RX7 150 (TX7 27) := Or.inl (ab_in (List.mem_append_right _ (List.mem_of_getElem? (i := 567) (by decide +kernel))) (by decide +kernel))
theorem ff_X7_150 : Cond.fieldLink RX7 150 (TX7 27).1 (TX7 27).2.1 (TX7 27).2.2.1 ∈ ab_tb := ab_in (List.mem_append_right _ (List.mem_of_getElem? (i := 567) (by decide +kernel))) (by decide +kernel)
theorem fl_X7_80 : ab_FL RX7 80 (TX7 28) := Or.inl (ab_in (List.mem_append_right _ (List.mem_of_getElem? (i := 568) (by decide +kernel))) (by decide +kernel))
theorem ff_X7_80 : Cond.fieldLink RX7 80 (TX7 28).1 (TX7 28).2.1 (TX7 28).2.2.1 ∈ ab_tb := ab_in (List.mem_append_right _ (List.mem_of_getElem? (i := 568) (by decide +kernel))) (by decide +kernel)
theorem fl_X7_84 : ab_FL RX7 84 (TX7 29) := Or.inl (ab_in (List.mem_append_right _ (List.mem_of_getElem? (i := 569) (by decide +kernel))) (by decide +kernel))
theorem ff_X7_84 : Cond.fieldLink RX7 84 (TX7 29).1 (TX7 29).2.1 (TX7 29).2.2.1 ∈ ab_tb := ab_in (List.mem_append_right _ (List.mem_of_getElem? (i := 569) (by decide +kernel))) (by decide +kernel)
theorem fl_X7_87 : ab_FL RX7 87 (TX7 30) := Or.inl (ab_in (List.mem_append_right _ (List.mem_of_getElem? (i := 570) (by decide +kernel))) (by decide +kernel))
theorem ff_X7_87 : Cond.fieldLink RX7 87 (TX7 30).1 (TX7 30).2.1 (TX7 30).2.2.1 ∈ ab_tb := ab_in (List.mem_append_right _ (List.mem_of_getElem? (i := 570) (by decide +kernel))) (by decide +kernel)
theorem fl_X2_45 : ab_FL RX2 45 (TX3 0) := Or.inr (ab_xin (List.mem_of_getElem? (i := 34) (by decide +kernel)) (by decide +kernel))
theorem fl_X4_76 : ab_FL RX4 76 (TX3 0) := Or.inr (ab_xin (List.mem_of_getElem? (i := 35) (by decide +kernel)) (by decide +kernel))
theorem fl_X6_103 : ab_FL RX6 103 (TX3 0) := Or.inr (ab_xin (List.mem_of_getElem? (i := 36) (by decide +kernel)) (by decide +kernel))
theorem fl_X2_48 : ab_FL RX2 48 (TX3 1) := Or.inr (ab_xin (List.mem_of_getElem? (i := 38) (by decide +kernel)) (by decide +kernel))
theorem fl_X4_82 : ab_FL RX4 82 (TX3 1) := Or.inr (ab_xin (List.mem_of_getElem? (i := 39) (by decide +kernel)) (by decide +kernel))
theorem fl_X6_106 : ab_FL RX6 106 (TX3 1) := Or.inr (ab_xin (List.mem_of_getElem? (i := 40) (by decide +kernel)) (by decide +kernel))
theorem fl_X4_84 : ab_FL RX4 84 (TX3 2) := Or.inr (ab_xin (List.mem_of_getElem? (i := 42) (by decide +kernel)) (by decide +kernel))
theorem fl_X6_108 : ab_FL RX6 108 (TX3 2) := Or.inr (ab_xin (List.mem_of_getElem? (i := 43) (by decide +kernel)) (by decide +kernel))
theorem fl_X2_44 : ab_FL RX2 44 (TX3 3) := Or.inr (ab_xin (List.mem_of_getElem? (i := 44) (by decide +kernel)) (by decide +kernel))
theorem fl_X4_75 : ab_FL RX4 75 (TX3 3) := Or.inr (ab_xin (List.mem_of_getElem? (i := 46) (by decide +kernel)) (by decide +kernel))
theorem fl_X6_87 : ab_FL RX6 87 (TX3 3) := Or.inr (ab_xin (List.mem_of_getElem? (i := 47) (by decide +kernel)) (by decide +kernel))
theorem fl_X6_50 : ab_FL RX6 50 (TX1 0) := Or.inr (ab_xin (List.mem_of_getElem? (i := 64) (by decide +kernel)) (by decide +kernel))
theorem fl_X2_53 : ab_FL RX2 53 (TX1 0) := Or.inr (ab_xin (List.mem_of_getElem? (i := 65) (by decide +kernel)) (by decide +kernel))
theorem fl_X0_53 : ab_FL RX0 53 (TX1 0) := Or.inr (ab_xin (List.mem_of_getElem? (i := 66) (by decide +kernel)) (by decide +kernel))
theorem fl_X6_63 : ab_FL RX6 63 (TX1 1) := Or.inr (ab_xin (List.mem_of_getElem? (i := 68) (by decide +kernel)) (by decide +kernel))
theorem fl_X4_132 : ab_FL RX4 132 (TX1 1) := Or.inr (ab_xin (List.mem_of_getElem? (i := 69) (by decide +kernel)) (by decide +kernel))
theorem fl_X6_56 : ab_FL RX6 56 (TX1 2) := Or.inr (ab_xin (List.mem_of_getElem? (i := 71) (by decide +kernel)) (by decide +kernel))
theorem fl_X6_77 : ab_FL RX6 77 (TX1 3) := Or.inr (ab_xin (List.mem_of_getElem? (i := 73) (by decide +kernel)) (by decide +kernel))
theorem fl_X6_80 : ab_FL RX6 80 (TX1 4) := Or.inr (ab_xin (List.mem_of_getElem? (i := 75) (by decide +kernel)) (by decide +kernel))
theorem fl_X2_30 : ab_FL RX2 30 (TX5 0) := Or.inr (ab_xin (List.mem_of_getElem? (i := 88) (by decide +kernel)) (by decide +kernel))
theorem fl_X6_46 : ab_FL RX6 46 (TX5 0) := Or.inr (ab_xin (List.mem_of_getElem? (i := 89) (by decide +kernel)) (by decide +kernel))
theorem fl_X4_50 : ab_FL RX4 50 (TX5 0) := Or.inr (ab_xin (List.mem_of_getElem? (i := 90) (by decide +kernel)) (by decide +kernel))
theorem fl_X2_24 : ab_FL RX2 24 (TX5 1) := Or.inr (ab_xin (List.mem_of_getElem? (i := 92) (by decide +kernel)) (by decide +kernel))
theorem fl_X4_36 : ab_FL RX4 36 (TX5 1) := Or.inr (ab_xin (List.mem_of_getElem? (i := 93) (by decide +kernel)) (by decide +kernel))
theorem fl_X6_83 : ab_FL RX6 83 (TX5 1) := Or.inr (ab_xin (List.mem_of_getElem? (i := 94) (by decide +kernel)) (by decide +kernel))
theorem fl_X2_50 : ab_FL RX2 50 (TX5 2) := Or.inr (ab_xin (List.mem_of_getElem? (i := 96) (by decide +kernel)) (by decide +kernel))
theorem fl_X6_111 : ab_FL RX6 111 (TX5 2) := Or.inr (ab_xin (List.mem_of_getElem? (i := 97) (by decide +kernel)) (by decide +kernel))
theorem fl_X4_91 : ab_FL RX4 91 (TX5 3) := Or.inr (ab_xin (List.mem_of_getElem? (i := 99) (by decide +kernel)) (by decide +kernel))
theorem fl_X6_114 : ab_FL RX6 114 (TX5 3) := Or.inr (ab_xin (List.mem_of_getElem? (i := 100) (by decide +kernel)) (by decide +kernel))
theorem fl_X4_129 : ab_FL RX4 129 (TX0 0) := Or.inr (ab_xin (List.mem_of_getElem? (i := 125) (by decide +kernel)) (by decide +kernel))
theorem fl_X6_125 : ab_FL RX6 125 (TX0 0) := Or.inr (ab_xin (List.mem_of_getElem? (i := 126) (by decide +kernel)) (by decide +kernel))
theorem fl_X4_138 : ab_FL RX4 138 (TX0 1) := Or.inr (ab_xin (List.mem_of_getElem? (i := 128) (by decide +kernel)) (by decide +kernel))
theorem fl_X6_130 : ab_FL RX6 130 (TX0 1) := Or.inr (ab_xin (List.mem_of_getElem? (i := 129) (by decide +kernel)) (by decide +kernel))
theorem fl_X4_120 : ab_FL RX4 120 (TX0 2) := Or.inr (ab_xin (List.mem_of_getElem? (i := 131) (by decide +kernel)) (by decide +kernel))
theorem fl_X6_133 : ab_FL RX6 133 (TX0 2) := Or.inr (ab_xin (List.mem_of_getElem? (i := 132) (by decide +kernel)) (by decide +kernel))
theorem fl_X4_117 : ab_FL RX4 117 (TX0 3) := Or.inr (ab_xin (List.mem_of_getElem? (i := 134) (by decide +kernel)) (by decide +kernel))
theorem fl_X6_136 : ab_FL RX6 136 (TX0 3) := Or.inr (ab_xin (List.mem_of_getElem? (i := 135) (by decide +kernel)) (by decide +kernel))
theorem fl_X4_126 : ab_FL RX4 126 (TX0 4) := Or.inr (ab_xin (List.mem_of_getElem? (i := 137) (by decide +kernel)) (by decide +kernel))
theorem fl_X6_139 : ab_FL RX6 139 (TX0 4) := Or.inr (ab_xin (List.mem_of_getElem? (i := 138) (by decide +kernel)) (by decide +kernel))
theorem fl_X6_149 : ab_FL RX6 149 (TX0 5) := Or.inr (ab_xin (List.mem_of_getElem? (i := 140) (by decide +kernel)) (by decide +kernel))
theorem fl_X4_135 : ab_FL RX4 135 (TX0 6) := Or.inr (ab_xin (List.mem_of_getElem? (i := 142) (by decide +kernel)) (by decide +kernel))
theorem fl_X6_152 : ab_FL RX6 152 (TX0 6) := Or.inr (ab_xin (List.mem_of_getElem? (i := 143) (by decide +kernel)) (by decide +kernel))
theorem fl_X6_146 : ab_FL RX6 146 (TX0 8) := Or.inr (ab_xin (List.mem_of_getElem? (i := 146) (by decide +kernel)) (by decide +kernel))
theorem fl_X6_155 : ab_FL RX6 155 (TX0 9) := Or.inr (ab_xin (List.mem_of_getElem? (i := 148) (by decide +kernel)) (by decide +kernel))
theorem fl_X6_121 : ab_FL RX6 121 (TX4 0) := Or.inr (ab_xin (List.mem_of_getElem? (i := 172) (by decide +kernel)) (by decide +kernel))
theorem fl_X6_162 : ab_FL RX6 162 (TX4 2) := Or.inr (ab_xin (List.mem_of_getElem? (i := 175) (by decide +kernel)) (by decide +kernel))
theorem fl_X6_166 : ab_FL RX6 166 (TX4 3) := Or.inr (ab_xin (List.mem_of_getElem? (i := 177) (by decide +kernel)) (by decide +kernel))
theorem fl_X6_165 : ab_FL RX6 165 (TX4 4) := Or.inr (ab_xin (List.mem_of_getElem? (i := 179) (by decide +kernel)) (by decide +kernel))
theorem fl_X6_210 : ab_FL RX6 210 (TX4 5) := Or.inr (ab_xin (List.mem_of_getElem? (i := 181) (by decide +kernel)) (by decide +kernel))
theorem fl_X6_179 : ab_FL RX6 179 (TX2 4) := Or.inr (ab_xin (List.mem_of_getElem? (i := 215) (by decide +kernel)) (by decide +kernel))
theorem mk_L_9 : Cond.methodLink RL 9 yX6_init ∈ ab_tb := ab_in (List.mem_append_right _ (List.mem_of_getElem? (i := 13) (by decide +kernel))) (by decide +kernel)
theorem ml_L_9 : ab_ML RL 9 yX6_init := Or.inl (ab_in (List.mem_append_right _ (List.mem_of_getElem? (i := 13) (by decide +kernel))) (by decide +kernel))
theorem mk_X6_1 : Cond.methodLink RX6 1 objectInit ∈ ab_tb := ab_in (List.mem_append_right _ (List.mem_of_getElem? (i := 16) (by decide +kernel))) (by decide +kernel)
theorem mk_X5_3 : Cond.methodLink RX5 3 objectInit ∈ ab_tb := ab_in (List.mem_append_right _ (List.mem_of_getElem? (i := 24) (by decide +kernel))) (by decide +kernel)
theorem mk_X3_3 : Cond.methodLink RX3 3 objectInit ∈ ab_tb := ab_in (List.mem_append_right _ (List.mem_of_getElem? (i := 32) (by decide +kernel))) (by decide +kernel)
theorem mk_X1_3 : Cond.methodLink RX1 3 objectInit ∈ ab_tb := ab_in (List.mem_append_right _ (List.mem_of_getElem? (i := 62) (by decide +kernel))) (by decide +kernel)
theorem mk_X4_3 : Cond.methodLink RX4 3 objectInit ∈ ab_tb := ab_in (List.mem_append_right _ (List.mem_of_getElem? (i := 116) (by decide +kernel))) (by decide +kernel)
theorem mk_X0_3 : Cond.methodLink RX0 3 objectInit ∈ ab_tb := ab_in (List.mem_append_right _ (List.mem_of_getElem? (i := 123) (by decide +kernel))) (by decide +kernel)
theorem mk_X2_3 : Cond.methodLink RX2 3 objectInit ∈ ab_tb := ab_in (List.mem_append_right _ (List.mem_of_getElem? (i := 209) (by decide +kernel))) (by decide +kernel)
theorem mk_L_13 : Cond.methodLink RL 13 yX6_power ∈ ab_tb := ab_in (List.mem_append_right _ (List.mem_of_getElem? (i := 243) (by decide +kernel))) (by decide +kernel)
theorem ml_L_13 : ab_ML RL 13 yX6_power := Or.inl (ab_in (List.mem_append_right _ (List.mem_of_getElem? (i := 243) (by decide +kernel))) (by decide +kernel))
theorem ml_X6_38 : ab_ML RX6 38 yX6_isDisk := Or.inl (ab_in (List.mem_append_right _ (List.mem_of_getElem? (i := 247) (by decide +kernel))) (by decide +kernel))
theorem ml_X6_42 : ab_ML RX6 42 yX6_within := Or.inl (ab_in (List.mem_append_right _ (List.mem_of_getElem? (i := 250) (by decide +kernel))) (by decide +kernel))
theorem mk_L_18 : Cond.methodLink RL 18 yX6_deeper ∈ ab_tb := ab_in (List.mem_append_right _ (List.mem_of_getElem? (i := 257) (by decide +kernel))) (by decide +kernel)
theorem ml_L_18 : ab_ML RL 18 yX6_deeper := Or.inl (ab_in (List.mem_append_right _ (List.mem_of_getElem? (i := 257) (by decide +kernel))) (by decide +kernel))
theorem mk_L_23 : Cond.methodLink RL 23 yX6_level ∈ ab_tb := ab_in (List.mem_append_right _ (List.mem_of_getElem? (i := 265) (by decide +kernel))) (by decide +kernel)
theorem ml_L_23 : ab_ML RL 23 yX6_level := Or.inl (ab_in (List.mem_append_right _ (List.mem_of_getElem? (i := 265) (by decide +kernel))) (by decide +kernel))
theorem mk_L_27 : Cond.methodLink RL 27 yX6_policy ∈ ab_tb := ab_in (List.mem_append_right _ (List.mem_of_getElem? (i := 274) (by decide +kernel))) (by decide +kernel)
theorem ml_L_27 : ab_ML RL 27 yX6_policy := Or.inl (ab_in (List.mem_append_right _ (List.mem_of_getElem? (i := 274) (by decide +kernel))) (by decide +kernel))
theorem ml_X6_73 : ab_ML RX6 73 yX6_isPolicy := Or.inl (ab_in (List.mem_append_right _ (List.mem_of_getElem? (i := 278) (by decide +kernel))) (by decide +kernel))
theorem mk_L_31 : Cond.methodLink RL 31 yX6_request ∈ ab_tb := ab_in (List.mem_append_right _ (List.mem_of_getElem? (i := 281) (by decide +kernel))) (by decide +kernel)
theorem ml_L_31 : ab_ML RL 31 yX6_request := Or.inl (ab_in (List.mem_append_right _ (List.mem_of_getElem? (i := 281) (by decide +kernel))) (by decide +kernel))
theorem mk_L_35 : Cond.methodLink RL 35 yX6_forget ∈ ab_tb := ab_in (List.mem_append_right _ (List.mem_of_getElem? (i := 289) (by decide +kernel))) (by decide +kernel)
theorem ml_L_35 : ab_ML RL 35 yX6_forget := Or.inl (ab_in (List.mem_append_right _ (List.mem_of_getElem? (i := 289) (by decide +kernel))) (by decide +kernel))
theorem mk_L_40 : Cond.methodLink RL 40 yX6_told ∈ ab_tb := ab_in (List.mem_append_right _ (List.mem_of_getElem? (i := 302) (by decide +kernel))) (by decide +kernel)
theorem ml_L_40 : ab_ML RL 40 yX6_told := Or.inl (ab_in (List.mem_append_right _ (List.mem_of_getElem? (i := 302) (by decide +kernel))) (by decide +kernel))
theorem mk_L_44 : Cond.methodLink RL 44 yX6_end ∈ ab_tb := ab_in (List.mem_append_right _ (List.mem_of_getElem? (i := 306) (by decide +kernel))) (by decide +kernel)
theorem ml_L_44 : ab_ML RL 44 yX6_end := Or.inl (ab_in (List.mem_append_right _ (List.mem_of_getElem? (i := 306) (by decide +kernel))) (by decide +kernel))
theorem mk_L_48 : Cond.methodLink RL 48 yX6_journal ∈ ab_tb := ab_in (List.mem_append_right _ (List.mem_of_getElem? (i := 310) (by decide +kernel))) (by decide +kernel)
theorem ml_L_48 : ab_ML RL 48 yX6_journal := Or.inl (ab_in (List.mem_append_right _ (List.mem_of_getElem? (i := 310) (by decide +kernel))) (by decide +kernel))
theorem mk_L_52 : Cond.methodLink RL 52 yX6_disk ∈ ab_tb := ab_in (List.mem_append_right _ (List.mem_of_getElem? (i := 314) (by decide +kernel))) (by decide +kernel)
theorem ml_L_52 : ab_ML RL 52 yX6_disk := Or.inl (ab_in (List.mem_append_right _ (List.mem_of_getElem? (i := 314) (by decide +kernel))) (by decide +kernel))
theorem ml_X6_117 : ab_ML RX6 117 yX6_wholeRun := Or.inl (ab_in (List.mem_append_right _ (List.mem_of_getElem? (i := 318) (by decide +kernel))) (by decide +kernel))
theorem ml_X4_42 : ab_ML RX4 42 yX4_begin := Or.inl (ab_in (List.mem_append_right _ (List.mem_of_getElem? (i := 326) (by decide +kernel))) (by decide +kernel))
theorem ml_X4_46 : ab_ML RX4 46 yX4_serveAllOf := Or.inl (ab_in (List.mem_append_right _ (List.mem_of_getElem? (i := 338) (by decide +kernel))) (by decide +kernel))
theorem ml_X4_79 : ab_ML RX4 79 yX4_serve := Or.inl (ab_in (List.mem_append_right _ (List.mem_of_getElem? (i := 342) (by decide +kernel))) (by decide +kernel))
theorem mk_X4_94 : Cond.methodLink RX4 94 Lib.Math.min.name ∈ ab_tb := ab_in (List.mem_append_right _ (List.mem_of_getElem? (i := 350) (by decide +kernel))) (by decide +kernel)
theorem ml_X4_100 : ab_ML RX4 100 yX4_enter := Or.inl (ab_in (List.mem_append_right _ (List.mem_of_getElem? (i := 353) (by decide +kernel))) (by decide +kernel))
theorem mk_X4_123 : Cond.methodLink RX4 123 Lib.Math.max.name ∈ ab_tb := ab_in (List.mem_append_right _ (List.mem_of_getElem? (i := 357) (by decide +kernel))) (by decide +kernel)
theorem ml_X4_104 : ab_ML RX4 104 yX4_wakeUp := Or.inl (ab_in (List.mem_append_right _ (List.mem_of_getElem? (i := 360) (by decide +kernel))) (by decide +kernel))
theorem ml_X4_141 : ab_ML RX4 141 yX4_letEntriesLeave := Or.inl (ab_in (List.mem_append_right _ (List.mem_of_getElem? (i := 364) (by decide +kernel))) (by decide +kernel))
theorem ml_X0_43 : ab_ML RX0 43 yX0_meanOfLast := Or.inl (ab_in (List.mem_append_right _ (List.mem_of_getElem? (i := 376) (by decide +kernel))) (by decide +kernel))
theorem mk_X1_38 : Cond.methodLink RX1 38 Lib.Math.max.name ∈ ab_tb := ab_in (List.mem_append_right _ (List.mem_of_getElem? (i := 388) (by decide +kernel))) (by decide +kernel)
theorem mk_X1_44 : Cond.methodLink RX1 44 Lib.Math.min.name ∈ ab_tb := ab_in (List.mem_append_right _ (List.mem_of_getElem? (i := 389) (by decide +kernel))) (by decide +kernel)
theorem ml_X1_47 : ab_ML RX1 47 yX1_cheapestLevel := Or.inl (ab_in (List.mem_append_right _ (List.mem_of_getElem? (i := 390) (by decide +kernel))) (by decide +kernel))
theorem ml_X1_51 : ab_ML RX1 51 yX1_levelCost := Or.inl (ab_in (List.mem_append_right _ (List.mem_of_getElem? (i := 394) (by decide +kernel))) (by decide +kernel))
theorem mk_L_56 : Cond.methodLink RL 56 yX6_at ∈ ab_tb := ab_in (List.mem_append_right _ (List.mem_of_getElem? (i := 402) (by decide +kernel))) (by decide +kernel)
theorem ml_L_56 : ab_ML RL 56 yX6_at := Or.inl (ab_in (List.mem_append_right _ (List.mem_of_getElem? (i := 402) (by decide +kernel))) (by decide +kernel))
theorem mk_L_60 : Cond.methodLink RL 60 yX6_fate ∈ ab_tb := ab_in (List.mem_append_right _ (List.mem_of_getElem? (i := 406) (by decide +kernel))) (by decide +kernel)
theorem ml_L_60 : ab_ML RL 60 yX6_fate := Or.inl (ab_in (List.mem_append_right _ (List.mem_of_getElem? (i := 406) (by decide +kernel))) (by decide +kernel))
theorem mk_L_64 : Cond.methodLink RL 64 yX6_waiting ∈ ab_tb := ab_in (List.mem_append_right _ (List.mem_of_getElem? (i := 410) (by decide +kernel))) (by decide +kernel)
theorem ml_L_64 : ab_ML RL 64 yX6_waiting := Or.inl (ab_in (List.mem_append_right _ (List.mem_of_getElem? (i := 410) (by decide +kernel))) (by decide +kernel))
theorem mk_L_68 : Cond.methodLink RL 68 yX6_least ∈ ab_tb := ab_in (List.mem_append_right _ (List.mem_of_getElem? (i := 414) (by decide +kernel))) (by decide +kernel)
theorem ml_L_68 : ab_ML RL 68 yX6_least := Or.inl (ab_in (List.mem_append_right _ (List.mem_of_getElem? (i := 414) (by decide +kernel))) (by decide +kernel))
theorem ml_X2_62 : ab_ML RX2 62 yX2_add := Or.inl (ab_in (List.mem_append_right _ (List.mem_of_getElem? (i := 427) (by decide +kernel))) (by decide +kernel))
theorem ml_X2_69 : ab_ML RX2 69 yX2_sumOf := Or.inl (ab_in (List.mem_append_right _ (List.mem_of_getElem? (i := 439) (by decide +kernel))) (by decide +kernel))
theorem mk_L_72 : Cond.methodLink RL 72 yX6_limited ∈ ab_tb := ab_in (List.mem_append_right _ (List.mem_of_getElem? (i := 451) (by decide +kernel))) (by decide +kernel)
theorem ml_L_72 : ab_ML RL 72 yX6_limited := Or.inl (ab_in (List.mem_append_right _ (List.mem_of_getElem? (i := 451) (by decide +kernel))) (by decide +kernel))
theorem mk_X2_73 : Cond.methodLink RX2 73 Lib.Math.max.name ∈ ab_tb := ab_in (List.mem_append_right _ (List.mem_of_getElem? (i := 459) (by decide +kernel))) (by decide +kernel)
theorem ml_X2_79 : ab_ML RX2 79 yX2_betterOfSameDay := Or.inl (ab_in (List.mem_append_right _ (List.mem_of_getElem? (i := 460) (by decide +kernel))) (by decide +kernel))
theorem mk_L_76 : Cond.methodLink RL 76 yX6_costs ∈ ab_tb := ab_in (List.mem_append_right _ (List.mem_of_getElem? (i := 464) (by decide +kernel))) (by decide +kernel)
theorem ml_L_76 : ab_ML RL 76 yX6_costs := Or.inl (ab_in (List.mem_append_right _ (List.mem_of_getElem? (i := 464) (by decide +kernel))) (by decide +kernel))
theorem ml_X1_54 : ab_ML RX1 54 yX1_levelFor := Or.inl (ab_in (List.mem_append_right _ (List.mem_of_getElem? (i := 472) (by decide +kernel))) (by decide +kernel))
theorem mk_L_80 : Cond.methodLink RL 80 yX6_worst ∈ ab_tb := ab_in (List.mem_append_right _ (List.mem_of_getElem? (i := 473) (by decide +kernel))) (by decide +kernel)
theorem ml_L_80 : ab_ML RL 80 yX6_worst := Or.inl (ab_in (List.mem_append_right _ (List.mem_of_getElem? (i := 473) (by decide +kernel))) (by decide +kernel))
theorem ml_X1_57 : ab_ML RX1 57 yX1_leastCost := Or.inl (ab_in (List.mem_append_right _ (List.mem_of_getElem? (i := 481) (by decide +kernel))) (by decide +kernel))
theorem ml_X6_197 : ab_ML RX6 197 yX6_partOfFraction := Or.inl (ab_in (List.mem_append_right _ (List.mem_of_getElem? (i := 483) (by decide +kernel))) (by decide +kernel))
theorem ml_X6_217 : ab_ML RX6 217 yX6_commonDivisor := Or.inl (ab_in (List.mem_append_right _ (List.mem_of_getElem? (i := 486) (by decide +kernel))) (by decide +kernel))
theorem mk_X6_220 : Cond.methodLink RX6 220 Lib.Math.max.name ∈ ab_tb := ab_in (List.mem_append_right _ (List.mem_of_getElem? (i := 489) (by decide +kernel))) (by decide +kernel)
theorem mk_L_84 : Cond.methodLink RL 84 yX6_drawn ∈ ab_tb := ab_in (List.mem_append_right _ (List.mem_of_getElem? (i := 490) (by decide +kernel))) (by decide +kernel)
theorem ml_L_84 : ab_ML RL 84 yX6_drawn := Or.inl (ab_in (List.mem_append_right _ (List.mem_of_getElem? (i := 490) (by decide +kernel))) (by decide +kernel))
theorem mk_L_89 : Cond.methodLink RL 89 yX6_count ∈ ab_tb := ab_in (List.mem_append_right _ (List.mem_of_getElem? (i := 502) (by decide +kernel))) (by decide +kernel)
theorem ml_L_89 : ab_ML RL 89 yX6_count := Or.inl (ab_in (List.mem_append_right _ (List.mem_of_getElem? (i := 502) (by decide +kernel))) (by decide +kernel))
theorem mk_L_93 : Cond.methodLink RL 93 yX6_image ∈ ab_tb := ab_in (List.mem_append_right _ (List.mem_of_getElem? (i := 510) (by decide +kernel))) (by decide +kernel)
theorem ml_L_93 : ab_ML RL 93 yX6_image := Or.inl (ab_in (List.mem_append_right _ (List.mem_of_getElem? (i := 510) (by decide +kernel))) (by decide +kernel))
theorem mk_X1_18 : Cond.methodLink RX1 18 arraycopyName ∈ ab_tb := ab_in (List.mem_append_right _ (List.mem_of_getElem? (i := 522) (by decide +kernel))) (by decide +kernel)
theorem mk_X3_21 : Cond.methodLink RX3 21 arraycopyName ∈ ab_tb := ab_in (List.mem_append_right _ (List.mem_of_getElem? (i := 529) (by decide +kernel))) (by decide +kernel)
theorem mk_L_97 : Cond.methodLink RL 97 yX6_restore ∈ ab_tb := ab_in (List.mem_append_right _ (List.mem_of_getElem? (i := 530) (by decide +kernel))) (by decide +kernel)
theorem ml_L_97 : ab_ML RL 97 yX6_restore := Or.inl (ab_in (List.mem_append_right _ (List.mem_of_getElem? (i := 530) (by decide +kernel))) (by decide +kernel))
theorem mk_L_12 : Cond.methodLink RL 12 yX7_init ∈ ab_tb := ab_in (List.mem_append_right _ (List.mem_of_getElem? (i := 536) (by decide +kernel))) (by decide +kernel)
theorem ml_L_12 : ab_ML RL 12 yX7_init := Or.inl (ab_in (List.mem_append_right _ (List.mem_of_getElem? (i := 536) (by decide +kernel))) (by decide +kernel))
theorem mk_X7_1 : Cond.methodLink RX7 1 objectInit ∈ ab_tb := ab_in (List.mem_append_right _ (List.mem_of_getElem? (i := 539) (by decide +kernel))) (by decide +kernel)
theorem mk_L_17 : Cond.methodLink RL 17 yX7_power ∈ ab_tb := ab_in (List.mem_append_right _ (List.mem_of_getElem? (i := 634) (by decide +kernel))) (by decide +kernel)
theorem ml_L_17 : ab_ML RL 17 yX7_power := Or.inl (ab_in (List.mem_append_right _ (List.mem_of_getElem? (i := 634) (by decide +kernel))) (by decide +kernel))
theorem ml_X7_97 : ab_ML RX7 97 yX7_isDisk := Or.inl (ab_in (List.mem_append_right _ (List.mem_of_getElem? (i := 638) (by decide +kernel))) (by decide +kernel))
theorem ml_X7_90 : ab_ML RX7 90 yX7_in := Or.inl (ab_in (List.mem_append_right _ (List.mem_of_getElem? (i := 641) (by decide +kernel))) (by decide +kernel))
theorem mk_L_22 : Cond.methodLink RL 22 yX7_deeper ∈ ab_tb := ab_in (List.mem_append_right _ (List.mem_of_getElem? (i := 644) (by decide +kernel))) (by decide +kernel)
theorem ml_L_22 : ab_ML RL 22 yX7_deeper := Or.inl (ab_in (List.mem_append_right _ (List.mem_of_getElem? (i := 644) (by decide +kernel))) (by decide +kernel))
theorem ml_X7_101 : ab_ML RX7 101 yX7_wakeOf := Or.inl (ab_in (List.mem_append_right _ (List.mem_of_getElem? (i := 648) (by decide +kernel))) (by decide +kernel))
theorem mk_L_26 : Cond.methodLink RL 26 yX7_level ∈ ab_tb := ab_in (List.mem_append_right _ (List.mem_of_getElem? (i := 652) (by decide +kernel))) (by decide +kernel)
theorem ml_L_26 : ab_ML RL 26 yX7_level := Or.inl (ab_in (List.mem_append_right _ (List.mem_of_getElem? (i := 652) (by decide +kernel))) (by decide +kernel))
theorem mk_L_30 : Cond.methodLink RL 30 yX7_policy ∈ ab_tb := ab_in (List.mem_append_right _ (List.mem_of_getElem? (i := 656) (by decide +kernel))) (by decide +kernel)
theorem ml_L_30 : ab_ML RL 30 yX7_policy := Or.inl (ab_in (List.mem_append_right _ (List.mem_of_getElem? (i := 656) (by decide +kernel))) (by decide +kernel))
theorem mk_L_34 : Cond.methodLink RL 34 yX7_request ∈ ab_tb := ab_in (List.mem_append_right _ (List.mem_of_getElem? (i := 660) (by decide +kernel))) (by decide +kernel)
theorem ml_L_34 : ab_ML RL 34 yX7_request := Or.inl (ab_in (List.mem_append_right _ (List.mem_of_getElem? (i := 660) (by decide +kernel))) (by decide +kernel))
theorem mk_L_39 : Cond.methodLink RL 39 yX7_forget ∈ ab_tb := ab_in (List.mem_append_right _ (List.mem_of_getElem? (i := 664) (by decide +kernel))) (by decide +kernel)
theorem ml_L_39 : ab_ML RL 39 yX7_forget := Or.inl (ab_in (List.mem_append_right _ (List.mem_of_getElem? (i := 664) (by decide +kernel))) (by decide +kernel))
theorem ml_X7_105 : ab_ML RX7 105 yX7_isRequest := Or.inl (ab_in (List.mem_append_right _ (List.mem_of_getElem? (i := 668) (by decide +kernel))) (by decide +kernel))
theorem mk_L_43 : Cond.methodLink RL 43 yX7_told ∈ ab_tb := ab_in (List.mem_append_right _ (List.mem_of_getElem? (i := 672) (by decide +kernel))) (by decide +kernel)
theorem ml_L_43 : ab_ML RL 43 yX7_told := Or.inl (ab_in (List.mem_append_right _ (List.mem_of_getElem? (i := 672) (by decide +kernel))) (by decide +kernel))
theorem mk_L_47 : Cond.methodLink RL 47 yX7_end ∈ ab_tb := ab_in (List.mem_append_right _ (List.mem_of_getElem? (i := 676) (by decide +kernel))) (by decide +kernel)
theorem ml_L_47 : ab_ML RL 47 yX7_end := Or.inl (ab_in (List.mem_append_right _ (List.mem_of_getElem? (i := 676) (by decide +kernel))) (by decide +kernel))
theorem mk_L_51 : Cond.methodLink RL 51 yX7_journal ∈ ab_tb := ab_in (List.mem_append_right _ (List.mem_of_getElem? (i := 680) (by decide +kernel))) (by decide +kernel)
theorem ml_L_51 : ab_ML RL 51 yX7_journal := Or.inl (ab_in (List.mem_append_right _ (List.mem_of_getElem? (i := 680) (by decide +kernel))) (by decide +kernel))
theorem mk_L_55 : Cond.methodLink RL 55 yX7_disk ∈ ab_tb := ab_in (List.mem_append_right _ (List.mem_of_getElem? (i := 684) (by decide +kernel))) (by decide +kernel)
theorem ml_L_55 : ab_ML RL 55 yX7_disk := Or.inl (ab_in (List.mem_append_right _ (List.mem_of_getElem? (i := 684) (by decide +kernel))) (by decide +kernel))
theorem ml_X7_143 : ab_ML RX7 143 yX7_run := Or.inl (ab_in (List.mem_append_right _ (List.mem_of_getElem? (i := 688) (by decide +kernel))) (by decide +kernel))
theorem ml_X7_137 : ab_ML RX7 137 yX7_meet := Or.inl (ab_in (List.mem_append_right _ (List.mem_of_getElem? (i := 692) (by decide +kernel))) (by decide +kernel))
theorem ml_X7_124 : ab_ML RX7 124 yX7_sleeps := Or.inl (ab_in (List.mem_append_right _ (List.mem_of_getElem? (i := 696) (by decide +kernel))) (by decide +kernel))
theorem ml_X7_130 : ab_ML RX7 130 yX7_wake := Or.inl (ab_in (List.mem_append_right _ (List.mem_of_getElem? (i := 700) (by decide +kernel))) (by decide +kernel))
theorem ml_X7_134 : ab_ML RX7 134 yX7_keepBusy := Or.inl (ab_in (List.mem_append_right _ (List.mem_of_getElem? (i := 704) (by decide +kernel))) (by decide +kernel))
theorem ml_X7_140 : ab_ML RX7 140 yX7_levelFor := Or.inl (ab_in (List.mem_append_right _ (List.mem_of_getElem? (i := 708) (by decide +kernel))) (by decide +kernel))
theorem ml_X7_115 : ab_ML RX7 115 yX7_bestFor := Or.inl (ab_in (List.mem_append_right _ (List.mem_of_getElem? (i := 712) (by decide +kernel))) (by decide +kernel))
theorem ml_X7_111 : ab_ML RX7 111 yX7_costWith := Or.inl (ab_in (List.mem_append_right _ (List.mem_of_getElem? (i := 716) (by decide +kernel))) (by decide +kernel))
theorem ml_X7_118 : ab_ML RX7 118 yX7_guessOf := Or.inl (ab_in (List.mem_append_right _ (List.mem_of_getElem? (i := 720) (by decide +kernel))) (by decide +kernel))
theorem ml_X7_146 : ab_ML RX7 146 yX7_stayOf := Or.inl (ab_in (List.mem_append_right _ (List.mem_of_getElem? (i := 724) (by decide +kernel))) (by decide +kernel))
theorem mk_L_59 : Cond.methodLink RL 59 yX7_at ∈ ab_tb := ab_in (List.mem_append_right _ (List.mem_of_getElem? (i := 728) (by decide +kernel))) (by decide +kernel)
theorem ml_L_59 : ab_ML RL 59 yX7_at := Or.inl (ab_in (List.mem_append_right _ (List.mem_of_getElem? (i := 728) (by decide +kernel))) (by decide +kernel))
theorem mk_L_63 : Cond.methodLink RL 63 yX7_fate ∈ ab_tb := ab_in (List.mem_append_right _ (List.mem_of_getElem? (i := 732) (by decide +kernel))) (by decide +kernel)
theorem ml_L_63 : ab_ML RL 63 yX7_fate := Or.inl (ab_in (List.mem_append_right _ (List.mem_of_getElem? (i := 732) (by decide +kernel))) (by decide +kernel))
theorem mk_L_67 : Cond.methodLink RL 67 yX7_waiting ∈ ab_tb := ab_in (List.mem_append_right _ (List.mem_of_getElem? (i := 736) (by decide +kernel))) (by decide +kernel)
theorem ml_L_67 : ab_ML RL 67 yX7_waiting := Or.inl (ab_in (List.mem_append_right _ (List.mem_of_getElem? (i := 736) (by decide +kernel))) (by decide +kernel))
theorem mk_L_71 : Cond.methodLink RL 71 yX7_least ∈ ab_tb := ab_in (List.mem_append_right _ (List.mem_of_getElem? (i := 740) (by decide +kernel))) (by decide +kernel)
theorem ml_L_71 : ab_ML RL 71 yX7_least := Or.inl (ab_in (List.mem_append_right _ (List.mem_of_getElem? (i := 740) (by decide +kernel))) (by decide +kernel))
theorem ml_X7_156 : ab_ML RX7 156 yX7_layGaps := Or.inl (ab_in (List.mem_append_right _ (List.mem_of_getElem? (i := 744) (by decide +kernel))) (by decide +kernel))
theorem ml_X7_153 : ab_ML RX7 153 yX7_nextAsked := Or.inl (ab_in (List.mem_append_right _ (List.mem_of_getElem? (i := 748) (by decide +kernel))) (by decide +kernel))
theorem ml_X7_159 : ab_ML RX7 159 yX7_leastToEnd := Or.inl (ab_in (List.mem_append_right _ (List.mem_of_getElem? (i := 752) (by decide +kernel))) (by decide +kernel))
theorem ml_X7_162 : ab_ML RX7 162 yX7_leastOf := Or.inl (ab_in (List.mem_append_right _ (List.mem_of_getElem? (i := 756) (by decide +kernel))) (by decide +kernel))
theorem mk_L_75 : Cond.methodLink RL 75 yX7_limited ∈ ab_tb := ab_in (List.mem_append_right _ (List.mem_of_getElem? (i := 760) (by decide +kernel))) (by decide +kernel)
theorem ml_L_75 : ab_ML RL 75 yX7_limited := Or.inl (ab_in (List.mem_append_right _ (List.mem_of_getElem? (i := 760) (by decide +kernel))) (by decide +kernel))
theorem ml_X7_165 : ab_ML RX7 165 yX7_dearest := Or.inl (ab_in (List.mem_append_right _ (List.mem_of_getElem? (i := 764) (by decide +kernel))) (by decide +kernel))
theorem mk_L_79 : Cond.methodLink RL 79 yX7_costs ∈ ab_tb := ab_in (List.mem_append_right _ (List.mem_of_getElem? (i := 768) (by decide +kernel))) (by decide +kernel)
theorem ml_L_79 : ab_ML RL 79 yX7_costs := Or.inl (ab_in (List.mem_append_right _ (List.mem_of_getElem? (i := 768) (by decide +kernel))) (by decide +kernel))
theorem ml_X7_168 : ab_ML RX7 168 yX7_costOf := Or.inl (ab_in (List.mem_append_right _ (List.mem_of_getElem? (i := 772) (by decide +kernel))) (by decide +kernel))
theorem mk_L_83 : Cond.methodLink RL 83 yX7_worst ∈ ab_tb := ab_in (List.mem_append_right _ (List.mem_of_getElem? (i := 776) (by decide +kernel))) (by decide +kernel)
theorem ml_L_83 : ab_ML RL 83 yX7_worst := Or.inl (ab_in (List.mem_append_right _ (List.mem_of_getElem? (i := 776) (by decide +kernel))) (by decide +kernel))
theorem ml_X7_174 : ab_ML RX7 174 yX7_part := Or.inl (ab_in (List.mem_append_right _ (List.mem_of_getElem? (i := 780) (by decide +kernel))) (by decide +kernel))
theorem ml_X7_171 : ab_ML RX7 171 yX7_common := Or.inl (ab_in (List.mem_append_right _ (List.mem_of_getElem? (i := 783) (by decide +kernel))) (by decide +kernel))
theorem mk_L_88 : Cond.methodLink RL 88 yX7_drawn ∈ ab_tb := ab_in (List.mem_append_right _ (List.mem_of_getElem? (i := 786) (by decide +kernel))) (by decide +kernel)
theorem ml_L_88 : ab_ML RL 88 yX7_drawn := Or.inl (ab_in (List.mem_append_right _ (List.mem_of_getElem? (i := 786) (by decide +kernel))) (by decide +kernel))
theorem mk_L_92 : Cond.methodLink RL 92 yX7_count ∈ ab_tb := ab_in (List.mem_append_right _ (List.mem_of_getElem? (i := 790) (by decide +kernel))) (by decide +kernel)
theorem ml_L_92 : ab_ML RL 92 yX7_count := Or.inl (ab_in (List.mem_append_right _ (List.mem_of_getElem? (i := 790) (by decide +kernel))) (by decide +kernel))
theorem mk_L_96 : Cond.methodLink RL 96 yX7_image ∈ ab_tb := ab_in (List.mem_append_right _ (List.mem_of_getElem? (i := 794) (by decide +kernel))) (by decide +kernel)
theorem ml_L_96 : ab_ML RL 96 yX7_image := Or.inl (ab_in (List.mem_append_right _ (List.mem_of_getElem? (i := 794) (by decide +kernel))) (by decide +kernel))
theorem mk_L_100 : Cond.methodLink RL 100 yX7_restore ∈ ab_tb := ab_in (List.mem_append_right _ (List.mem_of_getElem? (i := 798) (by decide +kernel))) (by decide +kernel)
theorem ml_L_100 : ab_ML RL 100 yX7_restore := Or.inl (ab_in (List.mem_append_right _ (List.mem_of_getElem? (i := 798) (by decide +kernel))) (by decide +kernel))
theorem ml_X6_9 : ab_ML RX6 9 yX5_init := Or.inr (ab_xin (List.mem_of_getElem? (i := 21) (by decide +kernel)) (by decide +kernel))
theorem ml_X5_19 : ab_ML RX5 19 yX3_init := Or.inr (ab_xin (List.mem_of_getElem? (i := 29) (by decide +kernel)) (by decide +kernel))
theorem ml_X5_28 : ab_ML RX5 28 yX1_init := Or.inr (ab_xin (List.mem_of_getElem? (i := 59) (by decide +kernel)) (by decide +kernel))
theorem ml_X6_26 : ab_ML RX6 26 yX4_init := Or.inr (ab_xin (List.mem_of_getElem? (i := 113) (by decide +kernel)) (by decide +kernel))
theorem ml_X4_31 : ab_ML RX4 31 yX0_init := Or.inr (ab_xin (List.mem_of_getElem? (i := 120) (by decide +kernel)) (by decide +kernel))
theorem ml_X6_33 : ab_ML RX6 33 yX2_init := Or.inr (ab_xin (List.mem_of_getElem? (i := 206) (by decide +kernel)) (by decide +kernel))
theorem ml_X6_60 : ab_ML RX6 60 yX4_makeStale := Or.inr (ab_xin (List.mem_of_getElem? (i := 253) (by decide +kernel)) (by decide +kernel))
theorem ml_X6_66 : ab_ML RX6 66 yX1_addLevel := Or.inr (ab_xin (List.mem_of_getElem? (i := 261) (by decide +kernel)) (by decide +kernel))
theorem ml_X6_70 : ab_ML RX6 70 yX1_hasLevel := Or.inr (ab_xin (List.mem_of_getElem? (i := 269) (by decide +kernel)) (by decide +kernel))
theorem ml_X1_34 : ab_ML RX1 34 yX6_within := Or.inr (ab_xin (List.mem_of_getElem? (i := 273) (by decide +kernel)) (by decide +kernel))
theorem ml_X6_92 : ab_ML RX6 92 yX3_add := Or.inr (ab_xin (List.mem_of_getElem? (i := 285) (by decide +kernel)) (by decide +kernel))
theorem ml_X6_96 : ab_ML RX6 96 yX3_has := Or.inr (ab_xin (List.mem_of_getElem? (i := 293) (by decide +kernel)) (by decide +kernel))
theorem ml_X3_31 : ab_ML RX3 31 yX6_within := Or.inr (ab_xin (List.mem_of_getElem? (i := 297) (by decide +kernel)) (by decide +kernel))
theorem ml_X6_99 : ab_ML RX6 99 yX3_drop := Or.inr (ab_xin (List.mem_of_getElem? (i := 298) (by decide +kernel)) (by decide +kernel))
theorem ml_X6_158 : ab_ML RX6 158 yX4_goOnTo := Or.inr (ab_xin (List.mem_of_getElem? (i := 322) (by decide +kernel)) (by decide +kernel))
theorem ml_X4_58 : ab_ML RX4 58 yX0_begin := Or.inr (ab_xin (List.mem_of_getElem? (i := 330) (by decide +kernel)) (by decide +kernel))
theorem ml_X4_60 : ab_ML RX4 60 yX3_putInOrder := Or.inr (ab_xin (List.mem_of_getElem? (i := 334) (by decide +kernel)) (by decide +kernel))
theorem ml_X4_87 : ab_ML RX4 87 yX0_sleeps := Or.inr (ab_xin (List.mem_of_getElem? (i := 346) (by decide +kernel)) (by decide +kernel))
theorem ml_X4_107 : ab_ML RX4 107 yX1_restsForGuess := Or.inr (ab_xin (List.mem_of_getElem? (i := 368) (by decide +kernel)) (by decide +kernel))
theorem ml_X4_113 : ab_ML RX4 113 yX0_becomeBusy := Or.inr (ab_xin (List.mem_of_getElem? (i := 372) (by decide +kernel)) (by decide +kernel))
theorem ml_X4_54 : ab_ML RX4 54 yX0_passTick := Or.inr (ab_xin (List.mem_of_getElem? (i := 380) (by decide +kernel)) (by decide +kernel))
theorem ml_X0_47 : ab_ML RX0 47 yX1_levelFor := Or.inr (ab_xin (List.mem_of_getElem? (i := 384) (by decide +kernel)) (by decide +kernel))
theorem ml_X6_142 : ab_ML RX6 142 yX4_entriesOf := Or.inr (ab_xin (List.mem_of_getElem? (i := 398) (by decide +kernel)) (by decide +kernel))
theorem ml_X6_169 : ab_ML RX6 169 yX2_find := Or.inr (ab_xin (List.mem_of_getElem? (i := 418) (by decide +kernel)) (by decide +kernel))
theorem ml_X2_34 : ab_ML RX2 34 yX3_putInOrder := Or.inr (ab_xin (List.mem_of_getElem? (i := 422) (by decide +kernel)) (by decide +kernel))
theorem ml_X2_58 : ab_ML RX2 58 yX1_leastCost := Or.inr (ab_xin (List.mem_of_getElem? (i := 423) (by decide +kernel)) (by decide +kernel))
theorem ml_X2_66 : ab_ML RX2 66 yX1_leastCostToEnd := Or.inr (ab_xin (List.mem_of_getElem? (i := 431) (by decide +kernel)) (by decide +kernel))
theorem ml_X6_172 : ab_ML RX6 172 yX2_costAwake := Or.inr (ab_xin (List.mem_of_getElem? (i := 435) (by decide +kernel)) (by decide +kernel))
theorem ml_X6_176 : ab_ML RX6 176 yX2_savedByAll := Or.inr (ab_xin (List.mem_of_getElem? (i := 443) (by decide +kernel)) (by decide +kernel))
theorem ml_X6_180 : ab_ML RX6 180 yX2_worthSleeping := Or.inr (ab_xin (List.mem_of_getElem? (i := 447) (by decide +kernel)) (by decide +kernel))
theorem ml_X6_183 : ab_ML RX6 183 yX2_savedByFew := Or.inr (ab_xin (List.mem_of_getElem? (i := 455) (by decide +kernel)) (by decide +kernel))
theorem ml_X6_187 : ab_ML RX6 187 yX1_costByPolicy := Or.inr (ab_xin (List.mem_of_getElem? (i := 468) (by decide +kernel)) (by decide +kernel))
theorem ml_X6_191 : ab_ML RX6 191 yX1_worstTicks := Or.inr (ab_xin (List.mem_of_getElem? (i := 477) (by decide +kernel)) (by decide +kernel))
theorem ml_X6_194 : ab_ML RX6 194 yX1_leastCost := Or.inr (ab_xin (List.mem_of_getElem? (i := 482) (by decide +kernel)) (by decide +kernel))
theorem ml_X6_201 : ab_ML RX6 201 yX1_agesDrawn := Or.inr (ab_xin (List.mem_of_getElem? (i := 494) (by decide +kernel)) (by decide +kernel))
theorem ml_X6_204 : ab_ML RX6 204 yX1_costOfAllDrawn := Or.inr (ab_xin (List.mem_of_getElem? (i := 498) (by decide +kernel)) (by decide +kernel))
theorem ml_X6_207 : ab_ML RX6 207 yX4_energyOfAll := Or.inr (ab_xin (List.mem_of_getElem? (i := 506) (by decide +kernel)) (by decide +kernel))
theorem ml_X6_213 : ab_ML RX6 213 yX5_copyFrom := Or.inr (ab_xin (List.mem_of_getElem? (i := 514) (by decide +kernel)) (by decide +kernel))
theorem ml_X5_29 : ab_ML RX5 29 yX1_copyFrom := Or.inr (ab_xin (List.mem_of_getElem? (i := 518) (by decide +kernel)) (by decide +kernel))
theorem ml_X5_33 : ab_ML RX5 33 yX3_copyFrom := Or.inr (ab_xin (List.mem_of_getElem? (i := 525) (by decide +kernel)) (by decide +kernel))
theorem cl_L_7 : Cond.classLink RL 7 RX6 ∈ ab_tb := ab_in (List.mem_append_right _ (List.mem_of_getElem? (i := 11) (by decide +kernel))) (by decide +kernel)
theorem cl_X6_7 : Cond.classLink RX6 7 RX5 ∈ ab_tb := ab_in (List.mem_append_right _ (List.mem_of_getElem? (i := 19) (by decide +kernel))) (by decide +kernel)
theorem cl_X5_9 : Cond.classLink RX5 9 RX1 ∈ ab_tb := ab_in (List.mem_append_right _ (List.mem_of_getElem? (i := 25) (by decide +kernel))) (by decide +kernel)
theorem cl_X5_17 : Cond.classLink RX5 17 RX3 ∈ ab_tb := ab_in (List.mem_append_right _ (List.mem_of_getElem? (i := 27) (by decide +kernel))) (by decide +kernel)
theorem cl_X6_24 : Cond.classLink RX6 24 RX4 ∈ ab_tb := ab_in (List.mem_append_right _ (List.mem_of_getElem? (i := 111) (by decide +kernel))) (by decide +kernel)
theorem cl_X4_9 : Cond.classLink RX4 9 RX0 ∈ ab_tb := ab_in (List.mem_append_right _ (List.mem_of_getElem? (i := 117) (by decide +kernel))) (by decide +kernel)
theorem cl_X6_31 : Cond.classLink RX6 31 RX2 ∈ ab_tb := ab_in (List.mem_append_right _ (List.mem_of_getElem? (i := 204) (by decide +kernel))) (by decide +kernel)
theorem cl_L_10 : Cond.classLink RL 10 RX7 ∈ ab_tb := ab_in (List.mem_append_right _ (List.mem_of_getElem? (i := 534) (by decide +kernel))) (by decide +kernel)
theorem it_X6 : Cond.instantiable RX6 5 ∈ ab_tb := ab_in (List.mem_append_right _ (List.mem_of_getElem? (i := 12) (by decide +kernel))) (by decide +kernel)
theorem it_X5 : Cond.instantiable RX5 4 ∈ ab_tb := ab_in (List.mem_append_right _ (List.mem_of_getElem? (i := 20) (by decide +kernel))) (by decide +kernel)
theorem it_X3 : Cond.instantiable RX3 4 ∈ ab_tb := ab_in (List.mem_append_right _ (List.mem_of_getElem? (i := 28) (by decide +kernel))) (by decide +kernel)
theorem it_X1 : Cond.instantiable RX1 5 ∈ ab_tb := ab_in (List.mem_append_right _ (List.mem_of_getElem? (i := 58) (by decide +kernel))) (by decide +kernel)
theorem it_X4 : Cond.instantiable RX4 9 ∈ ab_tb := ab_in (List.mem_append_right _ (List.mem_of_getElem? (i := 112) (by decide +kernel))) (by decide +kernel)
theorem it_X0 : Cond.instantiable RX0 10 ∈ ab_tb := ab_in (List.mem_append_right _ (List.mem_of_getElem? (i := 119) (by decide +kernel))) (by decide +kernel)
theorem it_X2 : Cond.instantiable RX2 5 ∈ ab_tb := ab_in (List.mem_append_right _ (List.mem_of_getElem? (i := 205) (by decide +kernel))) (by decide +kernel)
theorem it_X7 : Cond.instantiable RX7 31 ∈ ab_tb := ab_in (List.mem_append_right _ (List.mem_of_getElem? (i := 535) (by decide +kernel))) (by decide +kernel)
theorem in_L : Cond.initialized RL ∈ ab_tb := ab_in (List.mem_append_right _ (List.mem_of_getElem? (i := 0) (by decide +kernel))) (by decide +kernel)
theorem in_X6 : Cond.initialized RX6 ∈ ab_tb := ab_in (List.mem_append_right _ (List.mem_of_getElem? (i := 1) (by decide +kernel))) (by decide +kernel)
theorem in_X5 : Cond.initialized RX5 ∈ ab_tb := ab_in (List.mem_append_right _ (List.mem_of_getElem? (i := 2) (by decide +kernel))) (by decide +kernel)
theorem in_X3 : Cond.initialized RX3 ∈ ab_tb := ab_in (List.mem_append_right _ (List.mem_of_getElem? (i := 3) (by decide +kernel))) (by decide +kernel)
theorem in_X1 : Cond.initialized RX1 ∈ ab_tb := ab_in (List.mem_append_right _ (List.mem_of_getElem? (i := 4) (by decide +kernel))) (by decide +kernel)
theorem in_X4 : Cond.initialized RX4 ∈ ab_tb := ab_in (List.mem_append_right _ (List.mem_of_getElem? (i := 5) (by decide +kernel))) (by decide +kernel)
theorem in_X0 : Cond.initialized RX0 ∈ ab_tb := ab_in (List.mem_append_right _ (List.mem_of_getElem? (i := 6) (by decide +kernel))) (by decide +kernel)
theorem in_X2 : Cond.initialized RX2 ∈ ab_tb := ab_in (List.mem_append_right _ (List.mem_of_getElem? (i := 7) (by decide +kernel))) (by decide +kernel)
theorem in_X7 : Cond.initialized RX7 ∈ ab_tb := ab_in (List.mem_append_right _ (List.mem_of_getElem? (i := 8) (by decide +kernel))) (by decide +kernel)
theorem in_Math : Cond.initialized "java/lang/Math" ∈ ab_tb := ab_in (List.mem_append_right _ (List.mem_of_getElem? (i := 9) (by decide +kernel))) (by decide +kernel)
theorem in_System : Cond.initialized "java/lang/System" ∈ ab_tb := ab_in (List.mem_append_right _ (List.mem_of_getElem? (i := 10) (by decide +kernel))) (by decide +kernel)
theorem ac_int : Cond.arrayClass .int ∈ ab_tb := ab_in (List.mem_append_right _ (List.mem_of_getElem? (i := 57) (by decide +kernel))) (by decide +kernel)
theorem ac_boolean : Cond.arrayClass .boolean ∈ ab_tb := ab_in (List.mem_append_right _ (List.mem_of_getElem? (i := 170) (by decide +kernel))) (by decide +kernel)
theorem ao_X1 : Cond.arrayOver (.object RX1) ∈ ab_xs := ab_xin (List.mem_of_getElem? (i := 26) (by decide +kernel)) (by decide +kernel)
theorem ao_X5 : Cond.arrayOver (.object RX5) ∈ ab_xs := ab_xin (List.mem_of_getElem? (i := 110) (by decide +kernel)) (by decide +kernel)
theorem ao_X0 : Cond.arrayOver (.object RX0) ∈ ab_xs := ab_xin (List.mem_of_getElem? (i := 118) (by decide +kernel)) (by decide +kernel)
theorem nt_copy : Cond.native arraycopyName ∈ ab_tb := ab_in (List.mem_append_right _ (List.mem_of_getElem? (i := 524) (by decide +kernel))) (by decide +kernel)
theorem ss_X6_isDisk : Cond.static yX6_isDisk ∈ ab_tb := ab_in (List.mem_append_right _ (List.mem_of_getElem? (i := 248) (by decide +kernel))) (by decide +kernel)
theorem ss_X6_within : Cond.static yX6_within ∈ ab_tb := ab_in (List.mem_append_right _ (List.mem_of_getElem? (i := 251) (by decide +kernel))) (by decide +kernel)
theorem ss_X6_isPolicy : Cond.static yX6_isPolicy ∈ ab_tb := ab_in (List.mem_append_right _ (List.mem_of_getElem? (i := 279) (by decide +kernel))) (by decide +kernel)
theorem ss_min : Cond.static Lib.Math.min.name ∈ ab_tb := ab_in (List.mem_append_right _ (List.mem_of_getElem? (i := 351) (by decide +kernel))) (by decide +kernel)
theorem ss_max : Cond.static Lib.Math.max.name ∈ ab_tb := ab_in (List.mem_append_right _ (List.mem_of_getElem? (i := 358) (by decide +kernel))) (by decide +kernel)
theorem ss_X6_partOfFraction : Cond.static yX6_partOfFraction ∈ ab_tb := ab_in (List.mem_append_right _ (List.mem_of_getElem? (i := 484) (by decide +kernel))) (by decide +kernel)
theorem ss_X6_commonDivisor : Cond.static yX6_commonDivisor ∈ ab_tb := ab_in (List.mem_append_right _ (List.mem_of_getElem? (i := 487) (by decide +kernel))) (by decide +kernel)
theorem ss_copy : Cond.static arraycopyName ∈ ab_tb := ab_in (List.mem_append_right _ (List.mem_of_getElem? (i := 523) (by decide +kernel))) (by decide +kernel)
theorem ss_X7_isDisk : Cond.static yX7_isDisk ∈ ab_tb := ab_in (List.mem_append_right _ (List.mem_of_getElem? (i := 639) (by decide +kernel))) (by decide +kernel)
theorem ss_X7_in : Cond.static yX7_in ∈ ab_tb := ab_in (List.mem_append_right _ (List.mem_of_getElem? (i := 642) (by decide +kernel))) (by decide +kernel)
theorem ss_X7_part : Cond.static yX7_part ∈ ab_tb := ab_in (List.mem_append_right _ (List.mem_of_getElem? (i := 781) (by decide +kernel))) (by decide +kernel)
theorem ss_X7_common : Cond.static yX7_common ∈ ab_tb := ab_in (List.mem_append_right _ (List.mem_of_getElem? (i := 784) (by decide +kernel))) (by decide +kernel)
theorem im_X6_init : Cond.instanceMethod yX6_init ∈ ab_tb := ab_in (List.mem_append_right _ (List.mem_of_getElem? (i := 14) (by decide +kernel))) (by decide +kernel)
theorem im_obj : Cond.instanceMethod objectInit ∈ ab_tb := ab_in (List.mem_append_right _ (List.mem_of_getElem? (i := 17) (by decide +kernel))) (by decide +kernel)
theorem im_X5_init : Cond.instanceMethod yX5_init ∈ ab_tb := ab_in (List.mem_append_right _ (List.mem_of_getElem? (i := 22) (by decide +kernel))) (by decide +kernel)
theorem im_X3_init : Cond.instanceMethod yX3_init ∈ ab_tb := ab_in (List.mem_append_right _ (List.mem_of_getElem? (i := 30) (by decide +kernel))) (by decide +kernel)
theorem im_X1_init : Cond.instanceMethod yX1_init ∈ ab_tb := ab_in (List.mem_append_right _ (List.mem_of_getElem? (i := 60) (by decide +kernel))) (by decide +kernel)
theorem im_X4_init : Cond.instanceMethod yX4_init ∈ ab_tb := ab_in (List.mem_append_right _ (List.mem_of_getElem? (i := 114) (by decide +kernel))) (by decide +kernel)
theorem im_X0_init : Cond.instanceMethod yX0_init ∈ ab_tb := ab_in (List.mem_append_right _ (List.mem_of_getElem? (i := 121) (by decide +kernel))) (by decide +kernel)
theorem im_X2_init : Cond.instanceMethod yX2_init ∈ ab_tb := ab_in (List.mem_append_right _ (List.mem_of_getElem? (i := 207) (by decide +kernel))) (by decide +kernel)
theorem im_X6_power : Cond.instanceMethod yX6_power ∈ ab_tb := ab_in (List.mem_append_right _ (List.mem_of_getElem? (i := 244) (by decide +kernel))) (by decide +kernel)
theorem im_X4_makeStale : Cond.instanceMethod yX4_makeStale ∈ ab_tb := ab_in (List.mem_append_right _ (List.mem_of_getElem? (i := 255) (by decide +kernel))) (by decide +kernel)
theorem im_X6_deeper : Cond.instanceMethod yX6_deeper ∈ ab_tb := ab_in (List.mem_append_right _ (List.mem_of_getElem? (i := 258) (by decide +kernel))) (by decide +kernel)
theorem im_X1_addLevel : Cond.instanceMethod yX1_addLevel ∈ ab_tb := ab_in (List.mem_append_right _ (List.mem_of_getElem? (i := 263) (by decide +kernel))) (by decide +kernel)
theorem im_X6_level : Cond.instanceMethod yX6_level ∈ ab_tb := ab_in (List.mem_append_right _ (List.mem_of_getElem? (i := 266) (by decide +kernel))) (by decide +kernel)
theorem im_X1_hasLevel : Cond.instanceMethod yX1_hasLevel ∈ ab_tb := ab_in (List.mem_append_right _ (List.mem_of_getElem? (i := 271) (by decide +kernel))) (by decide +kernel)
theorem im_X6_policy : Cond.instanceMethod yX6_policy ∈ ab_tb := ab_in (List.mem_append_right _ (List.mem_of_getElem? (i := 275) (by decide +kernel))) (by decide +kernel)
theorem im_X6_request : Cond.instanceMethod yX6_request ∈ ab_tb := ab_in (List.mem_append_right _ (List.mem_of_getElem? (i := 282) (by decide +kernel))) (by decide +kernel)
theorem im_X3_add : Cond.instanceMethod yX3_add ∈ ab_tb := ab_in (List.mem_append_right _ (List.mem_of_getElem? (i := 287) (by decide +kernel))) (by decide +kernel)
theorem im_X6_forget : Cond.instanceMethod yX6_forget ∈ ab_tb := ab_in (List.mem_append_right _ (List.mem_of_getElem? (i := 290) (by decide +kernel))) (by decide +kernel)
theorem im_X3_has : Cond.instanceMethod yX3_has ∈ ab_tb := ab_in (List.mem_append_right _ (List.mem_of_getElem? (i := 295) (by decide +kernel))) (by decide +kernel)
theorem im_X3_drop : Cond.instanceMethod yX3_drop ∈ ab_tb := ab_in (List.mem_append_right _ (List.mem_of_getElem? (i := 300) (by decide +kernel))) (by decide +kernel)
theorem im_X6_told : Cond.instanceMethod yX6_told ∈ ab_tb := ab_in (List.mem_append_right _ (List.mem_of_getElem? (i := 303) (by decide +kernel))) (by decide +kernel)
theorem im_X6_end : Cond.instanceMethod yX6_end ∈ ab_tb := ab_in (List.mem_append_right _ (List.mem_of_getElem? (i := 307) (by decide +kernel))) (by decide +kernel)
theorem im_X6_journal : Cond.instanceMethod yX6_journal ∈ ab_tb := ab_in (List.mem_append_right _ (List.mem_of_getElem? (i := 311) (by decide +kernel))) (by decide +kernel)
theorem im_X6_disk : Cond.instanceMethod yX6_disk ∈ ab_tb := ab_in (List.mem_append_right _ (List.mem_of_getElem? (i := 315) (by decide +kernel))) (by decide +kernel)
theorem im_X6_wholeRun : Cond.instanceMethod yX6_wholeRun ∈ ab_tb := ab_in (List.mem_append_right _ (List.mem_of_getElem? (i := 320) (by decide +kernel))) (by decide +kernel)
theorem im_X4_goOnTo : Cond.instanceMethod yX4_goOnTo ∈ ab_tb := ab_in (List.mem_append_right _ (List.mem_of_getElem? (i := 324) (by decide +kernel))) (by decide +kernel)
theorem im_X4_begin : Cond.instanceMethod yX4_begin ∈ ab_tb := ab_in (List.mem_append_right _ (List.mem_of_getElem? (i := 328) (by decide +kernel))) (by decide +kernel)
theorem im_X0_begin : Cond.instanceMethod yX0_begin ∈ ab_tb := ab_in (List.mem_append_right _ (List.mem_of_getElem? (i := 332) (by decide +kernel))) (by decide +kernel)
theorem im_X3_putInOrder : Cond.instanceMethod yX3_putInOrder ∈ ab_tb := ab_in (List.mem_append_right _ (List.mem_of_getElem? (i := 336) (by decide +kernel))) (by decide +kernel)
theorem im_X4_serveAllOf : Cond.instanceMethod yX4_serveAllOf ∈ ab_tb := ab_in (List.mem_append_right _ (List.mem_of_getElem? (i := 340) (by decide +kernel))) (by decide +kernel)
theorem im_X4_serve : Cond.instanceMethod yX4_serve ∈ ab_tb := ab_in (List.mem_append_right _ (List.mem_of_getElem? (i := 344) (by decide +kernel))) (by decide +kernel)
theorem im_X0_sleeps : Cond.instanceMethod yX0_sleeps ∈ ab_tb := ab_in (List.mem_append_right _ (List.mem_of_getElem? (i := 348) (by decide +kernel))) (by decide +kernel)
theorem im_X4_enter : Cond.instanceMethod yX4_enter ∈ ab_tb := ab_in (List.mem_append_right _ (List.mem_of_getElem? (i := 355) (by decide +kernel))) (by decide +kernel)
theorem im_X4_wakeUp : Cond.instanceMethod yX4_wakeUp ∈ ab_tb := ab_in (List.mem_append_right _ (List.mem_of_getElem? (i := 362) (by decide +kernel))) (by decide +kernel)
theorem im_X4_letEntriesLeave : Cond.instanceMethod yX4_letEntriesLeave ∈ ab_tb := ab_in (List.mem_append_right _ (List.mem_of_getElem? (i := 366) (by decide +kernel))) (by decide +kernel)
theorem im_X1_restsForGuess : Cond.instanceMethod yX1_restsForGuess ∈ ab_tb := ab_in (List.mem_append_right _ (List.mem_of_getElem? (i := 370) (by decide +kernel))) (by decide +kernel)
theorem im_X0_becomeBusy : Cond.instanceMethod yX0_becomeBusy ∈ ab_tb := ab_in (List.mem_append_right _ (List.mem_of_getElem? (i := 374) (by decide +kernel))) (by decide +kernel)
theorem im_X0_meanOfLast : Cond.instanceMethod yX0_meanOfLast ∈ ab_tb := ab_in (List.mem_append_right _ (List.mem_of_getElem? (i := 378) (by decide +kernel))) (by decide +kernel)
theorem im_X0_passTick : Cond.instanceMethod yX0_passTick ∈ ab_tb := ab_in (List.mem_append_right _ (List.mem_of_getElem? (i := 382) (by decide +kernel))) (by decide +kernel)
theorem im_X1_levelFor : Cond.instanceMethod yX1_levelFor ∈ ab_tb := ab_in (List.mem_append_right _ (List.mem_of_getElem? (i := 386) (by decide +kernel))) (by decide +kernel)
theorem im_X1_cheapestLevel : Cond.instanceMethod yX1_cheapestLevel ∈ ab_tb := ab_in (List.mem_append_right _ (List.mem_of_getElem? (i := 392) (by decide +kernel))) (by decide +kernel)
theorem im_X1_levelCost : Cond.instanceMethod yX1_levelCost ∈ ab_tb := ab_in (List.mem_append_right _ (List.mem_of_getElem? (i := 396) (by decide +kernel))) (by decide +kernel)
theorem im_X4_entriesOf : Cond.instanceMethod yX4_entriesOf ∈ ab_tb := ab_in (List.mem_append_right _ (List.mem_of_getElem? (i := 400) (by decide +kernel))) (by decide +kernel)
theorem im_X6_at : Cond.instanceMethod yX6_at ∈ ab_tb := ab_in (List.mem_append_right _ (List.mem_of_getElem? (i := 403) (by decide +kernel))) (by decide +kernel)
theorem im_X6_fate : Cond.instanceMethod yX6_fate ∈ ab_tb := ab_in (List.mem_append_right _ (List.mem_of_getElem? (i := 407) (by decide +kernel))) (by decide +kernel)
theorem im_X6_waiting : Cond.instanceMethod yX6_waiting ∈ ab_tb := ab_in (List.mem_append_right _ (List.mem_of_getElem? (i := 411) (by decide +kernel))) (by decide +kernel)
theorem im_X6_least : Cond.instanceMethod yX6_least ∈ ab_tb := ab_in (List.mem_append_right _ (List.mem_of_getElem? (i := 415) (by decide +kernel))) (by decide +kernel)
theorem im_X2_find : Cond.instanceMethod yX2_find ∈ ab_tb := ab_in (List.mem_append_right _ (List.mem_of_getElem? (i := 420) (by decide +kernel))) (by decide +kernel)
theorem im_X1_leastCost : Cond.instanceMethod yX1_leastCost ∈ ab_tb := ab_in (List.mem_append_right _ (List.mem_of_getElem? (i := 425) (by decide +kernel))) (by decide +kernel)
theorem im_X2_add : Cond.instanceMethod yX2_add ∈ ab_tb := ab_in (List.mem_append_right _ (List.mem_of_getElem? (i := 429) (by decide +kernel))) (by decide +kernel)
theorem im_X1_leastCostToEnd : Cond.instanceMethod yX1_leastCostToEnd ∈ ab_tb := ab_in (List.mem_append_right _ (List.mem_of_getElem? (i := 433) (by decide +kernel))) (by decide +kernel)
theorem im_X2_costAwake : Cond.instanceMethod yX2_costAwake ∈ ab_tb := ab_in (List.mem_append_right _ (List.mem_of_getElem? (i := 437) (by decide +kernel))) (by decide +kernel)
theorem im_X2_sumOf : Cond.instanceMethod yX2_sumOf ∈ ab_tb := ab_in (List.mem_append_right _ (List.mem_of_getElem? (i := 441) (by decide +kernel))) (by decide +kernel)
theorem im_X2_savedByAll : Cond.instanceMethod yX2_savedByAll ∈ ab_tb := ab_in (List.mem_append_right _ (List.mem_of_getElem? (i := 445) (by decide +kernel))) (by decide +kernel)
theorem im_X2_worthSleeping : Cond.instanceMethod yX2_worthSleeping ∈ ab_tb := ab_in (List.mem_append_right _ (List.mem_of_getElem? (i := 449) (by decide +kernel))) (by decide +kernel)
theorem im_X6_limited : Cond.instanceMethod yX6_limited ∈ ab_tb := ab_in (List.mem_append_right _ (List.mem_of_getElem? (i := 452) (by decide +kernel))) (by decide +kernel)
theorem im_X2_savedByFew : Cond.instanceMethod yX2_savedByFew ∈ ab_tb := ab_in (List.mem_append_right _ (List.mem_of_getElem? (i := 457) (by decide +kernel))) (by decide +kernel)
theorem im_X2_betterOfSameDay : Cond.instanceMethod yX2_betterOfSameDay ∈ ab_tb := ab_in (List.mem_append_right _ (List.mem_of_getElem? (i := 462) (by decide +kernel))) (by decide +kernel)
theorem im_X6_costs : Cond.instanceMethod yX6_costs ∈ ab_tb := ab_in (List.mem_append_right _ (List.mem_of_getElem? (i := 465) (by decide +kernel))) (by decide +kernel)
theorem im_X1_costByPolicy : Cond.instanceMethod yX1_costByPolicy ∈ ab_tb := ab_in (List.mem_append_right _ (List.mem_of_getElem? (i := 470) (by decide +kernel))) (by decide +kernel)
theorem im_X6_worst : Cond.instanceMethod yX6_worst ∈ ab_tb := ab_in (List.mem_append_right _ (List.mem_of_getElem? (i := 474) (by decide +kernel))) (by decide +kernel)
theorem im_X1_worstTicks : Cond.instanceMethod yX1_worstTicks ∈ ab_tb := ab_in (List.mem_append_right _ (List.mem_of_getElem? (i := 479) (by decide +kernel))) (by decide +kernel)
theorem im_X6_drawn : Cond.instanceMethod yX6_drawn ∈ ab_tb := ab_in (List.mem_append_right _ (List.mem_of_getElem? (i := 491) (by decide +kernel))) (by decide +kernel)
theorem im_X1_agesDrawn : Cond.instanceMethod yX1_agesDrawn ∈ ab_tb := ab_in (List.mem_append_right _ (List.mem_of_getElem? (i := 496) (by decide +kernel))) (by decide +kernel)
theorem im_X1_costOfAllDrawn : Cond.instanceMethod yX1_costOfAllDrawn ∈ ab_tb := ab_in (List.mem_append_right _ (List.mem_of_getElem? (i := 500) (by decide +kernel))) (by decide +kernel)
theorem im_X6_count : Cond.instanceMethod yX6_count ∈ ab_tb := ab_in (List.mem_append_right _ (List.mem_of_getElem? (i := 503) (by decide +kernel))) (by decide +kernel)
theorem im_X4_energyOfAll : Cond.instanceMethod yX4_energyOfAll ∈ ab_tb := ab_in (List.mem_append_right _ (List.mem_of_getElem? (i := 508) (by decide +kernel))) (by decide +kernel)
theorem im_X6_image : Cond.instanceMethod yX6_image ∈ ab_tb := ab_in (List.mem_append_right _ (List.mem_of_getElem? (i := 511) (by decide +kernel))) (by decide +kernel)
theorem im_X5_copyFrom : Cond.instanceMethod yX5_copyFrom ∈ ab_tb := ab_in (List.mem_append_right _ (List.mem_of_getElem? (i := 516) (by decide +kernel))) (by decide +kernel)
theorem im_X1_copyFrom : Cond.instanceMethod yX1_copyFrom ∈ ab_tb := ab_in (List.mem_append_right _ (List.mem_of_getElem? (i := 520) (by decide +kernel))) (by decide +kernel)
theorem im_X3_copyFrom : Cond.instanceMethod yX3_copyFrom ∈ ab_tb := ab_in (List.mem_append_right _ (List.mem_of_getElem? (i := 527) (by decide +kernel))) (by decide +kernel)
theorem im_X6_restore : Cond.instanceMethod yX6_restore ∈ ab_tb := ab_in (List.mem_append_right _ (List.mem_of_getElem? (i := 531) (by decide +kernel))) (by decide +kernel)
theorem im_X7_init : Cond.instanceMethod yX7_init ∈ ab_tb := ab_in (List.mem_append_right _ (List.mem_of_getElem? (i := 537) (by decide +kernel))) (by decide +kernel)
theorem im_X7_power : Cond.instanceMethod yX7_power ∈ ab_tb := ab_in (List.mem_append_right _ (List.mem_of_getElem? (i := 635) (by decide +kernel))) (by decide +kernel)
theorem im_X7_deeper : Cond.instanceMethod yX7_deeper ∈ ab_tb := ab_in (List.mem_append_right _ (List.mem_of_getElem? (i := 645) (by decide +kernel))) (by decide +kernel)
theorem im_X7_wakeOf : Cond.instanceMethod yX7_wakeOf ∈ ab_tb := ab_in (List.mem_append_right _ (List.mem_of_getElem? (i := 650) (by decide +kernel))) (by decide +kernel)
theorem im_X7_level : Cond.instanceMethod yX7_level ∈ ab_tb := ab_in (List.mem_append_right _ (List.mem_of_getElem? (i := 653) (by decide +kernel))) (by decide +kernel)
theorem im_X7_policy : Cond.instanceMethod yX7_policy ∈ ab_tb := ab_in (List.mem_append_right _ (List.mem_of_getElem? (i := 657) (by decide +kernel))) (by decide +kernel)
theorem im_X7_request : Cond.instanceMethod yX7_request ∈ ab_tb := ab_in (List.mem_append_right _ (List.mem_of_getElem? (i := 661) (by decide +kernel))) (by decide +kernel)
theorem im_X7_forget : Cond.instanceMethod yX7_forget ∈ ab_tb := ab_in (List.mem_append_right _ (List.mem_of_getElem? (i := 665) (by decide +kernel))) (by decide +kernel)
theorem im_X7_isRequest : Cond.instanceMethod yX7_isRequest ∈ ab_tb := ab_in (List.mem_append_right _ (List.mem_of_getElem? (i := 670) (by decide +kernel))) (by decide +kernel)
theorem im_X7_told : Cond.instanceMethod yX7_told ∈ ab_tb := ab_in (List.mem_append_right _ (List.mem_of_getElem? (i := 673) (by decide +kernel))) (by decide +kernel)
theorem im_X7_end : Cond.instanceMethod yX7_end ∈ ab_tb := ab_in (List.mem_append_right _ (List.mem_of_getElem? (i := 677) (by decide +kernel))) (by decide +kernel)
theorem im_X7_journal : Cond.instanceMethod yX7_journal ∈ ab_tb := ab_in (List.mem_append_right _ (List.mem_of_getElem? (i := 681) (by decide +kernel))) (by decide +kernel)
theorem im_X7_disk : Cond.instanceMethod yX7_disk ∈ ab_tb := ab_in (List.mem_append_right _ (List.mem_of_getElem? (i := 685) (by decide +kernel))) (by decide +kernel)
theorem im_X7_run : Cond.instanceMethod yX7_run ∈ ab_tb := ab_in (List.mem_append_right _ (List.mem_of_getElem? (i := 690) (by decide +kernel))) (by decide +kernel)
theorem im_X7_meet : Cond.instanceMethod yX7_meet ∈ ab_tb := ab_in (List.mem_append_right _ (List.mem_of_getElem? (i := 694) (by decide +kernel))) (by decide +kernel)
theorem im_X7_sleeps : Cond.instanceMethod yX7_sleeps ∈ ab_tb := ab_in (List.mem_append_right _ (List.mem_of_getElem? (i := 698) (by decide +kernel))) (by decide +kernel)
theorem im_X7_wake : Cond.instanceMethod yX7_wake ∈ ab_tb := ab_in (List.mem_append_right _ (List.mem_of_getElem? (i := 702) (by decide +kernel))) (by decide +kernel)
theorem im_X7_keepBusy : Cond.instanceMethod yX7_keepBusy ∈ ab_tb := ab_in (List.mem_append_right _ (List.mem_of_getElem? (i := 706) (by decide +kernel))) (by decide +kernel)
theorem im_X7_levelFor : Cond.instanceMethod yX7_levelFor ∈ ab_tb := ab_in (List.mem_append_right _ (List.mem_of_getElem? (i := 710) (by decide +kernel))) (by decide +kernel)
theorem im_X7_bestFor : Cond.instanceMethod yX7_bestFor ∈ ab_tb := ab_in (List.mem_append_right _ (List.mem_of_getElem? (i := 714) (by decide +kernel))) (by decide +kernel)
theorem im_X7_costWith : Cond.instanceMethod yX7_costWith ∈ ab_tb := ab_in (List.mem_append_right _ (List.mem_of_getElem? (i := 718) (by decide +kernel))) (by decide +kernel)
theorem im_X7_guessOf : Cond.instanceMethod yX7_guessOf ∈ ab_tb := ab_in (List.mem_append_right _ (List.mem_of_getElem? (i := 722) (by decide +kernel))) (by decide +kernel)
theorem im_X7_stayOf : Cond.instanceMethod yX7_stayOf ∈ ab_tb := ab_in (List.mem_append_right _ (List.mem_of_getElem? (i := 726) (by decide +kernel))) (by decide +kernel)
theorem im_X7_at : Cond.instanceMethod yX7_at ∈ ab_tb := ab_in (List.mem_append_right _ (List.mem_of_getElem? (i := 729) (by decide +kernel))) (by decide +kernel)
theorem im_X7_fate : Cond.instanceMethod yX7_fate ∈ ab_tb := ab_in (List.mem_append_right _ (List.mem_of_getElem? (i := 733) (by decide +kernel))) (by decide +kernel)
theorem im_X7_waiting : Cond.instanceMethod yX7_waiting ∈ ab_tb := ab_in (List.mem_append_right _ (List.mem_of_getElem? (i := 737) (by decide +kernel))) (by decide +kernel)
theorem im_X7_least : Cond.instanceMethod yX7_least ∈ ab_tb := ab_in (List.mem_append_right _ (List.mem_of_getElem? (i := 741) (by decide +kernel))) (by decide +kernel)
theorem im_X7_layGaps : Cond.instanceMethod yX7_layGaps ∈ ab_tb := ab_in (List.mem_append_right _ (List.mem_of_getElem? (i := 746) (by decide +kernel))) (by decide +kernel)
theorem im_X7_nextAsked : Cond.instanceMethod yX7_nextAsked ∈ ab_tb := ab_in (List.mem_append_right _ (List.mem_of_getElem? (i := 750) (by decide +kernel))) (by decide +kernel)
theorem im_X7_leastToEnd : Cond.instanceMethod yX7_leastToEnd ∈ ab_tb := ab_in (List.mem_append_right _ (List.mem_of_getElem? (i := 754) (by decide +kernel))) (by decide +kernel)
theorem im_X7_leastOf : Cond.instanceMethod yX7_leastOf ∈ ab_tb := ab_in (List.mem_append_right _ (List.mem_of_getElem? (i := 758) (by decide +kernel))) (by decide +kernel)
theorem im_X7_limited : Cond.instanceMethod yX7_limited ∈ ab_tb := ab_in (List.mem_append_right _ (List.mem_of_getElem? (i := 761) (by decide +kernel))) (by decide +kernel)
theorem im_X7_dearest : Cond.instanceMethod yX7_dearest ∈ ab_tb := ab_in (List.mem_append_right _ (List.mem_of_getElem? (i := 766) (by decide +kernel))) (by decide +kernel)
theorem im_X7_costs : Cond.instanceMethod yX7_costs ∈ ab_tb := ab_in (List.mem_append_right _ (List.mem_of_getElem? (i := 769) (by decide +kernel))) (by decide +kernel)
theorem im_X7_costOf : Cond.instanceMethod yX7_costOf ∈ ab_tb := ab_in (List.mem_append_right _ (List.mem_of_getElem? (i := 774) (by decide +kernel))) (by decide +kernel)
theorem im_X7_worst : Cond.instanceMethod yX7_worst ∈ ab_tb := ab_in (List.mem_append_right _ (List.mem_of_getElem? (i := 777) (by decide +kernel))) (by decide +kernel)
theorem im_X7_drawn : Cond.instanceMethod yX7_drawn ∈ ab_tb := ab_in (List.mem_append_right _ (List.mem_of_getElem? (i := 787) (by decide +kernel))) (by decide +kernel)
theorem im_X7_count : Cond.instanceMethod yX7_count ∈ ab_tb := ab_in (List.mem_append_right _ (List.mem_of_getElem? (i := 791) (by decide +kernel))) (by decide +kernel)
theorem im_X7_image : Cond.instanceMethod yX7_image ∈ ab_tb := ab_in (List.mem_append_right _ (List.mem_of_getElem? (i := 795) (by decide +kernel))) (by decide +kernel)
theorem im_X7_restore : Cond.instanceMethod yX7_restore ∈ ab_tb := ab_in (List.mem_append_right _ (List.mem_of_getElem? (i := 799) (by decide +kernel))) (by decide +kernel)
theorem se_X6_power : Cond.selects yX6_power.cls yX6_power yX6_power ∈ ab_tb := ab_in (List.mem_append_right _ (List.mem_of_getElem? (i := 245) (by decide +kernel))) (by decide +kernel)
theorem se_X6_deeper : Cond.selects yX6_deeper.cls yX6_deeper yX6_deeper ∈ ab_tb := ab_in (List.mem_append_right _ (List.mem_of_getElem? (i := 259) (by decide +kernel))) (by decide +kernel)
theorem se_X6_level : Cond.selects yX6_level.cls yX6_level yX6_level ∈ ab_tb := ab_in (List.mem_append_right _ (List.mem_of_getElem? (i := 267) (by decide +kernel))) (by decide +kernel)
theorem se_X6_policy : Cond.selects yX6_policy.cls yX6_policy yX6_policy ∈ ab_tb := ab_in (List.mem_append_right _ (List.mem_of_getElem? (i := 276) (by decide +kernel))) (by decide +kernel)
theorem se_X6_request : Cond.selects yX6_request.cls yX6_request yX6_request ∈ ab_tb := ab_in (List.mem_append_right _ (List.mem_of_getElem? (i := 283) (by decide +kernel))) (by decide +kernel)
theorem se_X6_forget : Cond.selects yX6_forget.cls yX6_forget yX6_forget ∈ ab_tb := ab_in (List.mem_append_right _ (List.mem_of_getElem? (i := 291) (by decide +kernel))) (by decide +kernel)
theorem se_X6_told : Cond.selects yX6_told.cls yX6_told yX6_told ∈ ab_tb := ab_in (List.mem_append_right _ (List.mem_of_getElem? (i := 304) (by decide +kernel))) (by decide +kernel)
theorem se_X6_end : Cond.selects yX6_end.cls yX6_end yX6_end ∈ ab_tb := ab_in (List.mem_append_right _ (List.mem_of_getElem? (i := 308) (by decide +kernel))) (by decide +kernel)
theorem se_X6_journal : Cond.selects yX6_journal.cls yX6_journal yX6_journal ∈ ab_tb := ab_in (List.mem_append_right _ (List.mem_of_getElem? (i := 312) (by decide +kernel))) (by decide +kernel)
theorem se_X6_disk : Cond.selects yX6_disk.cls yX6_disk yX6_disk ∈ ab_tb := ab_in (List.mem_append_right _ (List.mem_of_getElem? (i := 316) (by decide +kernel))) (by decide +kernel)
theorem se_X6_at : Cond.selects yX6_at.cls yX6_at yX6_at ∈ ab_tb := ab_in (List.mem_append_right _ (List.mem_of_getElem? (i := 404) (by decide +kernel))) (by decide +kernel)
theorem se_X6_fate : Cond.selects yX6_fate.cls yX6_fate yX6_fate ∈ ab_tb := ab_in (List.mem_append_right _ (List.mem_of_getElem? (i := 408) (by decide +kernel))) (by decide +kernel)
theorem se_X6_waiting : Cond.selects yX6_waiting.cls yX6_waiting yX6_waiting ∈ ab_tb := ab_in (List.mem_append_right _ (List.mem_of_getElem? (i := 412) (by decide +kernel))) (by decide +kernel)
theorem se_X6_least : Cond.selects yX6_least.cls yX6_least yX6_least ∈ ab_tb := ab_in (List.mem_append_right _ (List.mem_of_getElem? (i := 416) (by decide +kernel))) (by decide +kernel)
theorem se_X6_limited : Cond.selects yX6_limited.cls yX6_limited yX6_limited ∈ ab_tb := ab_in (List.mem_append_right _ (List.mem_of_getElem? (i := 453) (by decide +kernel))) (by decide +kernel)
theorem se_X6_costs : Cond.selects yX6_costs.cls yX6_costs yX6_costs ∈ ab_tb := ab_in (List.mem_append_right _ (List.mem_of_getElem? (i := 466) (by decide +kernel))) (by decide +kernel)
theorem se_X6_worst : Cond.selects yX6_worst.cls yX6_worst yX6_worst ∈ ab_tb := ab_in (List.mem_append_right _ (List.mem_of_getElem? (i := 475) (by decide +kernel))) (by decide +kernel)
theorem se_X6_drawn : Cond.selects yX6_drawn.cls yX6_drawn yX6_drawn ∈ ab_tb := ab_in (List.mem_append_right _ (List.mem_of_getElem? (i := 492) (by decide +kernel))) (by decide +kernel)
theorem se_X6_count : Cond.selects yX6_count.cls yX6_count yX6_count ∈ ab_tb := ab_in (List.mem_append_right _ (List.mem_of_getElem? (i := 504) (by decide +kernel))) (by decide +kernel)
theorem se_X6_image : Cond.selects yX6_image.cls yX6_image yX6_image ∈ ab_tb := ab_in (List.mem_append_right _ (List.mem_of_getElem? (i := 512) (by decide +kernel))) (by decide +kernel)
theorem se_X6_restore : Cond.selects yX6_restore.cls yX6_restore yX6_restore ∈ ab_tb := ab_in (List.mem_append_right _ (List.mem_of_getElem? (i := 532) (by decide +kernel))) (by decide +kernel)
theorem se_X7_power : Cond.selects yX7_power.cls yX7_power yX7_power ∈ ab_tb := ab_in (List.mem_append_right _ (List.mem_of_getElem? (i := 636) (by decide +kernel))) (by decide +kernel)
theorem se_X7_deeper : Cond.selects yX7_deeper.cls yX7_deeper yX7_deeper ∈ ab_tb := ab_in (List.mem_append_right _ (List.mem_of_getElem? (i := 646) (by decide +kernel))) (by decide +kernel)
theorem se_X7_level : Cond.selects yX7_level.cls yX7_level yX7_level ∈ ab_tb := ab_in (List.mem_append_right _ (List.mem_of_getElem? (i := 654) (by decide +kernel))) (by decide +kernel)
theorem se_X7_policy : Cond.selects yX7_policy.cls yX7_policy yX7_policy ∈ ab_tb := ab_in (List.mem_append_right _ (List.mem_of_getElem? (i := 658) (by decide +kernel))) (by decide +kernel)
theorem se_X7_request : Cond.selects yX7_request.cls yX7_request yX7_request ∈ ab_tb := ab_in (List.mem_append_right _ (List.mem_of_getElem? (i := 662) (by decide +kernel))) (by decide +kernel)
theorem se_X7_forget : Cond.selects yX7_forget.cls yX7_forget yX7_forget ∈ ab_tb := ab_in (List.mem_append_right _ (List.mem_of_getElem? (i := 666) (by decide +kernel))) (by decide +kernel)
theorem se_X7_told : Cond.selects yX7_told.cls yX7_told yX7_told ∈ ab_tb := ab_in (List.mem_append_right _ (List.mem_of_getElem? (i := 674) (by decide +kernel))) (by decide +kernel)
theorem se_X7_end : Cond.selects yX7_end.cls yX7_end yX7_end ∈ ab_tb := ab_in (List.mem_append_right _ (List.mem_of_getElem? (i := 678) (by decide +kernel))) (by decide +kernel)
theorem se_X7_journal : Cond.selects yX7_journal.cls yX7_journal yX7_journal ∈ ab_tb := ab_in (List.mem_append_right _ (List.mem_of_getElem? (i := 682) (by decide +kernel))) (by decide +kernel)
theorem se_X7_disk : Cond.selects yX7_disk.cls yX7_disk yX7_disk ∈ ab_tb := ab_in (List.mem_append_right _ (List.mem_of_getElem? (i := 686) (by decide +kernel))) (by decide +kernel)
theorem se_X7_at : Cond.selects yX7_at.cls yX7_at yX7_at ∈ ab_tb := ab_in (List.mem_append_right _ (List.mem_of_getElem? (i := 730) (by decide +kernel))) (by decide +kernel)
theorem se_X7_fate : Cond.selects yX7_fate.cls yX7_fate yX7_fate ∈ ab_tb := ab_in (List.mem_append_right _ (List.mem_of_getElem? (i := 734) (by decide +kernel))) (by decide +kernel)
theorem se_X7_waiting : Cond.selects yX7_waiting.cls yX7_waiting yX7_waiting ∈ ab_tb := ab_in (List.mem_append_right _ (List.mem_of_getElem? (i := 738) (by decide +kernel))) (by decide +kernel)
theorem se_X7_least : Cond.selects yX7_least.cls yX7_least yX7_least ∈ ab_tb := ab_in (List.mem_append_right _ (List.mem_of_getElem? (i := 742) (by decide +kernel))) (by decide +kernel)
theorem se_X7_limited : Cond.selects yX7_limited.cls yX7_limited yX7_limited ∈ ab_tb := ab_in (List.mem_append_right _ (List.mem_of_getElem? (i := 762) (by decide +kernel))) (by decide +kernel)
theorem se_X7_costs : Cond.selects yX7_costs.cls yX7_costs yX7_costs ∈ ab_tb := ab_in (List.mem_append_right _ (List.mem_of_getElem? (i := 770) (by decide +kernel))) (by decide +kernel)
theorem se_X7_worst : Cond.selects yX7_worst.cls yX7_worst yX7_worst ∈ ab_tb := ab_in (List.mem_append_right _ (List.mem_of_getElem? (i := 778) (by decide +kernel))) (by decide +kernel)
theorem se_X7_drawn : Cond.selects yX7_drawn.cls yX7_drawn yX7_drawn ∈ ab_tb := ab_in (List.mem_append_right _ (List.mem_of_getElem? (i := 788) (by decide +kernel))) (by decide +kernel)
theorem se_X7_count : Cond.selects yX7_count.cls yX7_count yX7_count ∈ ab_tb := ab_in (List.mem_append_right _ (List.mem_of_getElem? (i := 792) (by decide +kernel))) (by decide +kernel)
theorem se_X7_image : Cond.selects yX7_image.cls yX7_image yX7_image ∈ ab_tb := ab_in (List.mem_append_right _ (List.mem_of_getElem? (i := 796) (by decide +kernel))) (by decide +kernel)
theorem se_X7_restore : Cond.selects yX7_restore.cls yX7_restore yX7_restore ∈ ab_tb := ab_in (List.mem_append_right _ (List.mem_of_getElem? (i := 800) (by decide +kernel))) (by decide +kernel)
theorem se_X4_makeStale : Cond.selects yX4_makeStale.cls yX4_makeStale yX4_makeStale ∈ ab_tb := ab_in (List.mem_append_left _ (List.mem_of_getElem? (i := 0) (by decide +kernel))) (by decide +kernel)
theorem se_X1_addLevel : Cond.selects yX1_addLevel.cls yX1_addLevel yX1_addLevel ∈ ab_tb := ab_in (List.mem_append_left _ (List.mem_of_getElem? (i := 1) (by decide +kernel))) (by decide +kernel)
theorem se_X1_hasLevel : Cond.selects yX1_hasLevel.cls yX1_hasLevel yX1_hasLevel ∈ ab_tb := ab_in (List.mem_append_left _ (List.mem_of_getElem? (i := 2) (by decide +kernel))) (by decide +kernel)
theorem se_X3_add : Cond.selects yX3_add.cls yX3_add yX3_add ∈ ab_tb := ab_in (List.mem_append_left _ (List.mem_of_getElem? (i := 3) (by decide +kernel))) (by decide +kernel)
theorem se_X3_has : Cond.selects yX3_has.cls yX3_has yX3_has ∈ ab_tb := ab_in (List.mem_append_left _ (List.mem_of_getElem? (i := 4) (by decide +kernel))) (by decide +kernel)
theorem se_X3_drop : Cond.selects yX3_drop.cls yX3_drop yX3_drop ∈ ab_tb := ab_in (List.mem_append_left _ (List.mem_of_getElem? (i := 5) (by decide +kernel))) (by decide +kernel)
theorem se_X6_wholeRun : Cond.selects yX6_wholeRun.cls yX6_wholeRun yX6_wholeRun ∈ ab_tb := ab_in (List.mem_append_left _ (List.mem_of_getElem? (i := 6) (by decide +kernel))) (by decide +kernel)
theorem se_X4_goOnTo : Cond.selects yX4_goOnTo.cls yX4_goOnTo yX4_goOnTo ∈ ab_tb := ab_in (List.mem_append_left _ (List.mem_of_getElem? (i := 7) (by decide +kernel))) (by decide +kernel)
theorem se_X4_begin : Cond.selects yX4_begin.cls yX4_begin yX4_begin ∈ ab_tb := ab_in (List.mem_append_left _ (List.mem_of_getElem? (i := 8) (by decide +kernel))) (by decide +kernel)
theorem se_X0_begin : Cond.selects yX0_begin.cls yX0_begin yX0_begin ∈ ab_tb := ab_in (List.mem_append_left _ (List.mem_of_getElem? (i := 9) (by decide +kernel))) (by decide +kernel)
theorem se_X3_putInOrder : Cond.selects yX3_putInOrder.cls yX3_putInOrder yX3_putInOrder ∈ ab_tb := ab_in (List.mem_append_left _ (List.mem_of_getElem? (i := 10) (by decide +kernel))) (by decide +kernel)
theorem se_X4_serveAllOf : Cond.selects yX4_serveAllOf.cls yX4_serveAllOf yX4_serveAllOf ∈ ab_tb := ab_in (List.mem_append_left _ (List.mem_of_getElem? (i := 11) (by decide +kernel))) (by decide +kernel)
theorem se_X4_serve : Cond.selects yX4_serve.cls yX4_serve yX4_serve ∈ ab_tb := ab_in (List.mem_append_left _ (List.mem_of_getElem? (i := 12) (by decide +kernel))) (by decide +kernel)
theorem se_X0_sleeps : Cond.selects yX0_sleeps.cls yX0_sleeps yX0_sleeps ∈ ab_tb := ab_in (List.mem_append_left _ (List.mem_of_getElem? (i := 13) (by decide +kernel))) (by decide +kernel)
theorem se_X4_enter : Cond.selects yX4_enter.cls yX4_enter yX4_enter ∈ ab_tb := ab_in (List.mem_append_left _ (List.mem_of_getElem? (i := 14) (by decide +kernel))) (by decide +kernel)
theorem se_X4_wakeUp : Cond.selects yX4_wakeUp.cls yX4_wakeUp yX4_wakeUp ∈ ab_tb := ab_in (List.mem_append_left _ (List.mem_of_getElem? (i := 15) (by decide +kernel))) (by decide +kernel)
theorem se_X4_letEntriesLeave : Cond.selects yX4_letEntriesLeave.cls yX4_letEntriesLeave yX4_letEntriesLeave ∈ ab_tb := ab_in (List.mem_append_left _ (List.mem_of_getElem? (i := 16) (by decide +kernel))) (by decide +kernel)
theorem se_X1_restsForGuess : Cond.selects yX1_restsForGuess.cls yX1_restsForGuess yX1_restsForGuess ∈ ab_tb := ab_in (List.mem_append_left _ (List.mem_of_getElem? (i := 17) (by decide +kernel))) (by decide +kernel)
theorem se_X0_becomeBusy : Cond.selects yX0_becomeBusy.cls yX0_becomeBusy yX0_becomeBusy ∈ ab_tb := ab_in (List.mem_append_left _ (List.mem_of_getElem? (i := 18) (by decide +kernel))) (by decide +kernel)
theorem se_X0_meanOfLast : Cond.selects yX0_meanOfLast.cls yX0_meanOfLast yX0_meanOfLast ∈ ab_tb := ab_in (List.mem_append_left _ (List.mem_of_getElem? (i := 19) (by decide +kernel))) (by decide +kernel)
theorem se_X0_passTick : Cond.selects yX0_passTick.cls yX0_passTick yX0_passTick ∈ ab_tb := ab_in (List.mem_append_left _ (List.mem_of_getElem? (i := 20) (by decide +kernel))) (by decide +kernel)
theorem se_X1_levelFor : Cond.selects yX1_levelFor.cls yX1_levelFor yX1_levelFor ∈ ab_tb := ab_in (List.mem_append_left _ (List.mem_of_getElem? (i := 21) (by decide +kernel))) (by decide +kernel)
theorem se_X1_cheapestLevel : Cond.selects yX1_cheapestLevel.cls yX1_cheapestLevel yX1_cheapestLevel ∈ ab_tb := ab_in (List.mem_append_left _ (List.mem_of_getElem? (i := 22) (by decide +kernel))) (by decide +kernel)
theorem se_X1_levelCost : Cond.selects yX1_levelCost.cls yX1_levelCost yX1_levelCost ∈ ab_tb := ab_in (List.mem_append_left _ (List.mem_of_getElem? (i := 23) (by decide +kernel))) (by decide +kernel)
theorem se_X4_entriesOf : Cond.selects yX4_entriesOf.cls yX4_entriesOf yX4_entriesOf ∈ ab_tb := ab_in (List.mem_append_left _ (List.mem_of_getElem? (i := 24) (by decide +kernel))) (by decide +kernel)
theorem se_X2_find : Cond.selects yX2_find.cls yX2_find yX2_find ∈ ab_tb := ab_in (List.mem_append_left _ (List.mem_of_getElem? (i := 25) (by decide +kernel))) (by decide +kernel)
theorem se_X1_leastCost : Cond.selects yX1_leastCost.cls yX1_leastCost yX1_leastCost ∈ ab_tb := ab_in (List.mem_append_left _ (List.mem_of_getElem? (i := 26) (by decide +kernel))) (by decide +kernel)
theorem se_X2_add : Cond.selects yX2_add.cls yX2_add yX2_add ∈ ab_tb := ab_in (List.mem_append_left _ (List.mem_of_getElem? (i := 27) (by decide +kernel))) (by decide +kernel)
theorem se_X1_leastCostToEnd : Cond.selects yX1_leastCostToEnd.cls yX1_leastCostToEnd yX1_leastCostToEnd ∈ ab_tb := ab_in (List.mem_append_left _ (List.mem_of_getElem? (i := 28) (by decide +kernel))) (by decide +kernel)
theorem se_X2_costAwake : Cond.selects yX2_costAwake.cls yX2_costAwake yX2_costAwake ∈ ab_tb := ab_in (List.mem_append_left _ (List.mem_of_getElem? (i := 29) (by decide +kernel))) (by decide +kernel)
theorem se_X2_sumOf : Cond.selects yX2_sumOf.cls yX2_sumOf yX2_sumOf ∈ ab_tb := ab_in (List.mem_append_left _ (List.mem_of_getElem? (i := 30) (by decide +kernel))) (by decide +kernel)
theorem se_X2_savedByAll : Cond.selects yX2_savedByAll.cls yX2_savedByAll yX2_savedByAll ∈ ab_tb := ab_in (List.mem_append_left _ (List.mem_of_getElem? (i := 31) (by decide +kernel))) (by decide +kernel)
theorem se_X2_worthSleeping : Cond.selects yX2_worthSleeping.cls yX2_worthSleeping yX2_worthSleeping ∈ ab_tb := ab_in (List.mem_append_left _ (List.mem_of_getElem? (i := 32) (by decide +kernel))) (by decide +kernel)
theorem se_X2_savedByFew : Cond.selects yX2_savedByFew.cls yX2_savedByFew yX2_savedByFew ∈ ab_tb := ab_in (List.mem_append_left _ (List.mem_of_getElem? (i := 33) (by decide +kernel))) (by decide +kernel)
theorem se_X2_betterOfSameDay : Cond.selects yX2_betterOfSameDay.cls yX2_betterOfSameDay yX2_betterOfSameDay ∈ ab_tb := ab_in (List.mem_append_left _ (List.mem_of_getElem? (i := 34) (by decide +kernel))) (by decide +kernel)
theorem se_X1_costByPolicy : Cond.selects yX1_costByPolicy.cls yX1_costByPolicy yX1_costByPolicy ∈ ab_tb := ab_in (List.mem_append_left _ (List.mem_of_getElem? (i := 35) (by decide +kernel))) (by decide +kernel)
theorem se_X1_worstTicks : Cond.selects yX1_worstTicks.cls yX1_worstTicks yX1_worstTicks ∈ ab_tb := ab_in (List.mem_append_left _ (List.mem_of_getElem? (i := 36) (by decide +kernel))) (by decide +kernel)
theorem se_X1_agesDrawn : Cond.selects yX1_agesDrawn.cls yX1_agesDrawn yX1_agesDrawn ∈ ab_tb := ab_in (List.mem_append_left _ (List.mem_of_getElem? (i := 37) (by decide +kernel))) (by decide +kernel)
theorem se_X1_costOfAllDrawn : Cond.selects yX1_costOfAllDrawn.cls yX1_costOfAllDrawn yX1_costOfAllDrawn ∈ ab_tb := ab_in (List.mem_append_left _ (List.mem_of_getElem? (i := 38) (by decide +kernel))) (by decide +kernel)
theorem se_X4_energyOfAll : Cond.selects yX4_energyOfAll.cls yX4_energyOfAll yX4_energyOfAll ∈ ab_tb := ab_in (List.mem_append_left _ (List.mem_of_getElem? (i := 39) (by decide +kernel))) (by decide +kernel)
theorem se_X5_copyFrom : Cond.selects yX5_copyFrom.cls yX5_copyFrom yX5_copyFrom ∈ ab_tb := ab_in (List.mem_append_left _ (List.mem_of_getElem? (i := 40) (by decide +kernel))) (by decide +kernel)
theorem se_X1_copyFrom : Cond.selects yX1_copyFrom.cls yX1_copyFrom yX1_copyFrom ∈ ab_tb := ab_in (List.mem_append_left _ (List.mem_of_getElem? (i := 41) (by decide +kernel))) (by decide +kernel)
theorem se_X3_copyFrom : Cond.selects yX3_copyFrom.cls yX3_copyFrom yX3_copyFrom ∈ ab_tb := ab_in (List.mem_append_left _ (List.mem_of_getElem? (i := 42) (by decide +kernel))) (by decide +kernel)
theorem se_X7_wakeOf : Cond.selects yX7_wakeOf.cls yX7_wakeOf yX7_wakeOf ∈ ab_tb := ab_in (List.mem_append_left _ (List.mem_of_getElem? (i := 43) (by decide +kernel))) (by decide +kernel)
theorem se_X7_isRequest : Cond.selects yX7_isRequest.cls yX7_isRequest yX7_isRequest ∈ ab_tb := ab_in (List.mem_append_left _ (List.mem_of_getElem? (i := 44) (by decide +kernel))) (by decide +kernel)
theorem se_X7_run : Cond.selects yX7_run.cls yX7_run yX7_run ∈ ab_tb := ab_in (List.mem_append_left _ (List.mem_of_getElem? (i := 45) (by decide +kernel))) (by decide +kernel)
theorem se_X7_meet : Cond.selects yX7_meet.cls yX7_meet yX7_meet ∈ ab_tb := ab_in (List.mem_append_left _ (List.mem_of_getElem? (i := 46) (by decide +kernel))) (by decide +kernel)
theorem se_X7_sleeps : Cond.selects yX7_sleeps.cls yX7_sleeps yX7_sleeps ∈ ab_tb := ab_in (List.mem_append_left _ (List.mem_of_getElem? (i := 47) (by decide +kernel))) (by decide +kernel)
theorem se_X7_wake : Cond.selects yX7_wake.cls yX7_wake yX7_wake ∈ ab_tb := ab_in (List.mem_append_left _ (List.mem_of_getElem? (i := 48) (by decide +kernel))) (by decide +kernel)
theorem se_X7_keepBusy : Cond.selects yX7_keepBusy.cls yX7_keepBusy yX7_keepBusy ∈ ab_tb := ab_in (List.mem_append_left _ (List.mem_of_getElem? (i := 49) (by decide +kernel))) (by decide +kernel)
theorem se_X7_levelFor : Cond.selects yX7_levelFor.cls yX7_levelFor yX7_levelFor ∈ ab_tb := ab_in (List.mem_append_left _ (List.mem_of_getElem? (i := 50) (by decide +kernel))) (by decide +kernel)
theorem se_X7_bestFor : Cond.selects yX7_bestFor.cls yX7_bestFor yX7_bestFor ∈ ab_tb := ab_in (List.mem_append_left _ (List.mem_of_getElem? (i := 51) (by decide +kernel))) (by decide +kernel)
theorem se_X7_costWith : Cond.selects yX7_costWith.cls yX7_costWith yX7_costWith ∈ ab_tb := ab_in (List.mem_append_left _ (List.mem_of_getElem? (i := 52) (by decide +kernel))) (by decide +kernel)
theorem se_X7_guessOf : Cond.selects yX7_guessOf.cls yX7_guessOf yX7_guessOf ∈ ab_tb := ab_in (List.mem_append_left _ (List.mem_of_getElem? (i := 53) (by decide +kernel))) (by decide +kernel)
theorem se_X7_stayOf : Cond.selects yX7_stayOf.cls yX7_stayOf yX7_stayOf ∈ ab_tb := ab_in (List.mem_append_left _ (List.mem_of_getElem? (i := 54) (by decide +kernel))) (by decide +kernel)
theorem se_X7_layGaps : Cond.selects yX7_layGaps.cls yX7_layGaps yX7_layGaps ∈ ab_tb := ab_in (List.mem_append_left _ (List.mem_of_getElem? (i := 55) (by decide +kernel))) (by decide +kernel)
theorem se_X7_nextAsked : Cond.selects yX7_nextAsked.cls yX7_nextAsked yX7_nextAsked ∈ ab_tb := ab_in (List.mem_append_left _ (List.mem_of_getElem? (i := 56) (by decide +kernel))) (by decide +kernel)
theorem se_X7_leastToEnd : Cond.selects yX7_leastToEnd.cls yX7_leastToEnd yX7_leastToEnd ∈ ab_tb := ab_in (List.mem_append_left _ (List.mem_of_getElem? (i := 57) (by decide +kernel))) (by decide +kernel)
theorem se_X7_leastOf : Cond.selects yX7_leastOf.cls yX7_leastOf yX7_leastOf ∈ ab_tb := ab_in (List.mem_append_left _ (List.mem_of_getElem? (i := 58) (by decide +kernel))) (by decide +kernel)
theorem se_X7_dearest : Cond.selects yX7_dearest.cls yX7_dearest yX7_dearest ∈ ab_tb := ab_in (List.mem_append_left _ (List.mem_of_getElem? (i := 59) (by decide +kernel))) (by decide +kernel)
theorem se_X7_costOf : Cond.selects yX7_costOf.cls yX7_costOf yX7_costOf ∈ ab_tb := ab_in (List.mem_append_left _ (List.mem_of_getElem? (i := 60) (by decide +kernel))) (by decide +kernel)
def mX6_init : ab_M := (RX6, yX6_init, cX6_init, 2, none)
theorem okX6_init : ab_Ok mX6_init 0 := ⟨ab_in (List.mem_append_right _ (List.mem_of_getElem? (i := 15) (by decide +kernel))) (by decide +kernel), in_X6, by decide +kernel, by decide +kernel, by decide +kernel⟩
theorem co_obj : Cond.code objectInit ⟨#[0xb1]⟩ 1 none ∈ ab_tb := ab_in (List.mem_append_right _ (List.mem_of_getElem? (i := 18) (by decide +kernel))) (by decide +kernel)
def mX5_init : ab_M := (RX5, yX5_init, cX5_init, 2, none)
theorem okX5_init : ab_Ok mX5_init 0 := ⟨ab_in (List.mem_append_right _ (List.mem_of_getElem? (i := 23) (by decide +kernel))) (by decide +kernel), in_X5, by decide +kernel, by decide +kernel, by decide +kernel⟩
def mX3_init : ab_M := (RX3, yX3_init, cX3_init, 1, none)
theorem okX3_init : ab_Ok mX3_init 0 := ⟨ab_in (List.mem_append_right _ (List.mem_of_getElem? (i := 31) (by decide +kernel))) (by decide +kernel), in_X3, by decide +kernel, by decide +kernel, by decide +kernel⟩
def mX1_init : ab_M := (RX1, yX1_init, cX1_init, 1, none)
theorem okX1_init : ab_Ok mX1_init 0 := ⟨ab_in (List.mem_append_right _ (List.mem_of_getElem? (i := 61) (by decide +kernel))) (by decide +kernel), in_X1, by decide +kernel, by decide +kernel, by decide +kernel⟩
def mX4_init : ab_M := (RX4, yX4_init, cX4_init, 2, none)
theorem okX4_init : ab_Ok mX4_init 0 := ⟨ab_in (List.mem_append_right _ (List.mem_of_getElem? (i := 115) (by decide +kernel))) (by decide +kernel), in_X4, by decide +kernel, by decide +kernel, by decide +kernel⟩
def mX0_init : ab_M := (RX0, yX0_init, cX0_init, 1, none)
theorem okX0_init : ab_Ok mX0_init 0 := ⟨ab_in (List.mem_append_right _ (List.mem_of_getElem? (i := 122) (by decide +kernel))) (by decide +kernel), in_X0, by decide +kernel, by decide +kernel, by decide +kernel⟩
def mX2_init : ab_M := (RX2, yX2_init, cX2_init, 1, none)
theorem okX2_init : ab_Ok mX2_init 0 := ⟨ab_in (List.mem_append_right _ (List.mem_of_getElem? (i := 208) (by decide +kernel))) (by decide +kernel), in_X2, by decide +kernel, by decide +kernel, by decide +kernel⟩
def mX6_power : ab_M := (RX6, yX6_power, cX6_power, 5, (some .int))
theorem okX6_power : ab_Ok mX6_power 2 := ⟨ab_in (List.mem_append_right _ (List.mem_of_getElem? (i := 246) (by decide +kernel))) (by decide +kernel), in_X6, by decide +kernel, by decide +kernel, by decide +kernel⟩
def mX6_isDisk : ab_M := (RX6, yX6_isDisk, cX6_isDisk, 1, (some .boolean))
theorem okX6_isDisk : ab_Ok mX6_isDisk 1 := ⟨ab_in (List.mem_append_right _ (List.mem_of_getElem? (i := 249) (by decide +kernel))) (by decide +kernel), in_X6, by decide +kernel, by decide +kernel, by decide +kernel⟩
def mX6_within : ab_M := (RX6, yX6_within, cX6_within, 3, (some .boolean))
theorem okX6_within : ab_Ok mX6_within 3 := ⟨ab_in (List.mem_append_right _ (List.mem_of_getElem? (i := 252) (by decide +kernel))) (by decide +kernel), in_X6, by decide +kernel, by decide +kernel, by decide +kernel⟩
def mX4_makeStale : ab_M := (RX4, yX4_makeStale, cX4_makeStale, 1, none)
theorem okX4_makeStale : ab_Ok mX4_makeStale 0 := ⟨ab_in (List.mem_append_right _ (List.mem_of_getElem? (i := 256) (by decide +kernel))) (by decide +kernel), in_X4, by decide +kernel, by decide +kernel, by decide +kernel⟩
def mX6_deeper : ab_M := (RX6, yX6_deeper, cX6_deeper, 5, (some .int))
theorem okX6_deeper : ab_Ok mX6_deeper 3 := ⟨ab_in (List.mem_append_right _ (List.mem_of_getElem? (i := 260) (by decide +kernel))) (by decide +kernel), in_X6, by decide +kernel, by decide +kernel, by decide +kernel⟩
def mX1_addLevel : ab_M := (RX1, yX1_addLevel, cX1_addLevel, 3, none)
theorem okX1_addLevel : ab_Ok mX1_addLevel 2 := ⟨ab_in (List.mem_append_right _ (List.mem_of_getElem? (i := 264) (by decide +kernel))) (by decide +kernel), in_X1, by decide +kernel, by decide +kernel, by decide +kernel⟩
def mX6_level : ab_M := (RX6, yX6_level, cX6_level, 4, (some .int))
theorem okX6_level : ab_Ok mX6_level 3 := ⟨ab_in (List.mem_append_right _ (List.mem_of_getElem? (i := 268) (by decide +kernel))) (by decide +kernel), in_X6, by decide +kernel, by decide +kernel, by decide +kernel⟩
def mX1_hasLevel : ab_M := (RX1, yX1_hasLevel, cX1_hasLevel, 2, (some .boolean))
theorem okX1_hasLevel : ab_Ok mX1_hasLevel 1 := ⟨ab_in (List.mem_append_right _ (List.mem_of_getElem? (i := 272) (by decide +kernel))) (by decide +kernel), in_X1, by decide +kernel, by decide +kernel, by decide +kernel⟩
def mX6_policy : ab_M := (RX6, yX6_policy, cX6_policy, 6, (some .int))
theorem okX6_policy : ab_Ok mX6_policy 3 := ⟨ab_in (List.mem_append_right _ (List.mem_of_getElem? (i := 277) (by decide +kernel))) (by decide +kernel), in_X6, by decide +kernel, by decide +kernel, by decide +kernel⟩
def mX6_isPolicy : ab_M := (RX6, yX6_isPolicy, cX6_isPolicy, 2, (some .boolean))
theorem okX6_isPolicy : ab_Ok mX6_isPolicy 2 := ⟨ab_in (List.mem_append_right _ (List.mem_of_getElem? (i := 280) (by decide +kernel))) (by decide +kernel), in_X6, by decide +kernel, by decide +kernel, by decide +kernel⟩
def mX6_request : ab_M := (RX6, yX6_request, cX6_request, 4, (some .int))
theorem okX6_request : ab_Ok mX6_request 3 := ⟨ab_in (List.mem_append_right _ (List.mem_of_getElem? (i := 284) (by decide +kernel))) (by decide +kernel), in_X6, by decide +kernel, by decide +kernel, by decide +kernel⟩
def mX3_add : ab_M := (RX3, yX3_add, cX3_add, 4, none)
theorem okX3_add : ab_Ok mX3_add 3 := ⟨ab_in (List.mem_append_right _ (List.mem_of_getElem? (i := 288) (by decide +kernel))) (by decide +kernel), in_X3, by decide +kernel, by decide +kernel, by decide +kernel⟩
def mX6_forget : ab_M := (RX6, yX6_forget, cX6_forget, 2, (some .int))
theorem okX6_forget : ab_Ok mX6_forget 1 := ⟨ab_in (List.mem_append_right _ (List.mem_of_getElem? (i := 292) (by decide +kernel))) (by decide +kernel), in_X6, by decide +kernel, by decide +kernel, by decide +kernel⟩
def mX3_has : ab_M := (RX3, yX3_has, cX3_has, 2, (some .boolean))
theorem okX3_has : ab_Ok mX3_has 1 := ⟨ab_in (List.mem_append_right _ (List.mem_of_getElem? (i := 296) (by decide +kernel))) (by decide +kernel), in_X3, by decide +kernel, by decide +kernel, by decide +kernel⟩
def mX3_drop : ab_M := (RX3, yX3_drop, cX3_drop, 3, none)
theorem okX3_drop : ab_Ok mX3_drop 1 := ⟨ab_in (List.mem_append_right _ (List.mem_of_getElem? (i := 301) (by decide +kernel))) (by decide +kernel), in_X3, by decide +kernel, by decide +kernel, by decide +kernel⟩
def mX6_told : ab_M := (RX6, yX6_told, cX6_told, 3, (some .int))
theorem okX6_told : ab_Ok mX6_told 2 := ⟨ab_in (List.mem_append_right _ (List.mem_of_getElem? (i := 305) (by decide +kernel))) (by decide +kernel), in_X6, by decide +kernel, by decide +kernel, by decide +kernel⟩
def mX6_end : ab_M := (RX6, yX6_end, cX6_end, 3, (some .int))
theorem okX6_end : ab_Ok mX6_end 1 := ⟨ab_in (List.mem_append_right _ (List.mem_of_getElem? (i := 309) (by decide +kernel))) (by decide +kernel), in_X6, by decide +kernel, by decide +kernel, by decide +kernel⟩
def mX6_journal : ab_M := (RX6, yX6_journal, cX6_journal, 3, (some .int))
theorem okX6_journal : ab_Ok mX6_journal 1 := ⟨ab_in (List.mem_append_right _ (List.mem_of_getElem? (i := 313) (by decide +kernel))) (by decide +kernel), in_X6, by decide +kernel, by decide +kernel, by decide +kernel⟩
def mX6_disk : ab_M := (RX6, yX6_disk, cX6_disk, 4, (some .int))
theorem okX6_disk : ab_Ok mX6_disk 2 := ⟨ab_in (List.mem_append_right _ (List.mem_of_getElem? (i := 317) (by decide +kernel))) (by decide +kernel), in_X6, by decide +kernel, by decide +kernel, by decide +kernel⟩
def mX6_wholeRun : ab_M := (RX6, yX6_wholeRun, cX6_wholeRun, 1, (some (.object "DiskRests$Run")))
theorem okX6_wholeRun : ab_Ok mX6_wholeRun 0 := ⟨ab_in (List.mem_append_right _ (List.mem_of_getElem? (i := 321) (by decide +kernel))) (by decide +kernel), in_X6, by decide +kernel, by decide +kernel, by decide +kernel⟩
def mX4_goOnTo : ab_M := (RX4, yX4_goOnTo, cX4_goOnTo, 5, none)
theorem okX4_goOnTo : ab_Ok mX4_goOnTo 2 := ⟨ab_in (List.mem_append_right _ (List.mem_of_getElem? (i := 325) (by decide +kernel))) (by decide +kernel), in_X4, by decide +kernel, by decide +kernel, by decide +kernel⟩
def mX4_begin : ab_M := (RX4, yX4_begin, cX4_begin, 3, none)
theorem okX4_begin : ab_Ok mX4_begin 1 := ⟨ab_in (List.mem_append_right _ (List.mem_of_getElem? (i := 329) (by decide +kernel))) (by decide +kernel), in_X4, by decide +kernel, by decide +kernel, by decide +kernel⟩
def mX0_begin : ab_M := (RX0, yX0_begin, cX0_begin, 1, none)
theorem okX0_begin : ab_Ok mX0_begin 0 := ⟨ab_in (List.mem_append_right _ (List.mem_of_getElem? (i := 333) (by decide +kernel))) (by decide +kernel), in_X0, by decide +kernel, by decide +kernel, by decide +kernel⟩
def mX3_putInOrder : ab_M := (RX3, yX3_putInOrder, cX3_putInOrder, 4, none)
theorem okX3_putInOrder : ab_Ok mX3_putInOrder 1 := ⟨ab_in (List.mem_append_right _ (List.mem_of_getElem? (i := 337) (by decide +kernel))) (by decide +kernel), in_X3, by decide +kernel, by decide +kernel, by decide +kernel⟩
def mX4_serveAllOf : ab_M := (RX4, yX4_serveAllOf, cX4_serveAllOf, 5, none)
theorem okX4_serveAllOf : ab_Ok mX4_serveAllOf 2 := ⟨ab_in (List.mem_append_right _ (List.mem_of_getElem? (i := 341) (by decide +kernel))) (by decide +kernel), in_X4, by decide +kernel, by decide +kernel, by decide +kernel⟩
def mX4_serve : ab_M := (RX4, yX4_serve, cX4_serve, 7, none)
theorem okX4_serve : ab_Ok mX4_serve 2 := ⟨ab_in (List.mem_append_right _ (List.mem_of_getElem? (i := 345) (by decide +kernel))) (by decide +kernel), in_X4, by decide +kernel, by decide +kernel, by decide +kernel⟩
def mX0_sleeps : ab_M := (RX0, yX0_sleeps, cX0_sleeps, 1, (some .boolean))
theorem okX0_sleeps : ab_Ok mX0_sleeps 0 := ⟨ab_in (List.mem_append_right _ (List.mem_of_getElem? (i := 349) (by decide +kernel))) (by decide +kernel), in_X0, by decide +kernel, by decide +kernel, by decide +kernel⟩
theorem co_minJ : Cond.code Lib.Math.min.name Lib.Math.min.code 2 (some .int) ∈ ab_tb := ab_in (List.mem_append_right _ (List.mem_of_getElem? (i := 352) (by decide +kernel))) (by decide +kernel)
def mX4_enter : ab_M := (RX4, yX4_enter, cX4_enter, 3, none)
theorem okX4_enter : ab_Ok mX4_enter 2 := ⟨ab_in (List.mem_append_right _ (List.mem_of_getElem? (i := 356) (by decide +kernel))) (by decide +kernel), in_X4, by decide +kernel, by decide +kernel, by decide +kernel⟩
theorem co_maxJ : Cond.code Lib.Math.max.name Lib.Math.max.code 2 (some .int) ∈ ab_tb := ab_in (List.mem_append_right _ (List.mem_of_getElem? (i := 359) (by decide +kernel))) (by decide +kernel)
def mX4_wakeUp : ab_M := (RX4, yX4_wakeUp, cX4_wakeUp, 4, none)
theorem okX4_wakeUp : ab_Ok mX4_wakeUp 2 := ⟨ab_in (List.mem_append_right _ (List.mem_of_getElem? (i := 363) (by decide +kernel))) (by decide +kernel), in_X4, by decide +kernel, by decide +kernel, by decide +kernel⟩
def mX4_letEntriesLeave : ab_M := (RX4, yX4_letEntriesLeave, cX4_letEntriesLeave, 6, none)
theorem okX4_letEntriesLeave : ab_Ok mX4_letEntriesLeave 2 := ⟨ab_in (List.mem_append_right _ (List.mem_of_getElem? (i := 367) (by decide +kernel))) (by decide +kernel), in_X4, by decide +kernel, by decide +kernel, by decide +kernel⟩
def mX1_restsForGuess : ab_M := (RX1, yX1_restsForGuess, cX1_restsForGuess, 1, (some .int))
theorem okX1_restsForGuess : ab_Ok mX1_restsForGuess 0 := ⟨ab_in (List.mem_append_right _ (List.mem_of_getElem? (i := 371) (by decide +kernel))) (by decide +kernel), in_X1, by decide +kernel, by decide +kernel, by decide +kernel⟩
def mX0_becomeBusy : ab_M := (RX0, yX0_becomeBusy, cX0_becomeBusy, 2, none)
theorem okX0_becomeBusy : ab_Ok mX0_becomeBusy 1 := ⟨ab_in (List.mem_append_right _ (List.mem_of_getElem? (i := 375) (by decide +kernel))) (by decide +kernel), in_X0, by decide +kernel, by decide +kernel, by decide +kernel⟩
def mX0_meanOfLast : ab_M := (RX0, yX0_meanOfLast, cX0_meanOfLast, 5, (some .int))
theorem okX0_meanOfLast : ab_Ok mX0_meanOfLast 1 := ⟨ab_in (List.mem_append_right _ (List.mem_of_getElem? (i := 379) (by decide +kernel))) (by decide +kernel), in_X0, by decide +kernel, by decide +kernel, by decide +kernel⟩
def mX0_passTick : ab_M := (RX0, yX0_passTick, cX0_passTick, 2, none)
theorem okX0_passTick : ab_Ok mX0_passTick 1 := ⟨ab_in (List.mem_append_right _ (List.mem_of_getElem? (i := 383) (by decide +kernel))) (by decide +kernel), in_X0, by decide +kernel, by decide +kernel, by decide +kernel⟩
def mX1_levelFor : ab_M := (RX1, yX1_levelFor, cX1_levelFor, 3, (some .int))
theorem okX1_levelFor : ab_Ok mX1_levelFor 2 := ⟨ab_in (List.mem_append_right _ (List.mem_of_getElem? (i := 387) (by decide +kernel))) (by decide +kernel), in_X1, by decide +kernel, by decide +kernel, by decide +kernel⟩
def mX1_cheapestLevel : ab_M := (RX1, yX1_cheapestLevel, cX1_cheapestLevel, 4, (some .int))
theorem okX1_cheapestLevel : ab_Ok mX1_cheapestLevel 1 := ⟨ab_in (List.mem_append_right _ (List.mem_of_getElem? (i := 393) (by decide +kernel))) (by decide +kernel), in_X1, by decide +kernel, by decide +kernel, by decide +kernel⟩
def mX1_levelCost : ab_M := (RX1, yX1_levelCost, cX1_levelCost, 3, (some .int))
theorem okX1_levelCost : ab_Ok mX1_levelCost 2 := ⟨ab_in (List.mem_append_right _ (List.mem_of_getElem? (i := 397) (by decide +kernel))) (by decide +kernel), in_X1, by decide +kernel, by decide +kernel, by decide +kernel⟩
def mX4_entriesOf : ab_M := (RX4, yX4_entriesOf, cX4_entriesOf, 5, (some .int))
theorem okX4_entriesOf : ab_Ok mX4_entriesOf 2 := ⟨ab_in (List.mem_append_right _ (List.mem_of_getElem? (i := 401) (by decide +kernel))) (by decide +kernel), in_X4, by decide +kernel, by decide +kernel, by decide +kernel⟩
def mX6_at : ab_M := (RX6, yX6_at, cX6_at, 5, (some .int))
theorem okX6_at : ab_Ok mX6_at 3 := ⟨ab_in (List.mem_append_right _ (List.mem_of_getElem? (i := 405) (by decide +kernel))) (by decide +kernel), in_X6, by decide +kernel, by decide +kernel, by decide +kernel⟩
def mX6_fate : ab_M := (RX6, yX6_fate, cX6_fate, 2, (some .int))
theorem okX6_fate : ab_Ok mX6_fate 1 := ⟨ab_in (List.mem_append_right _ (List.mem_of_getElem? (i := 409) (by decide +kernel))) (by decide +kernel), in_X6, by decide +kernel, by decide +kernel, by decide +kernel⟩
def mX6_waiting : ab_M := (RX6, yX6_waiting, cX6_waiting, 3, (some .int))
theorem okX6_waiting : ab_Ok mX6_waiting 1 := ⟨ab_in (List.mem_append_right _ (List.mem_of_getElem? (i := 413) (by decide +kernel))) (by decide +kernel), in_X6, by decide +kernel, by decide +kernel, by decide +kernel⟩
def mX6_least : ab_M := (RX6, yX6_least, cX6_least, 3, (some .int))
theorem okX6_least : ab_Ok mX6_least 2 := ⟨ab_in (List.mem_append_right _ (List.mem_of_getElem? (i := 417) (by decide +kernel))) (by decide +kernel), in_X6, by decide +kernel, by decide +kernel, by decide +kernel⟩
def mX2_find : ab_M := (RX2, yX2_find, cX2_find, 8, none)
theorem okX2_find : ab_Ok mX2_find 2 := ⟨ab_in (List.mem_append_right _ (List.mem_of_getElem? (i := 421) (by decide +kernel))) (by decide +kernel), in_X2, by decide +kernel, by decide +kernel, by decide +kernel⟩
def mX1_leastCost : ab_M := (RX1, yX1_leastCost, cX1_leastCost, 2, (some .int))
theorem okX1_leastCost : ab_Ok mX1_leastCost 1 := ⟨ab_in (List.mem_append_right _ (List.mem_of_getElem? (i := 426) (by decide +kernel))) (by decide +kernel), in_X1, by decide +kernel, by decide +kernel, by decide +kernel⟩
def mX2_add : ab_M := (RX2, yX2_add, cX2_add, 4, none)
theorem okX2_add : ab_Ok mX2_add 3 := ⟨ab_in (List.mem_append_right _ (List.mem_of_getElem? (i := 430) (by decide +kernel))) (by decide +kernel), in_X2, by decide +kernel, by decide +kernel, by decide +kernel⟩
def mX1_leastCostToEnd : ab_M := (RX1, yX1_leastCostToEnd, cX1_leastCostToEnd, 2, (some .int))
theorem okX1_leastCostToEnd : ab_Ok mX1_leastCostToEnd 1 := ⟨ab_in (List.mem_append_right _ (List.mem_of_getElem? (i := 434) (by decide +kernel))) (by decide +kernel), in_X1, by decide +kernel, by decide +kernel, by decide +kernel⟩
def mX2_costAwake : ab_M := (RX2, yX2_costAwake, cX2_costAwake, 1, (some .int))
theorem okX2_costAwake : ab_Ok mX2_costAwake 0 := ⟨ab_in (List.mem_append_right _ (List.mem_of_getElem? (i := 438) (by decide +kernel))) (by decide +kernel), in_X2, by decide +kernel, by decide +kernel, by decide +kernel⟩
def mX2_sumOf : ab_M := (RX2, yX2_sumOf, cX2_sumOf, 4, (some .int))
theorem okX2_sumOf : ab_Ok mX2_sumOf 1 := ⟨ab_in (List.mem_append_right _ (List.mem_of_getElem? (i := 442) (by decide +kernel))) (by decide +kernel), in_X2, by decide +kernel, by decide +kernel, by decide +kernel⟩
def mX2_savedByAll : ab_M := (RX2, yX2_savedByAll, cX2_savedByAll, 1, (some .int))
theorem okX2_savedByAll : ab_Ok mX2_savedByAll 0 := ⟨ab_in (List.mem_append_right _ (List.mem_of_getElem? (i := 446) (by decide +kernel))) (by decide +kernel), in_X2, by decide +kernel, by decide +kernel, by decide +kernel⟩
def mX2_worthSleeping : ab_M := (RX2, yX2_worthSleeping, cX2_worthSleeping, 3, (some .int))
theorem okX2_worthSleeping : ab_Ok mX2_worthSleeping 0 := ⟨ab_in (List.mem_append_right _ (List.mem_of_getElem? (i := 450) (by decide +kernel))) (by decide +kernel), in_X2, by decide +kernel, by decide +kernel, by decide +kernel⟩
def mX6_limited : ab_M := (RX6, yX6_limited, cX6_limited, 4, (some .int))
theorem okX6_limited : ab_Ok mX6_limited 3 := ⟨ab_in (List.mem_append_right _ (List.mem_of_getElem? (i := 454) (by decide +kernel))) (by decide +kernel), in_X6, by decide +kernel, by decide +kernel, by decide +kernel⟩
def mX2_savedByFew : ab_M := (RX2, yX2_savedByFew, cX2_savedByFew, 5, (some .int))
theorem okX2_savedByFew : ab_Ok mX2_savedByFew 2 := ⟨ab_in (List.mem_append_right _ (List.mem_of_getElem? (i := 458) (by decide +kernel))) (by decide +kernel), in_X2, by decide +kernel, by decide +kernel, by decide +kernel⟩
def mX2_betterOfSameDay : ab_M := (RX2, yX2_betterOfSameDay, cX2_betterOfSameDay, 6, (some .int))
theorem okX2_betterOfSameDay : ab_Ok mX2_betterOfSameDay 2 := ⟨ab_in (List.mem_append_right _ (List.mem_of_getElem? (i := 463) (by decide +kernel))) (by decide +kernel), in_X2, by decide +kernel, by decide +kernel, by decide +kernel⟩
def mX6_costs : ab_M := (RX6, yX6_costs, cX6_costs, 3, (some .int))
theorem okX6_costs : ab_Ok mX6_costs 2 := ⟨ab_in (List.mem_append_right _ (List.mem_of_getElem? (i := 467) (by decide +kernel))) (by decide +kernel), in_X6, by decide +kernel, by decide +kernel, by decide +kernel⟩
def mX1_costByPolicy : ab_M := (RX1, yX1_costByPolicy, cX1_costByPolicy, 5, (some .int))
theorem okX1_costByPolicy : ab_Ok mX1_costByPolicy 1 := ⟨ab_in (List.mem_append_right _ (List.mem_of_getElem? (i := 471) (by decide +kernel))) (by decide +kernel), in_X1, by decide +kernel, by decide +kernel, by decide +kernel⟩
def mX6_worst : ab_M := (RX6, yX6_worst, cX6_worst, 6, (some .int))
theorem okX6_worst : ab_Ok mX6_worst 3 := ⟨ab_in (List.mem_append_right _ (List.mem_of_getElem? (i := 476) (by decide +kernel))) (by decide +kernel), in_X6, by decide +kernel, by decide +kernel, by decide +kernel⟩
def mX1_worstTicks : ab_M := (RX1, yX1_worstTicks, cX1_worstTicks, 14, (some .int))
theorem okX1_worstTicks : ab_Ok mX1_worstTicks 1 := ⟨ab_in (List.mem_append_right _ (List.mem_of_getElem? (i := 480) (by decide +kernel))) (by decide +kernel), in_X1, by decide +kernel, by decide +kernel, by decide +kernel⟩
def mX6_partOfFraction : ab_M := (RX6, yX6_partOfFraction, cX6_partOfFraction, 4, (some .int))
theorem okX6_partOfFraction : ab_Ok mX6_partOfFraction 3 := ⟨ab_in (List.mem_append_right _ (List.mem_of_getElem? (i := 485) (by decide +kernel))) (by decide +kernel), in_X6, by decide +kernel, by decide +kernel, by decide +kernel⟩
def mX6_commonDivisor : ab_M := (RX6, yX6_commonDivisor, cX6_commonDivisor, 6, (some .int))
theorem okX6_commonDivisor : ab_Ok mX6_commonDivisor 2 := ⟨ab_in (List.mem_append_right _ (List.mem_of_getElem? (i := 488) (by decide +kernel))) (by decide +kernel), in_X6, by decide +kernel, by decide +kernel, by decide +kernel⟩
def mX6_drawn : ab_M := (RX6, yX6_drawn, cX6_drawn, 6, (some .int))
theorem okX6_drawn : ab_Ok mX6_drawn 4 := ⟨ab_in (List.mem_append_right _ (List.mem_of_getElem? (i := 493) (by decide +kernel))) (by decide +kernel), in_X6, by decide +kernel, by decide +kernel, by decide +kernel⟩
def mX1_agesDrawn : ab_M := (RX1, yX1_agesDrawn, cX1_agesDrawn, 3, (some .int))
theorem okX1_agesDrawn : ab_Ok mX1_agesDrawn 1 := ⟨ab_in (List.mem_append_right _ (List.mem_of_getElem? (i := 497) (by decide +kernel))) (by decide +kernel), in_X1, by decide +kernel, by decide +kernel, by decide +kernel⟩
def mX1_costOfAllDrawn : ab_M := (RX1, yX1_costOfAllDrawn, cX1_costOfAllDrawn, 6, (some .int))
theorem okX1_costOfAllDrawn : ab_Ok mX1_costOfAllDrawn 3 := ⟨ab_in (List.mem_append_right _ (List.mem_of_getElem? (i := 501) (by decide +kernel))) (by decide +kernel), in_X1, by decide +kernel, by decide +kernel, by decide +kernel⟩
def mX6_count : ab_M := (RX6, yX6_count, cX6_count, 2, (some .int))
theorem okX6_count : ab_Ok mX6_count 1 := ⟨ab_in (List.mem_append_right _ (List.mem_of_getElem? (i := 505) (by decide +kernel))) (by decide +kernel), in_X6, by decide +kernel, by decide +kernel, by decide +kernel⟩
def mX4_energyOfAll : ab_M := (RX4, yX4_energyOfAll, cX4_energyOfAll, 3, (some .int))
theorem okX4_energyOfAll : ab_Ok mX4_energyOfAll 0 := ⟨ab_in (List.mem_append_right _ (List.mem_of_getElem? (i := 509) (by decide +kernel))) (by decide +kernel), in_X4, by decide +kernel, by decide +kernel, by decide +kernel⟩
def mX6_image : ab_M := (RX6, yX6_image, cX6_image, 2, (some .int))
theorem okX6_image : ab_Ok mX6_image 1 := ⟨ab_in (List.mem_append_right _ (List.mem_of_getElem? (i := 513) (by decide +kernel))) (by decide +kernel), in_X6, by decide +kernel, by decide +kernel, by decide +kernel⟩
def mX5_copyFrom : ab_M := (RX5, yX5_copyFrom, cX5_copyFrom, 3, none)
theorem okX5_copyFrom : ab_Ok mX5_copyFrom 1 := ⟨ab_in (List.mem_append_right _ (List.mem_of_getElem? (i := 517) (by decide +kernel))) (by decide +kernel), in_X5, by decide +kernel, by decide +kernel, by decide +kernel⟩
def mX1_copyFrom : ab_M := (RX1, yX1_copyFrom, cX1_copyFrom, 2, none)
theorem okX1_copyFrom : ab_Ok mX1_copyFrom 1 := ⟨ab_in (List.mem_append_right _ (List.mem_of_getElem? (i := 521) (by decide +kernel))) (by decide +kernel), in_X1, by decide +kernel, by decide +kernel, by decide +kernel⟩
def mX3_copyFrom : ab_M := (RX3, yX3_copyFrom, cX3_copyFrom, 2, none)
theorem okX3_copyFrom : ab_Ok mX3_copyFrom 1 := ⟨ab_in (List.mem_append_right _ (List.mem_of_getElem? (i := 528) (by decide +kernel))) (by decide +kernel), in_X3, by decide +kernel, by decide +kernel, by decide +kernel⟩
def mX6_restore : ab_M := (RX6, yX6_restore, cX6_restore, 2, (some .int))
theorem okX6_restore : ab_Ok mX6_restore 1 := ⟨ab_in (List.mem_append_right _ (List.mem_of_getElem? (i := 533) (by decide +kernel))) (by decide +kernel), in_X6, by decide +kernel, by decide +kernel, by decide +kernel⟩
def mX7_init : ab_M := (RX7, yX7_init, cX7_init, 2, none)
theorem okX7_init : ab_Ok mX7_init 0 := ⟨ab_in (List.mem_append_right _ (List.mem_of_getElem? (i := 538) (by decide +kernel))) (by decide +kernel), in_X7, by decide +kernel, by decide +kernel, by decide +kernel⟩
def mX7_power : ab_M := (RX7, yX7_power, cX7_power, 4, (some .int))
theorem okX7_power : ab_Ok mX7_power 2 := ⟨ab_in (List.mem_append_right _ (List.mem_of_getElem? (i := 637) (by decide +kernel))) (by decide +kernel), in_X7, by decide +kernel, by decide +kernel, by decide +kernel⟩
def mX7_isDisk : ab_M := (RX7, yX7_isDisk, cX7_isDisk, 1, (some .boolean))
theorem okX7_isDisk : ab_Ok mX7_isDisk 1 := ⟨ab_in (List.mem_append_right _ (List.mem_of_getElem? (i := 640) (by decide +kernel))) (by decide +kernel), in_X7, by decide +kernel, by decide +kernel, by decide +kernel⟩
def mX7_in : ab_M := (RX7, yX7_in, cX7_in, 3, (some .boolean))
theorem okX7_in : ab_Ok mX7_in 3 := ⟨ab_in (List.mem_append_right _ (List.mem_of_getElem? (i := 643) (by decide +kernel))) (by decide +kernel), in_X7, by decide +kernel, by decide +kernel, by decide +kernel⟩
def mX7_deeper : ab_M := (RX7, yX7_deeper, cX7_deeper, 5, (some .int))
theorem okX7_deeper : ab_Ok mX7_deeper 3 := ⟨ab_in (List.mem_append_right _ (List.mem_of_getElem? (i := 647) (by decide +kernel))) (by decide +kernel), in_X7, by decide +kernel, by decide +kernel, by decide +kernel⟩
def mX7_wakeOf : ab_M := (RX7, yX7_wakeOf, cX7_wakeOf, 3, (some .int))
theorem okX7_wakeOf : ab_Ok mX7_wakeOf 2 := ⟨ab_in (List.mem_append_right _ (List.mem_of_getElem? (i := 651) (by decide +kernel))) (by decide +kernel), in_X7, by decide +kernel, by decide +kernel, by decide +kernel⟩
def mX7_level : ab_M := (RX7, yX7_level, cX7_level, 4, (some .int))
theorem okX7_level : ab_Ok mX7_level 3 := ⟨ab_in (List.mem_append_right _ (List.mem_of_getElem? (i := 655) (by decide +kernel))) (by decide +kernel), in_X7, by decide +kernel, by decide +kernel, by decide +kernel⟩
def mX7_policy : ab_M := (RX7, yX7_policy, cX7_policy, 5, (some .int))
theorem okX7_policy : ab_Ok mX7_policy 3 := ⟨ab_in (List.mem_append_right _ (List.mem_of_getElem? (i := 659) (by decide +kernel))) (by decide +kernel), in_X7, by decide +kernel, by decide +kernel, by decide +kernel⟩
def mX7_request : ab_M := (RX7, yX7_request, cX7_request, 4, (some .int))
theorem okX7_request : ab_Ok mX7_request 3 := ⟨ab_in (List.mem_append_right _ (List.mem_of_getElem? (i := 663) (by decide +kernel))) (by decide +kernel), in_X7, by decide +kernel, by decide +kernel, by decide +kernel⟩
def mX7_forget : ab_M := (RX7, yX7_forget, cX7_forget, 3, (some .int))
theorem okX7_forget : ab_Ok mX7_forget 1 := ⟨ab_in (List.mem_append_right _ (List.mem_of_getElem? (i := 667) (by decide +kernel))) (by decide +kernel), in_X7, by decide +kernel, by decide +kernel, by decide +kernel⟩
def mX7_isRequest : ab_M := (RX7, yX7_isRequest, cX7_isRequest, 2, (some .boolean))
theorem okX7_isRequest : ab_Ok mX7_isRequest 1 := ⟨ab_in (List.mem_append_right _ (List.mem_of_getElem? (i := 671) (by decide +kernel))) (by decide +kernel), in_X7, by decide +kernel, by decide +kernel, by decide +kernel⟩
def mX7_told : ab_M := (RX7, yX7_told, cX7_told, 3, (some .int))
theorem okX7_told : ab_Ok mX7_told 2 := ⟨ab_in (List.mem_append_right _ (List.mem_of_getElem? (i := 675) (by decide +kernel))) (by decide +kernel), in_X7, by decide +kernel, by decide +kernel, by decide +kernel⟩
def mX7_end : ab_M := (RX7, yX7_end, cX7_end, 3, (some .int))
theorem okX7_end : ab_Ok mX7_end 1 := ⟨ab_in (List.mem_append_right _ (List.mem_of_getElem? (i := 679) (by decide +kernel))) (by decide +kernel), in_X7, by decide +kernel, by decide +kernel, by decide +kernel⟩
def mX7_journal : ab_M := (RX7, yX7_journal, cX7_journal, 3, (some .int))
theorem okX7_journal : ab_Ok mX7_journal 1 := ⟨ab_in (List.mem_append_right _ (List.mem_of_getElem? (i := 683) (by decide +kernel))) (by decide +kernel), in_X7, by decide +kernel, by decide +kernel, by decide +kernel⟩
def mX7_disk : ab_M := (RX7, yX7_disk, cX7_disk, 3, (some .int))
theorem okX7_disk : ab_Ok mX7_disk 2 := ⟨ab_in (List.mem_append_right _ (List.mem_of_getElem? (i := 687) (by decide +kernel))) (by decide +kernel), in_X7, by decide +kernel, by decide +kernel, by decide +kernel⟩
def mX7_run : ab_M := (RX7, yX7_run, cX7_run, 4, none)
theorem okX7_run : ab_Ok mX7_run 1 := ⟨ab_in (List.mem_append_right _ (List.mem_of_getElem? (i := 691) (by decide +kernel))) (by decide +kernel), in_X7, by decide +kernel, by decide +kernel, by decide +kernel⟩
def mX7_meet : ab_M := (RX7, yX7_meet, cX7_meet, 5, none)
theorem okX7_meet : ab_Ok mX7_meet 1 := ⟨ab_in (List.mem_append_right _ (List.mem_of_getElem? (i := 695) (by decide +kernel))) (by decide +kernel), in_X7, by decide +kernel, by decide +kernel, by decide +kernel⟩
def mX7_sleeps : ab_M := (RX7, yX7_sleeps, cX7_sleeps, 2, (some .boolean))
theorem okX7_sleeps : ab_Ok mX7_sleeps 1 := ⟨ab_in (List.mem_append_right _ (List.mem_of_getElem? (i := 699) (by decide +kernel))) (by decide +kernel), in_X7, by decide +kernel, by decide +kernel, by decide +kernel⟩
def mX7_wake : ab_M := (RX7, yX7_wake, cX7_wake, 4, none)
theorem okX7_wake : ab_Ok mX7_wake 1 := ⟨ab_in (List.mem_append_right _ (List.mem_of_getElem? (i := 703) (by decide +kernel))) (by decide +kernel), in_X7, by decide +kernel, by decide +kernel, by decide +kernel⟩
def mX7_keepBusy : ab_M := (RX7, yX7_keepBusy, cX7_keepBusy, 2, none)
theorem okX7_keepBusy : ab_Ok mX7_keepBusy 1 := ⟨ab_in (List.mem_append_right _ (List.mem_of_getElem? (i := 707) (by decide +kernel))) (by decide +kernel), in_X7, by decide +kernel, by decide +kernel, by decide +kernel⟩
def mX7_levelFor : ab_M := (RX7, yX7_levelFor, cX7_levelFor, 3, (some .int))
theorem okX7_levelFor : ab_Ok mX7_levelFor 2 := ⟨ab_in (List.mem_append_right _ (List.mem_of_getElem? (i := 711) (by decide +kernel))) (by decide +kernel), in_X7, by decide +kernel, by decide +kernel, by decide +kernel⟩
def mX7_bestFor : ab_M := (RX7, yX7_bestFor, cX7_bestFor, 5, (some .int))
theorem okX7_bestFor : ab_Ok mX7_bestFor 2 := ⟨ab_in (List.mem_append_right _ (List.mem_of_getElem? (i := 715) (by decide +kernel))) (by decide +kernel), in_X7, by decide +kernel, by decide +kernel, by decide +kernel⟩
def mX7_costWith : ab_M := (RX7, yX7_costWith, cX7_costWith, 4, (some .int))
theorem okX7_costWith : ab_Ok mX7_costWith 3 := ⟨ab_in (List.mem_append_right _ (List.mem_of_getElem? (i := 719) (by decide +kernel))) (by decide +kernel), in_X7, by decide +kernel, by decide +kernel, by decide +kernel⟩
def mX7_guessOf : ab_M := (RX7, yX7_guessOf, cX7_guessOf, 6, (some .int))
theorem okX7_guessOf : ab_Ok mX7_guessOf 2 := ⟨ab_in (List.mem_append_right _ (List.mem_of_getElem? (i := 723) (by decide +kernel))) (by decide +kernel), in_X7, by decide +kernel, by decide +kernel, by decide +kernel⟩
def mX7_stayOf : ab_M := (RX7, yX7_stayOf, cX7_stayOf, 4, (some .int))
theorem okX7_stayOf : ab_Ok mX7_stayOf 1 := ⟨ab_in (List.mem_append_right _ (List.mem_of_getElem? (i := 727) (by decide +kernel))) (by decide +kernel), in_X7, by decide +kernel, by decide +kernel, by decide +kernel⟩
def mX7_at : ab_M := (RX7, yX7_at, cX7_at, 4, (some .int))
theorem okX7_at : ab_Ok mX7_at 3 := ⟨ab_in (List.mem_append_right _ (List.mem_of_getElem? (i := 731) (by decide +kernel))) (by decide +kernel), in_X7, by decide +kernel, by decide +kernel, by decide +kernel⟩
def mX7_fate : ab_M := (RX7, yX7_fate, cX7_fate, 2, (some .int))
theorem okX7_fate : ab_Ok mX7_fate 1 := ⟨ab_in (List.mem_append_right _ (List.mem_of_getElem? (i := 735) (by decide +kernel))) (by decide +kernel), in_X7, by decide +kernel, by decide +kernel, by decide +kernel⟩
def mX7_waiting : ab_M := (RX7, yX7_waiting, cX7_waiting, 2, (some .int))
theorem okX7_waiting : ab_Ok mX7_waiting 1 := ⟨ab_in (List.mem_append_right _ (List.mem_of_getElem? (i := 739) (by decide +kernel))) (by decide +kernel), in_X7, by decide +kernel, by decide +kernel, by decide +kernel⟩
def mX7_least : ab_M := (RX7, yX7_least, cX7_least, 8, (some .int))
theorem okX7_least : ab_Ok mX7_least 2 := ⟨ab_in (List.mem_append_right _ (List.mem_of_getElem? (i := 743) (by decide +kernel))) (by decide +kernel), in_X7, by decide +kernel, by decide +kernel, by decide +kernel⟩
def mX7_layGaps : ab_M := (RX7, yX7_layGaps, cX7_layGaps, 3, none)
theorem okX7_layGaps : ab_Ok mX7_layGaps 1 := ⟨ab_in (List.mem_append_right _ (List.mem_of_getElem? (i := 747) (by decide +kernel))) (by decide +kernel), in_X7, by decide +kernel, by decide +kernel, by decide +kernel⟩
def mX7_nextAsked : ab_M := (RX7, yX7_nextAsked, cX7_nextAsked, 5, (some .int))
theorem okX7_nextAsked : ab_Ok mX7_nextAsked 2 := ⟨ab_in (List.mem_append_right _ (List.mem_of_getElem? (i := 751) (by decide +kernel))) (by decide +kernel), in_X7, by decide +kernel, by decide +kernel, by decide +kernel⟩
def mX7_leastToEnd : ab_M := (RX7, yX7_leastToEnd, cX7_leastToEnd, 5, (some .int))
theorem okX7_leastToEnd : ab_Ok mX7_leastToEnd 2 := ⟨ab_in (List.mem_append_right _ (List.mem_of_getElem? (i := 755) (by decide +kernel))) (by decide +kernel), in_X7, by decide +kernel, by decide +kernel, by decide +kernel⟩
def mX7_leastOf : ab_M := (RX7, yX7_leastOf, cX7_leastOf, 3, (some .int))
theorem okX7_leastOf : ab_Ok mX7_leastOf 2 := ⟨ab_in (List.mem_append_right _ (List.mem_of_getElem? (i := 759) (by decide +kernel))) (by decide +kernel), in_X7, by decide +kernel, by decide +kernel, by decide +kernel⟩
def mX7_limited : ab_M := (RX7, yX7_limited, cX7_limited, 9, (some .int))
theorem okX7_limited : ab_Ok mX7_limited 3 := ⟨ab_in (List.mem_append_right _ (List.mem_of_getElem? (i := 763) (by decide +kernel))) (by decide +kernel), in_X7, by decide +kernel, by decide +kernel, by decide +kernel⟩
def mX7_dearest : ab_M := (RX7, yX7_dearest, cX7_dearest, 9, (some .int))
theorem okX7_dearest : ab_Ok mX7_dearest 3 := ⟨ab_in (List.mem_append_right _ (List.mem_of_getElem? (i := 767) (by decide +kernel))) (by decide +kernel), in_X7, by decide +kernel, by decide +kernel, by decide +kernel⟩
def mX7_costs : ab_M := (RX7, yX7_costs, cX7_costs, 3, (some .int))
theorem okX7_costs : ab_Ok mX7_costs 2 := ⟨ab_in (List.mem_append_right _ (List.mem_of_getElem? (i := 771) (by decide +kernel))) (by decide +kernel), in_X7, by decide +kernel, by decide +kernel, by decide +kernel⟩
def mX7_costOf : ab_M := (RX7, yX7_costOf, cX7_costOf, 6, (some .int))
theorem okX7_costOf : ab_Ok mX7_costOf 2 := ⟨ab_in (List.mem_append_right _ (List.mem_of_getElem? (i := 775) (by decide +kernel))) (by decide +kernel), in_X7, by decide +kernel, by decide +kernel, by decide +kernel⟩
def mX7_worst : ab_M := (RX7, yX7_worst, cX7_worst, 12, (some .int))
theorem okX7_worst : ab_Ok mX7_worst 3 := ⟨ab_in (List.mem_append_right _ (List.mem_of_getElem? (i := 779) (by decide +kernel))) (by decide +kernel), in_X7, by decide +kernel, by decide +kernel, by decide +kernel⟩
def mX7_part : ab_M := (RX7, yX7_part, cX7_part, 4, (some .int))
theorem okX7_part : ab_Ok mX7_part 3 := ⟨ab_in (List.mem_append_right _ (List.mem_of_getElem? (i := 782) (by decide +kernel))) (by decide +kernel), in_X7, by decide +kernel, by decide +kernel, by decide +kernel⟩
def mX7_common : ab_M := (RX7, yX7_common, cX7_common, 6, (some .int))
theorem okX7_common : ab_Ok mX7_common 2 := ⟨ab_in (List.mem_append_right _ (List.mem_of_getElem? (i := 785) (by decide +kernel))) (by decide +kernel), in_X7, by decide +kernel, by decide +kernel, by decide +kernel⟩
def mX7_drawn : ab_M := (RX7, yX7_drawn, cX7_drawn, 9, (some .int))
theorem okX7_drawn : ab_Ok mX7_drawn 4 := ⟨ab_in (List.mem_append_right _ (List.mem_of_getElem? (i := 789) (by decide +kernel))) (by decide +kernel), in_X7, by decide +kernel, by decide +kernel, by decide +kernel⟩
def mX7_count : ab_M := (RX7, yX7_count, cX7_count, 2, (some .int))
theorem okX7_count : ab_Ok mX7_count 1 := ⟨ab_in (List.mem_append_right _ (List.mem_of_getElem? (i := 793) (by decide +kernel))) (by decide +kernel), in_X7, by decide +kernel, by decide +kernel, by decide +kernel⟩
def mX7_image : ab_M := (RX7, yX7_image, cX7_image, 5, (some .int))
theorem okX7_image : ab_Ok mX7_image 1 := ⟨ab_in (List.mem_append_right _ (List.mem_of_getElem? (i := 797) (by decide +kernel))) (by decide +kernel), in_X7, by decide +kernel, by decide +kernel, by decide +kernel⟩
def mX7_restore : ab_M := (RX7, yX7_restore, cX7_restore, 5, (some .int))
theorem okX7_restore : ab_Ok mX7_restore 1 := ⟨ab_in (List.mem_append_right _ (List.mem_of_getElem? (i := 801) (by decide +kernel))) (by decide +kernel), in_X7, by decide +kernel, by decide +kernel, by decide +kernel⟩
end
