-- ===== PART A: goes FIRST, ahead of the names: the tables' words, and 'selects' of the private methods out of them =====
/-- a private method of a class that the tables say can be made, by its rows of tables_1 -/
def lw_okq (q : MethodName × Nat) : Prop := (q.1.cls ≠ "java/lang/invoke/MethodHandle" ∧ q.1.cls ≠ "java/lang/invoke/VarHandle") ∧ Cond.instantiable q.1.cls q.2 ∈ tables_1 ∧ Cond.privateMethod q.1 ∈ tables_1 ∧ Cond.instanceMethod q.1 ∈ tables_1
theorem lw_p0 : lw_okq (⟨"DiskRests$Run", "makeStale", "()V"⟩, 9) := ⟨⟨by decide +kernel, by decide +kernel⟩, List.mem_of_getElem? (i := 112) (by decide +kernel), List.mem_of_getElem? (i := 254) (by decide +kernel), List.mem_of_getElem? (i := 255) (by decide +kernel)⟩
theorem lw_p1 : lw_okq (⟨"DiskRests$Disk", "addLevel", "(II)V"⟩, 5) := ⟨⟨by decide +kernel, by decide +kernel⟩, List.mem_of_getElem? (i := 58) (by decide +kernel), List.mem_of_getElem? (i := 262) (by decide +kernel), List.mem_of_getElem? (i := 263) (by decide +kernel)⟩
theorem lw_p2 : lw_okq (⟨"DiskRests$Disk", "hasLevel", "(I)Z"⟩, 5) := ⟨⟨by decide +kernel, by decide +kernel⟩, List.mem_of_getElem? (i := 58) (by decide +kernel), List.mem_of_getElem? (i := 270) (by decide +kernel), List.mem_of_getElem? (i := 271) (by decide +kernel)⟩
theorem lw_p3 : lw_okq (⟨"DiskRests$Requests", "add", "(III)V"⟩, 4) := ⟨⟨by decide +kernel, by decide +kernel⟩, List.mem_of_getElem? (i := 28) (by decide +kernel), List.mem_of_getElem? (i := 286) (by decide +kernel), List.mem_of_getElem? (i := 287) (by decide +kernel)⟩
theorem lw_p4 : lw_okq (⟨"DiskRests$Requests", "has", "(I)Z"⟩, 4) := ⟨⟨by decide +kernel, by decide +kernel⟩, List.mem_of_getElem? (i := 28) (by decide +kernel), List.mem_of_getElem? (i := 294) (by decide +kernel), List.mem_of_getElem? (i := 295) (by decide +kernel)⟩
theorem lw_p5 : lw_okq (⟨"DiskRests$Requests", "drop", "(I)V"⟩, 4) := ⟨⟨by decide +kernel, by decide +kernel⟩, List.mem_of_getElem? (i := 28) (by decide +kernel), List.mem_of_getElem? (i := 299) (by decide +kernel), List.mem_of_getElem? (i := 300) (by decide +kernel)⟩
theorem lw_p6 : lw_okq (⟨"DiskRests", "wholeRun", "()LDiskRests$Run;"⟩, 5) := ⟨⟨by decide +kernel, by decide +kernel⟩, List.mem_of_getElem? (i := 12) (by decide +kernel), List.mem_of_getElem? (i := 319) (by decide +kernel), List.mem_of_getElem? (i := 320) (by decide +kernel)⟩
theorem lw_p7 : lw_okq (⟨"DiskRests$Run", "goOnTo", "(LDiskRests$Setup;I)V"⟩, 9) := ⟨⟨by decide +kernel, by decide +kernel⟩, List.mem_of_getElem? (i := 112) (by decide +kernel), List.mem_of_getElem? (i := 323) (by decide +kernel), List.mem_of_getElem? (i := 324) (by decide +kernel)⟩
theorem lw_p8 : lw_okq (⟨"DiskRests$Run", "begin", "(LDiskRests$Requests;)V"⟩, 9) := ⟨⟨by decide +kernel, by decide +kernel⟩, List.mem_of_getElem? (i := 112) (by decide +kernel), List.mem_of_getElem? (i := 327) (by decide +kernel), List.mem_of_getElem? (i := 328) (by decide +kernel)⟩
theorem lw_p9 : lw_okq (⟨"DiskRests$Course", "begin", "()V"⟩, 10) := ⟨⟨by decide +kernel, by decide +kernel⟩, List.mem_of_getElem? (i := 119) (by decide +kernel), List.mem_of_getElem? (i := 331) (by decide +kernel), List.mem_of_getElem? (i := 332) (by decide +kernel)⟩
theorem lw_p10 : lw_okq (⟨"DiskRests$Requests", "putInOrder", "([I)V"⟩, 4) := ⟨⟨by decide +kernel, by decide +kernel⟩, List.mem_of_getElem? (i := 28) (by decide +kernel), List.mem_of_getElem? (i := 335) (by decide +kernel), List.mem_of_getElem? (i := 336) (by decide +kernel)⟩
theorem lw_p11 : lw_okq (⟨"DiskRests$Run", "serveAllOf", "(LDiskRests$Setup;I)V"⟩, 9) := ⟨⟨by decide +kernel, by decide +kernel⟩, List.mem_of_getElem? (i := 112) (by decide +kernel), List.mem_of_getElem? (i := 339) (by decide +kernel), List.mem_of_getElem? (i := 340) (by decide +kernel)⟩
theorem lw_p12 : lw_okq (⟨"DiskRests$Run", "serve", "(LDiskRests$Setup;I)V"⟩, 9) := ⟨⟨by decide +kernel, by decide +kernel⟩, List.mem_of_getElem? (i := 112) (by decide +kernel), List.mem_of_getElem? (i := 343) (by decide +kernel), List.mem_of_getElem? (i := 344) (by decide +kernel)⟩
theorem lw_p13 : lw_okq (⟨"DiskRests$Course", "sleeps", "()Z"⟩, 10) := ⟨⟨by decide +kernel, by decide +kernel⟩, List.mem_of_getElem? (i := 119) (by decide +kernel), List.mem_of_getElem? (i := 347) (by decide +kernel), List.mem_of_getElem? (i := 348) (by decide +kernel)⟩
theorem lw_p14 : lw_okq (⟨"DiskRests$Run", "enter", "(LDiskRests$Course;I)V"⟩, 9) := ⟨⟨by decide +kernel, by decide +kernel⟩, List.mem_of_getElem? (i := 112) (by decide +kernel), List.mem_of_getElem? (i := 354) (by decide +kernel), List.mem_of_getElem? (i := 355) (by decide +kernel)⟩
theorem lw_p15 : lw_okq (⟨"DiskRests$Run", "wakeUp", "(LDiskRests$Setup;I)V"⟩, 9) := ⟨⟨by decide +kernel, by decide +kernel⟩, List.mem_of_getElem? (i := 112) (by decide +kernel), List.mem_of_getElem? (i := 361) (by decide +kernel), List.mem_of_getElem? (i := 362) (by decide +kernel)⟩
def lw_privs_1 : List (MethodName × Nat) := [(⟨"DiskRests$Run", "makeStale", "()V"⟩, 9), (⟨"DiskRests$Disk", "addLevel", "(II)V"⟩, 5), (⟨"DiskRests$Disk", "hasLevel", "(I)Z"⟩, 5), (⟨"DiskRests$Requests", "add", "(III)V"⟩, 4), (⟨"DiskRests$Requests", "has", "(I)Z"⟩, 4), (⟨"DiskRests$Requests", "drop", "(I)V"⟩, 4), (⟨"DiskRests", "wholeRun", "()LDiskRests$Run;"⟩, 5), (⟨"DiskRests$Run", "goOnTo", "(LDiskRests$Setup;I)V"⟩, 9), (⟨"DiskRests$Run", "begin", "(LDiskRests$Requests;)V"⟩, 9), (⟨"DiskRests$Course", "begin", "()V"⟩, 10), (⟨"DiskRests$Requests", "putInOrder", "([I)V"⟩, 4), (⟨"DiskRests$Run", "serveAllOf", "(LDiskRests$Setup;I)V"⟩, 9), (⟨"DiskRests$Run", "serve", "(LDiskRests$Setup;I)V"⟩, 9), (⟨"DiskRests$Course", "sleeps", "()Z"⟩, 10), (⟨"DiskRests$Run", "enter", "(LDiskRests$Course;I)V"⟩, 9), (⟨"DiskRests$Run", "wakeUp", "(LDiskRests$Setup;I)V"⟩, 9)]
theorem lw_r1 : ∀ q ∈ lw_privs_1, lw_okq q := List.forall_mem_cons.mpr ⟨lw_p0, List.forall_mem_cons.mpr ⟨lw_p1, List.forall_mem_cons.mpr ⟨lw_p2, List.forall_mem_cons.mpr ⟨lw_p3, List.forall_mem_cons.mpr ⟨lw_p4, List.forall_mem_cons.mpr ⟨lw_p5, List.forall_mem_cons.mpr ⟨lw_p6, List.forall_mem_cons.mpr ⟨lw_p7, List.forall_mem_cons.mpr ⟨lw_p8, List.forall_mem_cons.mpr ⟨lw_p9, List.forall_mem_cons.mpr ⟨lw_p10, List.forall_mem_cons.mpr ⟨lw_p11, List.forall_mem_cons.mpr ⟨lw_p12, List.forall_mem_cons.mpr ⟨lw_p13, List.forall_mem_cons.mpr ⟨lw_p14, List.forall_mem_cons.mpr ⟨lw_p15, fun _ h => absurd h List.not_mem_nil⟩⟩⟩⟩⟩⟩⟩⟩⟩⟩⟩⟩⟩⟩⟩⟩
theorem lw_p16 : lw_okq (⟨"DiskRests$Run", "letEntriesLeave", "(LDiskRests$Requests;I)V"⟩, 9) := ⟨⟨by decide +kernel, by decide +kernel⟩, List.mem_of_getElem? (i := 112) (by decide +kernel), List.mem_of_getElem? (i := 365) (by decide +kernel), List.mem_of_getElem? (i := 366) (by decide +kernel)⟩
theorem lw_p17 : lw_okq (⟨"DiskRests$Disk", "restsForGuess", "()I"⟩, 5) := ⟨⟨by decide +kernel, by decide +kernel⟩, List.mem_of_getElem? (i := 58) (by decide +kernel), List.mem_of_getElem? (i := 369) (by decide +kernel), List.mem_of_getElem? (i := 370) (by decide +kernel)⟩
theorem lw_p18 : lw_okq (⟨"DiskRests$Course", "becomeBusy", "(I)V"⟩, 10) := ⟨⟨by decide +kernel, by decide +kernel⟩, List.mem_of_getElem? (i := 119) (by decide +kernel), List.mem_of_getElem? (i := 373) (by decide +kernel), List.mem_of_getElem? (i := 374) (by decide +kernel)⟩
theorem lw_p19 : lw_okq (⟨"DiskRests$Course", "meanOfLast", "(I)I"⟩, 10) := ⟨⟨by decide +kernel, by decide +kernel⟩, List.mem_of_getElem? (i := 119) (by decide +kernel), List.mem_of_getElem? (i := 377) (by decide +kernel), List.mem_of_getElem? (i := 378) (by decide +kernel)⟩
theorem lw_p20 : lw_okq (⟨"DiskRests$Course", "passTick", "(LDiskRests$Disk;)V"⟩, 10) := ⟨⟨by decide +kernel, by decide +kernel⟩, List.mem_of_getElem? (i := 119) (by decide +kernel), List.mem_of_getElem? (i := 381) (by decide +kernel), List.mem_of_getElem? (i := 382) (by decide +kernel)⟩
theorem lw_p21 : lw_okq (⟨"DiskRests$Disk", "levelFor", "(II)I"⟩, 5) := ⟨⟨by decide +kernel, by decide +kernel⟩, List.mem_of_getElem? (i := 58) (by decide +kernel), List.mem_of_getElem? (i := 385) (by decide +kernel), List.mem_of_getElem? (i := 386) (by decide +kernel)⟩
theorem lw_p22 : lw_okq (⟨"DiskRests$Disk", "cheapestLevel", "(I)I"⟩, 5) := ⟨⟨by decide +kernel, by decide +kernel⟩, List.mem_of_getElem? (i := 58) (by decide +kernel), List.mem_of_getElem? (i := 391) (by decide +kernel), List.mem_of_getElem? (i := 392) (by decide +kernel)⟩
theorem lw_p23 : lw_okq (⟨"DiskRests$Disk", "levelCost", "(II)I"⟩, 5) := ⟨⟨by decide +kernel, by decide +kernel⟩, List.mem_of_getElem? (i := 58) (by decide +kernel), List.mem_of_getElem? (i := 395) (by decide +kernel), List.mem_of_getElem? (i := 396) (by decide +kernel)⟩
theorem lw_p24 : lw_okq (⟨"DiskRests$Run", "entriesOf", "(LDiskRests$Requests;I)I"⟩, 9) := ⟨⟨by decide +kernel, by decide +kernel⟩, List.mem_of_getElem? (i := 112) (by decide +kernel), List.mem_of_getElem? (i := 399) (by decide +kernel), List.mem_of_getElem? (i := 400) (by decide +kernel)⟩
theorem lw_p25 : lw_okq (⟨"DiskRests$Gaps", "find", "(LDiskRests$Setup;I)V"⟩, 5) := ⟨⟨by decide +kernel, by decide +kernel⟩, List.mem_of_getElem? (i := 205) (by decide +kernel), List.mem_of_getElem? (i := 419) (by decide +kernel), List.mem_of_getElem? (i := 420) (by decide +kernel)⟩
theorem lw_p26 : lw_okq (⟨"DiskRests$Disk", "leastCost", "(I)I"⟩, 5) := ⟨⟨by decide +kernel, by decide +kernel⟩, List.mem_of_getElem? (i := 58) (by decide +kernel), List.mem_of_getElem? (i := 424) (by decide +kernel), List.mem_of_getElem? (i := 425) (by decide +kernel)⟩
theorem lw_p27 : lw_okq (⟨"DiskRests$Gaps", "add", "(III)V"⟩, 5) := ⟨⟨by decide +kernel, by decide +kernel⟩, List.mem_of_getElem? (i := 205) (by decide +kernel), List.mem_of_getElem? (i := 428) (by decide +kernel), List.mem_of_getElem? (i := 429) (by decide +kernel)⟩
theorem lw_p28 : lw_okq (⟨"DiskRests$Disk", "leastCostToEnd", "(I)I"⟩, 5) := ⟨⟨by decide +kernel, by decide +kernel⟩, List.mem_of_getElem? (i := 58) (by decide +kernel), List.mem_of_getElem? (i := 432) (by decide +kernel), List.mem_of_getElem? (i := 433) (by decide +kernel)⟩
theorem lw_p29 : lw_okq (⟨"DiskRests$Gaps", "costAwake", "()I"⟩, 5) := ⟨⟨by decide +kernel, by decide +kernel⟩, List.mem_of_getElem? (i := 205) (by decide +kernel), List.mem_of_getElem? (i := 436) (by decide +kernel), List.mem_of_getElem? (i := 437) (by decide +kernel)⟩
theorem lw_p30 : lw_okq (⟨"DiskRests$Gaps", "sumOf", "([I)I"⟩, 5) := ⟨⟨by decide +kernel, by decide +kernel⟩, List.mem_of_getElem? (i := 205) (by decide +kernel), List.mem_of_getElem? (i := 440) (by decide +kernel), List.mem_of_getElem? (i := 441) (by decide +kernel)⟩
theorem lw_p31 : lw_okq (⟨"DiskRests$Gaps", "savedByAll", "()I"⟩, 5) := ⟨⟨by decide +kernel, by decide +kernel⟩, List.mem_of_getElem? (i := 205) (by decide +kernel), List.mem_of_getElem? (i := 444) (by decide +kernel), List.mem_of_getElem? (i := 445) (by decide +kernel)⟩
def lw_privs_2 : List (MethodName × Nat) := [(⟨"DiskRests$Run", "letEntriesLeave", "(LDiskRests$Requests;I)V"⟩, 9), (⟨"DiskRests$Disk", "restsForGuess", "()I"⟩, 5), (⟨"DiskRests$Course", "becomeBusy", "(I)V"⟩, 10), (⟨"DiskRests$Course", "meanOfLast", "(I)I"⟩, 10), (⟨"DiskRests$Course", "passTick", "(LDiskRests$Disk;)V"⟩, 10), (⟨"DiskRests$Disk", "levelFor", "(II)I"⟩, 5), (⟨"DiskRests$Disk", "cheapestLevel", "(I)I"⟩, 5), (⟨"DiskRests$Disk", "levelCost", "(II)I"⟩, 5), (⟨"DiskRests$Run", "entriesOf", "(LDiskRests$Requests;I)I"⟩, 9), (⟨"DiskRests$Gaps", "find", "(LDiskRests$Setup;I)V"⟩, 5), (⟨"DiskRests$Disk", "leastCost", "(I)I"⟩, 5), (⟨"DiskRests$Gaps", "add", "(III)V"⟩, 5), (⟨"DiskRests$Disk", "leastCostToEnd", "(I)I"⟩, 5), (⟨"DiskRests$Gaps", "costAwake", "()I"⟩, 5), (⟨"DiskRests$Gaps", "sumOf", "([I)I"⟩, 5), (⟨"DiskRests$Gaps", "savedByAll", "()I"⟩, 5)]
theorem lw_r2 : ∀ q ∈ lw_privs_2, lw_okq q := List.forall_mem_cons.mpr ⟨lw_p16, List.forall_mem_cons.mpr ⟨lw_p17, List.forall_mem_cons.mpr ⟨lw_p18, List.forall_mem_cons.mpr ⟨lw_p19, List.forall_mem_cons.mpr ⟨lw_p20, List.forall_mem_cons.mpr ⟨lw_p21, List.forall_mem_cons.mpr ⟨lw_p22, List.forall_mem_cons.mpr ⟨lw_p23, List.forall_mem_cons.mpr ⟨lw_p24, List.forall_mem_cons.mpr ⟨lw_p25, List.forall_mem_cons.mpr ⟨lw_p26, List.forall_mem_cons.mpr ⟨lw_p27, List.forall_mem_cons.mpr ⟨lw_p28, List.forall_mem_cons.mpr ⟨lw_p29, List.forall_mem_cons.mpr ⟨lw_p30, List.forall_mem_cons.mpr ⟨lw_p31, fun _ h => absurd h List.not_mem_nil⟩⟩⟩⟩⟩⟩⟩⟩⟩⟩⟩⟩⟩⟩⟩⟩
theorem lw_p32 : lw_okq (⟨"DiskRests$Gaps", "worthSleeping", "()I"⟩, 5) := ⟨⟨by decide +kernel, by decide +kernel⟩, List.mem_of_getElem? (i := 205) (by decide +kernel), List.mem_of_getElem? (i := 448) (by decide +kernel), List.mem_of_getElem? (i := 449) (by decide +kernel)⟩
theorem lw_p33 : lw_okq (⟨"DiskRests$Gaps", "savedByFew", "(II)I"⟩, 5) := ⟨⟨by decide +kernel, by decide +kernel⟩, List.mem_of_getElem? (i := 205) (by decide +kernel), List.mem_of_getElem? (i := 456) (by decide +kernel), List.mem_of_getElem? (i := 457) (by decide +kernel)⟩
theorem lw_p34 : lw_okq (⟨"DiskRests$Gaps", "betterOfSameDay", "(II)I"⟩, 5) := ⟨⟨by decide +kernel, by decide +kernel⟩, List.mem_of_getElem? (i := 205) (by decide +kernel), List.mem_of_getElem? (i := 461) (by decide +kernel), List.mem_of_getElem? (i := 462) (by decide +kernel)⟩
theorem lw_p35 : lw_okq (⟨"DiskRests$Disk", "costByPolicy", "(I)I"⟩, 5) := ⟨⟨by decide +kernel, by decide +kernel⟩, List.mem_of_getElem? (i := 58) (by decide +kernel), List.mem_of_getElem? (i := 469) (by decide +kernel), List.mem_of_getElem? (i := 470) (by decide +kernel)⟩
theorem lw_p36 : lw_okq (⟨"DiskRests$Disk", "worstTicks", "(I)I"⟩, 5) := ⟨⟨by decide +kernel, by decide +kernel⟩, List.mem_of_getElem? (i := 58) (by decide +kernel), List.mem_of_getElem? (i := 478) (by decide +kernel), List.mem_of_getElem? (i := 479) (by decide +kernel)⟩
theorem lw_p37 : lw_okq (⟨"DiskRests$Disk", "agesDrawn", "(I)I"⟩, 5) := ⟨⟨by decide +kernel, by decide +kernel⟩, List.mem_of_getElem? (i := 58) (by decide +kernel), List.mem_of_getElem? (i := 495) (by decide +kernel), List.mem_of_getElem? (i := 496) (by decide +kernel)⟩
theorem lw_p38 : lw_okq (⟨"DiskRests$Disk", "costOfAllDrawn", "(III)I"⟩, 5) := ⟨⟨by decide +kernel, by decide +kernel⟩, List.mem_of_getElem? (i := 58) (by decide +kernel), List.mem_of_getElem? (i := 499) (by decide +kernel), List.mem_of_getElem? (i := 500) (by decide +kernel)⟩
theorem lw_p39 : lw_okq (⟨"DiskRests$Run", "energyOfAll", "()I"⟩, 9) := ⟨⟨by decide +kernel, by decide +kernel⟩, List.mem_of_getElem? (i := 112) (by decide +kernel), List.mem_of_getElem? (i := 507) (by decide +kernel), List.mem_of_getElem? (i := 508) (by decide +kernel)⟩
theorem lw_p40 : lw_okq (⟨"DiskRests$Setup", "copyFrom", "(LDiskRests$Setup;)V"⟩, 4) := ⟨⟨by decide +kernel, by decide +kernel⟩, List.mem_of_getElem? (i := 20) (by decide +kernel), List.mem_of_getElem? (i := 515) (by decide +kernel), List.mem_of_getElem? (i := 516) (by decide +kernel)⟩
theorem lw_p41 : lw_okq (⟨"DiskRests$Disk", "copyFrom", "(LDiskRests$Disk;)V"⟩, 5) := ⟨⟨by decide +kernel, by decide +kernel⟩, List.mem_of_getElem? (i := 58) (by decide +kernel), List.mem_of_getElem? (i := 519) (by decide +kernel), List.mem_of_getElem? (i := 520) (by decide +kernel)⟩
theorem lw_p42 : lw_okq (⟨"DiskRests$Requests", "copyFrom", "(LDiskRests$Requests;)V"⟩, 4) := ⟨⟨by decide +kernel, by decide +kernel⟩, List.mem_of_getElem? (i := 28) (by decide +kernel), List.mem_of_getElem? (i := 526) (by decide +kernel), List.mem_of_getElem? (i := 527) (by decide +kernel)⟩
theorem lw_p43 : lw_okq (⟨"DiskRestsModel", "wakeOf", "(II)I"⟩, 31) := ⟨⟨by decide +kernel, by decide +kernel⟩, List.mem_of_getElem? (i := 535) (by decide +kernel), List.mem_of_getElem? (i := 649) (by decide +kernel), List.mem_of_getElem? (i := 650) (by decide +kernel)⟩
theorem lw_p44 : lw_okq (⟨"DiskRestsModel", "isRequest", "(I)Z"⟩, 31) := ⟨⟨by decide +kernel, by decide +kernel⟩, List.mem_of_getElem? (i := 535) (by decide +kernel), List.mem_of_getElem? (i := 669) (by decide +kernel), List.mem_of_getElem? (i := 670) (by decide +kernel)⟩
theorem lw_p45 : lw_okq (⟨"DiskRestsModel", "run", "(I)V"⟩, 31) := ⟨⟨by decide +kernel, by decide +kernel⟩, List.mem_of_getElem? (i := 535) (by decide +kernel), List.mem_of_getElem? (i := 689) (by decide +kernel), List.mem_of_getElem? (i := 690) (by decide +kernel)⟩
theorem lw_p46 : lw_okq (⟨"DiskRestsModel", "meet", "(I)V"⟩, 31) := ⟨⟨by decide +kernel, by decide +kernel⟩, List.mem_of_getElem? (i := 535) (by decide +kernel), List.mem_of_getElem? (i := 693) (by decide +kernel), List.mem_of_getElem? (i := 694) (by decide +kernel)⟩
theorem lw_p47 : lw_okq (⟨"DiskRestsModel", "sleeps", "(I)Z"⟩, 31) := ⟨⟨by decide +kernel, by decide +kernel⟩, List.mem_of_getElem? (i := 535) (by decide +kernel), List.mem_of_getElem? (i := 697) (by decide +kernel), List.mem_of_getElem? (i := 698) (by decide +kernel)⟩
def lw_privs_3 : List (MethodName × Nat) := [(⟨"DiskRests$Gaps", "worthSleeping", "()I"⟩, 5), (⟨"DiskRests$Gaps", "savedByFew", "(II)I"⟩, 5), (⟨"DiskRests$Gaps", "betterOfSameDay", "(II)I"⟩, 5), (⟨"DiskRests$Disk", "costByPolicy", "(I)I"⟩, 5), (⟨"DiskRests$Disk", "worstTicks", "(I)I"⟩, 5), (⟨"DiskRests$Disk", "agesDrawn", "(I)I"⟩, 5), (⟨"DiskRests$Disk", "costOfAllDrawn", "(III)I"⟩, 5), (⟨"DiskRests$Run", "energyOfAll", "()I"⟩, 9), (⟨"DiskRests$Setup", "copyFrom", "(LDiskRests$Setup;)V"⟩, 4), (⟨"DiskRests$Disk", "copyFrom", "(LDiskRests$Disk;)V"⟩, 5), (⟨"DiskRests$Requests", "copyFrom", "(LDiskRests$Requests;)V"⟩, 4), (⟨"DiskRestsModel", "wakeOf", "(II)I"⟩, 31), (⟨"DiskRestsModel", "isRequest", "(I)Z"⟩, 31), (⟨"DiskRestsModel", "run", "(I)V"⟩, 31), (⟨"DiskRestsModel", "meet", "(I)V"⟩, 31), (⟨"DiskRestsModel", "sleeps", "(I)Z"⟩, 31)]
theorem lw_r3 : ∀ q ∈ lw_privs_3, lw_okq q := List.forall_mem_cons.mpr ⟨lw_p32, List.forall_mem_cons.mpr ⟨lw_p33, List.forall_mem_cons.mpr ⟨lw_p34, List.forall_mem_cons.mpr ⟨lw_p35, List.forall_mem_cons.mpr ⟨lw_p36, List.forall_mem_cons.mpr ⟨lw_p37, List.forall_mem_cons.mpr ⟨lw_p38, List.forall_mem_cons.mpr ⟨lw_p39, List.forall_mem_cons.mpr ⟨lw_p40, List.forall_mem_cons.mpr ⟨lw_p41, List.forall_mem_cons.mpr ⟨lw_p42, List.forall_mem_cons.mpr ⟨lw_p43, List.forall_mem_cons.mpr ⟨lw_p44, List.forall_mem_cons.mpr ⟨lw_p45, List.forall_mem_cons.mpr ⟨lw_p46, List.forall_mem_cons.mpr ⟨lw_p47, fun _ h => absurd h List.not_mem_nil⟩⟩⟩⟩⟩⟩⟩⟩⟩⟩⟩⟩⟩⟩⟩⟩
theorem lw_p48 : lw_okq (⟨"DiskRestsModel", "wake", "(I)V"⟩, 31) := ⟨⟨by decide +kernel, by decide +kernel⟩, List.mem_of_getElem? (i := 535) (by decide +kernel), List.mem_of_getElem? (i := 701) (by decide +kernel), List.mem_of_getElem? (i := 702) (by decide +kernel)⟩
theorem lw_p49 : lw_okq (⟨"DiskRestsModel", "keepBusy", "(I)V"⟩, 31) := ⟨⟨by decide +kernel, by decide +kernel⟩, List.mem_of_getElem? (i := 535) (by decide +kernel), List.mem_of_getElem? (i := 705) (by decide +kernel), List.mem_of_getElem? (i := 706) (by decide +kernel)⟩
theorem lw_p50 : lw_okq (⟨"DiskRestsModel", "levelFor", "(II)I"⟩, 31) := ⟨⟨by decide +kernel, by decide +kernel⟩, List.mem_of_getElem? (i := 535) (by decide +kernel), List.mem_of_getElem? (i := 709) (by decide +kernel), List.mem_of_getElem? (i := 710) (by decide +kernel)⟩
theorem lw_p51 : lw_okq (⟨"DiskRestsModel", "bestFor", "(II)I"⟩, 31) := ⟨⟨by decide +kernel, by decide +kernel⟩, List.mem_of_getElem? (i := 535) (by decide +kernel), List.mem_of_getElem? (i := 713) (by decide +kernel), List.mem_of_getElem? (i := 714) (by decide +kernel)⟩
theorem lw_p52 : lw_okq (⟨"DiskRestsModel", "costWith", "(III)I"⟩, 31) := ⟨⟨by decide +kernel, by decide +kernel⟩, List.mem_of_getElem? (i := 535) (by decide +kernel), List.mem_of_getElem? (i := 717) (by decide +kernel), List.mem_of_getElem? (i := 718) (by decide +kernel)⟩
theorem lw_p53 : lw_okq (⟨"DiskRestsModel", "guessOf", "(II)I"⟩, 31) := ⟨⟨by decide +kernel, by decide +kernel⟩, List.mem_of_getElem? (i := 535) (by decide +kernel), List.mem_of_getElem? (i := 721) (by decide +kernel), List.mem_of_getElem? (i := 722) (by decide +kernel)⟩
theorem lw_p54 : lw_okq (⟨"DiskRestsModel", "stayOf", "(I)I"⟩, 31) := ⟨⟨by decide +kernel, by decide +kernel⟩, List.mem_of_getElem? (i := 535) (by decide +kernel), List.mem_of_getElem? (i := 725) (by decide +kernel), List.mem_of_getElem? (i := 726) (by decide +kernel)⟩
theorem lw_p55 : lw_okq (⟨"DiskRestsModel", "layGaps", "(I)V"⟩, 31) := ⟨⟨by decide +kernel, by decide +kernel⟩, List.mem_of_getElem? (i := 535) (by decide +kernel), List.mem_of_getElem? (i := 745) (by decide +kernel), List.mem_of_getElem? (i := 746) (by decide +kernel)⟩
theorem lw_p56 : lw_okq (⟨"DiskRestsModel", "nextAsked", "(II)I"⟩, 31) := ⟨⟨by decide +kernel, by decide +kernel⟩, List.mem_of_getElem? (i := 535) (by decide +kernel), List.mem_of_getElem? (i := 749) (by decide +kernel), List.mem_of_getElem? (i := 750) (by decide +kernel)⟩
theorem lw_p57 : lw_okq (⟨"DiskRestsModel", "leastToEnd", "(II)I"⟩, 31) := ⟨⟨by decide +kernel, by decide +kernel⟩, List.mem_of_getElem? (i := 535) (by decide +kernel), List.mem_of_getElem? (i := 753) (by decide +kernel), List.mem_of_getElem? (i := 754) (by decide +kernel)⟩
theorem lw_p58 : lw_okq (⟨"DiskRestsModel", "leastOf", "(II)I"⟩, 31) := ⟨⟨by decide +kernel, by decide +kernel⟩, List.mem_of_getElem? (i := 535) (by decide +kernel), List.mem_of_getElem? (i := 757) (by decide +kernel), List.mem_of_getElem? (i := 758) (by decide +kernel)⟩
theorem lw_p59 : lw_okq (⟨"DiskRestsModel", "dearest", "(III)I"⟩, 31) := ⟨⟨by decide +kernel, by decide +kernel⟩, List.mem_of_getElem? (i := 535) (by decide +kernel), List.mem_of_getElem? (i := 765) (by decide +kernel), List.mem_of_getElem? (i := 766) (by decide +kernel)⟩
theorem lw_p60 : lw_okq (⟨"DiskRestsModel", "costOf", "(II)I"⟩, 31) := ⟨⟨by decide +kernel, by decide +kernel⟩, List.mem_of_getElem? (i := 535) (by decide +kernel), List.mem_of_getElem? (i := 773) (by decide +kernel), List.mem_of_getElem? (i := 774) (by decide +kernel)⟩
def lw_privs_4 : List (MethodName × Nat) := [(⟨"DiskRestsModel", "wake", "(I)V"⟩, 31), (⟨"DiskRestsModel", "keepBusy", "(I)V"⟩, 31), (⟨"DiskRestsModel", "levelFor", "(II)I"⟩, 31), (⟨"DiskRestsModel", "bestFor", "(II)I"⟩, 31), (⟨"DiskRestsModel", "costWith", "(III)I"⟩, 31), (⟨"DiskRestsModel", "guessOf", "(II)I"⟩, 31), (⟨"DiskRestsModel", "stayOf", "(I)I"⟩, 31), (⟨"DiskRestsModel", "layGaps", "(I)V"⟩, 31), (⟨"DiskRestsModel", "nextAsked", "(II)I"⟩, 31), (⟨"DiskRestsModel", "leastToEnd", "(II)I"⟩, 31), (⟨"DiskRestsModel", "leastOf", "(II)I"⟩, 31), (⟨"DiskRestsModel", "dearest", "(III)I"⟩, 31), (⟨"DiskRestsModel", "costOf", "(II)I"⟩, 31)]
theorem lw_r4 : ∀ q ∈ lw_privs_4, lw_okq q := List.forall_mem_cons.mpr ⟨lw_p48, List.forall_mem_cons.mpr ⟨lw_p49, List.forall_mem_cons.mpr ⟨lw_p50, List.forall_mem_cons.mpr ⟨lw_p51, List.forall_mem_cons.mpr ⟨lw_p52, List.forall_mem_cons.mpr ⟨lw_p53, List.forall_mem_cons.mpr ⟨lw_p54, List.forall_mem_cons.mpr ⟨lw_p55, List.forall_mem_cons.mpr ⟨lw_p56, List.forall_mem_cons.mpr ⟨lw_p57, List.forall_mem_cons.mpr ⟨lw_p58, List.forall_mem_cons.mpr ⟨lw_p59, List.forall_mem_cons.mpr ⟨lw_p60, fun _ h => absurd h List.not_mem_nil⟩⟩⟩⟩⟩⟩⟩⟩⟩⟩⟩⟩⟩
def lw_privs : List (MethodName × Nat) := lw_privs_1 ++ (lw_privs_2 ++ (lw_privs_3 ++ (lw_privs_4)))
def lw_tbl : List Cond := k2_sels lw_privs ++ tables_1
theorem lw_privs_ok : ∀ q ∈ lw_privs, lw_okq q := by
  show ∀ q ∈ lw_privs_1 ++ (lw_privs_2 ++ (lw_privs_3 ++ (lw_privs_4))), lw_okq q
  exact List.forall_mem_append.mpr ⟨lw_r1, List.forall_mem_append.mpr ⟨lw_r2, List.forall_mem_append.mpr ⟨lw_r3, lw_r4⟩⟩⟩
def RX0 : String := "DiskRests$Course"
def TX0 : u_T := fun k => match k with
  | 0 => ("DiskRests$Course", "energy", "I", false)
  | 1 => ("DiskRests$Course", "wakings", "I", false)
  | 2 => ("DiskRests$Course", "reads", "I", false)
  | 3 => ("DiskRests$Course", "busyWrites", "I", false)
  | 4 => ("DiskRests$Course", "journalled", "I", false)
  | 5 => ("DiskRests$Course", "age", "I", false)
  | 6 => ("DiskRests$Course", "levelNow", "I", false)
  | 7 => ("DiskRests$Course", "rests", "[I", true)
  | 8 => ("DiskRests$Course", "restsEnded", "I", false)
  | _ => ("DiskRests$Course", "guess", "I", false)
def tyX0 : Nat → FieldType := fun k => match k with
  | 0 => .int
  | 1 => .int
  | 2 => .int
  | 3 => .int
  | 4 => .int
  | 5 => .int
  | 6 => .int
  | 7 => .array .int
  | 8 => .int
  | _ => .int
theorem nmX0 : ∀ a, a < 10 → ∀ b, b < 10 → a ≠ b → (TX0 a).2.1 ≠ (TX0 b).2.1 := by decide +kernel
theorem tyX0_ok : ∀ k, k < 10 → parseFieldDescriptor (TX0 k).2.2.1 = some (tyX0 k) := by decide +kernel
abbrev cX0_init : ByteArray := prog_2_method_1_code
def yX0_init : MethodName := ⟨RX0, "<init>", "()V"⟩
abbrev cX0_begin : ByteArray := prog_2_method_2_code
def yX0_begin : MethodName := ⟨RX0, "begin", "()V"⟩
abbrev cX0_sleeps : ByteArray := prog_2_method_3_code
def yX0_sleeps : MethodName := ⟨RX0, "sleeps", "()Z"⟩
abbrev cX0_becomeBusy : ByteArray := prog_2_method_4_code
def yX0_becomeBusy : MethodName := ⟨RX0, "becomeBusy", "(I)V"⟩
abbrev cX0_meanOfLast : ByteArray := prog_2_method_5_code
def yX0_meanOfLast : MethodName := ⟨RX0, "meanOfLast", "(I)I"⟩
abbrev cX0_passTick : ByteArray := prog_2_method_6_code
def yX0_passTick : MethodName := ⟨RX0, "passTick", "(LDiskRests$Disk;)V"⟩
def RX1 : String := "DiskRests$Disk"
def TX1 : u_T := fun k => match k with
  | 0 => ("DiskRests$Disk", "powers", "[I", true)
  | 1 => ("DiskRests$Disk", "wakes", "[I", true)
  | 2 => ("DiskRests$Disk", "deepest", "I", false)
  | 3 => ("DiskRests$Disk", "kind", "I", false)
  | _ => ("DiskRests$Disk", "n", "I", false)
def tyX1 : Nat → FieldType := fun k => match k with
  | 0 => .array .int
  | 1 => .array .int
  | 2 => .int
  | 3 => .int
  | _ => .int
theorem nmX1 : ∀ a, a < 5 → ∀ b, b < 5 → a ≠ b → (TX1 a).2.1 ≠ (TX1 b).2.1 := by decide +kernel
theorem tyX1_ok : ∀ k, k < 5 → parseFieldDescriptor (TX1 k).2.2.1 = some (tyX1 k) := by decide +kernel
abbrev cX1_init : ByteArray := prog_3_method_1_code
def yX1_init : MethodName := ⟨RX1, "<init>", "()V"⟩
abbrev cX1_copyFrom : ByteArray := prog_3_method_2_code
def yX1_copyFrom : MethodName := ⟨RX1, "copyFrom", "(LDiskRests$Disk;)V"⟩
abbrev cX1_hasLevel : ByteArray := prog_3_method_3_code
def yX1_hasLevel : MethodName := ⟨RX1, "hasLevel", "(I)Z"⟩
abbrev cX1_addLevel : ByteArray := prog_3_method_4_code
def yX1_addLevel : MethodName := ⟨RX1, "addLevel", "(II)V"⟩
abbrev cX1_restsForGuess : ByteArray := prog_3_method_5_code
def yX1_restsForGuess : MethodName := ⟨RX1, "restsForGuess", "()I"⟩
abbrev cX1_levelFor : ByteArray := prog_3_method_6_code
def yX1_levelFor : MethodName := ⟨RX1, "levelFor", "(II)I"⟩
abbrev cX1_cheapestLevel : ByteArray := prog_3_method_7_code
def yX1_cheapestLevel : MethodName := ⟨RX1, "cheapestLevel", "(I)I"⟩
abbrev cX1_levelCost : ByteArray := prog_3_method_8_code
def yX1_levelCost : MethodName := ⟨RX1, "levelCost", "(II)I"⟩
abbrev cX1_leastCost : ByteArray := prog_3_method_9_code
def yX1_leastCost : MethodName := ⟨RX1, "leastCost", "(I)I"⟩
abbrev cX1_leastCostToEnd : ByteArray := prog_3_method_10_code
def yX1_leastCostToEnd : MethodName := ⟨RX1, "leastCostToEnd", "(I)I"⟩
abbrev cX1_costByPolicy : ByteArray := prog_3_method_11_code
def yX1_costByPolicy : MethodName := ⟨RX1, "costByPolicy", "(I)I"⟩
abbrev cX1_worstTicks : ByteArray := prog_3_method_12_code
def yX1_worstTicks : MethodName := ⟨RX1, "worstTicks", "(I)I"⟩
abbrev cX1_agesDrawn : ByteArray := prog_3_method_13_code
def yX1_agesDrawn : MethodName := ⟨RX1, "agesDrawn", "(I)I"⟩
abbrev cX1_costOfAllDrawn : ByteArray := prog_3_method_14_code
def yX1_costOfAllDrawn : MethodName := ⟨RX1, "costOfAllDrawn", "(III)I"⟩
def RX2 : String := "DiskRests$Gaps"
def TX2 : u_T := fun k => match k with
  | 0 => ("DiskRests$Gaps", "order", "[I", true)
  | 1 => ("DiskRests$Gaps", "lastTicks", "[I", true)
  | 2 => ("DiskRests$Gaps", "awake", "[I", true)
  | 3 => ("DiskRests$Gaps", "saved", "[I", true)
  | _ => ("DiskRests$Gaps", "held", "I", false)
def tyX2 : Nat → FieldType := fun k => match k with
  | 0 => .array .int
  | 1 => .array .int
  | 2 => .array .int
  | 3 => .array .int
  | _ => .int
theorem nmX2 : ∀ a, a < 5 → ∀ b, b < 5 → a ≠ b → (TX2 a).2.1 ≠ (TX2 b).2.1 := by decide +kernel
theorem tyX2_ok : ∀ k, k < 5 → parseFieldDescriptor (TX2 k).2.2.1 = some (tyX2 k) := by decide +kernel
abbrev cX2_init : ByteArray := prog_4_method_1_code
def yX2_init : MethodName := ⟨RX2, "<init>", "()V"⟩
abbrev cX2_find : ByteArray := prog_4_method_2_code
def yX2_find : MethodName := ⟨RX2, "find", "(LDiskRests$Setup;I)V"⟩
abbrev cX2_add : ByteArray := prog_4_method_3_code
def yX2_add : MethodName := ⟨RX2, "add", "(III)V"⟩
abbrev cX2_costAwake : ByteArray := prog_4_method_4_code
def yX2_costAwake : MethodName := ⟨RX2, "costAwake", "()I"⟩
abbrev cX2_savedByAll : ByteArray := prog_4_method_5_code
def yX2_savedByAll : MethodName := ⟨RX2, "savedByAll", "()I"⟩
abbrev cX2_sumOf : ByteArray := prog_4_method_6_code
def yX2_sumOf : MethodName := ⟨RX2, "sumOf", "([I)I"⟩
abbrev cX2_worthSleeping : ByteArray := prog_4_method_7_code
def yX2_worthSleeping : MethodName := ⟨RX2, "worthSleeping", "()I"⟩
abbrev cX2_savedByFew : ByteArray := prog_4_method_8_code
def yX2_savedByFew : MethodName := ⟨RX2, "savedByFew", "(II)I"⟩
abbrev cX2_betterOfSameDay : ByteArray := prog_4_method_9_code
def yX2_betterOfSameDay : MethodName := ⟨RX2, "betterOfSameDay", "(II)I"⟩
def RX3 : String := "DiskRests$Requests"
def TX3 : u_T := fun k => match k with
  | 0 => ("DiskRests$Requests", "ticks", "[I", true)
  | 1 => ("DiskRests$Requests", "disks", "[I", true)
  | 2 => ("DiskRests$Requests", "kinds", "[I", true)
  | _ => ("DiskRests$Requests", "held", "I", false)
def tyX3 : Nat → FieldType := fun k => match k with
  | 0 => .array .int
  | 1 => .array .int
  | 2 => .array .int
  | _ => .int
theorem nmX3 : ∀ a, a < 4 → ∀ b, b < 4 → a ≠ b → (TX3 a).2.1 ≠ (TX3 b).2.1 := by decide +kernel
theorem tyX3_ok : ∀ k, k < 4 → parseFieldDescriptor (TX3 k).2.2.1 = some (tyX3 k) := by decide +kernel
abbrev cX3_init : ByteArray := prog_5_method_1_code
def yX3_init : MethodName := ⟨RX3, "<init>", "()V"⟩
abbrev cX3_copyFrom : ByteArray := prog_5_method_2_code
def yX3_copyFrom : MethodName := ⟨RX3, "copyFrom", "(LDiskRests$Requests;)V"⟩
abbrev cX3_has : ByteArray := prog_5_method_3_code
def yX3_has : MethodName := ⟨RX3, "has", "(I)Z"⟩
abbrev cX3_add : ByteArray := prog_5_method_4_code
def yX3_add : MethodName := ⟨RX3, "add", "(III)V"⟩
abbrev cX3_drop : ByteArray := prog_5_method_5_code
def yX3_drop : MethodName := ⟨RX3, "drop", "(I)V"⟩
abbrev cX3_putInOrder : ByteArray := prog_5_method_6_code
def yX3_putInOrder : MethodName := ⟨RX3, "putInOrder", "([I)V"⟩
def RX4 : String := "DiskRests$Run"
def TX4 : u_T := fun k => match k with
  | 0 => ("DiskRests$Run", "courses", "[LDiskRests$Course;", true)
  | 1 => ("DiskRests$Run", "order", "[I", true)
  | 2 => ("DiskRests$Run", "fates", "[I", true)
  | 3 => ("DiskRests$Run", "entries", "[I", true)
  | 4 => ("DiskRests$Run", "held", "I", false)
  | 5 => ("DiskRests$Run", "most", "I", false)
  | 6 => ("DiskRests$Run", "next", "I", false)
  | 7 => ("DiskRests$Run", "ticksDone", "I", false)
  | _ => ("DiskRests$Run", "stale", "Z", false)
def tyX4 : Nat → FieldType := fun k => match k with
  | 0 => .array (.object "DiskRests$Course")
  | 1 => .array .int
  | 2 => .array .int
  | 3 => .array .int
  | 4 => .int
  | 5 => .int
  | 6 => .int
  | 7 => .int
  | _ => .boolean
theorem nmX4 : ∀ a, a < 9 → ∀ b, b < 9 → a ≠ b → (TX4 a).2.1 ≠ (TX4 b).2.1 := by decide +kernel
theorem tyX4_ok : ∀ k, k < 9 → parseFieldDescriptor (TX4 k).2.2.1 = some (tyX4 k) := by decide +kernel
abbrev cX4_init : ByteArray := prog_6_method_1_code
def yX4_init : MethodName := ⟨RX4, "<init>", "()V"⟩
abbrev cX4_makeStale : ByteArray := prog_6_method_2_code
def yX4_makeStale : MethodName := ⟨RX4, "makeStale", "()V"⟩
abbrev cX4_goOnTo : ByteArray := prog_6_method_3_code
def yX4_goOnTo : MethodName := ⟨RX4, "goOnTo", "(LDiskRests$Setup;I)V"⟩
abbrev cX4_begin : ByteArray := prog_6_method_4_code
def yX4_begin : MethodName := ⟨RX4, "begin", "(LDiskRests$Requests;)V"⟩
abbrev cX4_serveAllOf : ByteArray := prog_6_method_5_code
def yX4_serveAllOf : MethodName := ⟨RX4, "serveAllOf", "(LDiskRests$Setup;I)V"⟩
abbrev cX4_serve : ByteArray := prog_6_method_6_code
def yX4_serve : MethodName := ⟨RX4, "serve", "(LDiskRests$Setup;I)V"⟩
abbrev cX4_enter : ByteArray := prog_6_method_7_code
def yX4_enter : MethodName := ⟨RX4, "enter", "(LDiskRests$Course;I)V"⟩
abbrev cX4_wakeUp : ByteArray := prog_6_method_8_code
def yX4_wakeUp : MethodName := ⟨RX4, "wakeUp", "(LDiskRests$Setup;I)V"⟩
abbrev cX4_letEntriesLeave : ByteArray := prog_6_method_9_code
def yX4_letEntriesLeave : MethodName := ⟨RX4, "letEntriesLeave", "(LDiskRests$Requests;I)V"⟩
abbrev cX4_entriesOf : ByteArray := prog_6_method_10_code
def yX4_entriesOf : MethodName := ⟨RX4, "entriesOf", "(LDiskRests$Requests;I)I"⟩
abbrev cX4_energyOfAll : ByteArray := prog_6_method_11_code
def yX4_energyOfAll : MethodName := ⟨RX4, "energyOfAll", "()I"⟩
def RX5 : String := "DiskRests$Setup"
def TX5 : u_T := fun k => match k with
  | 0 => ("DiskRests$Setup", "disks", "[LDiskRests$Disk;", true)
  | 1 => ("DiskRests$Setup", "requests", "LDiskRests$Requests;", true)
  | 2 => ("DiskRests$Setup", "endTick", "I", false)
  | _ => ("DiskRests$Setup", "room", "I", false)
def tyX5 : Nat → FieldType := fun k => match k with
  | 0 => .array (.object "DiskRests$Disk")
  | 1 => .object "DiskRests$Requests"
  | 2 => .int
  | _ => .int
theorem nmX5 : ∀ a, a < 4 → ∀ b, b < 4 → a ≠ b → (TX5 a).2.1 ≠ (TX5 b).2.1 := by decide +kernel
theorem tyX5_ok : ∀ k, k < 4 → parseFieldDescriptor (TX5 k).2.2.1 = some (tyX5 k) := by decide +kernel
abbrev cX5_init : ByteArray := prog_7_method_1_code
def yX5_init : MethodName := ⟨RX5, "<init>", "()V"⟩
abbrev cX5_copyFrom : ByteArray := prog_7_method_2_code
def yX5_copyFrom : MethodName := ⟨RX5, "copyFrom", "(LDiskRests$Setup;)V"⟩
def RX6 : String := "DiskRests"
def TX6 : u_T := fun k => match k with
  | 0 => ("DiskRests", "setup", "LDiskRests$Setup;", true)
  | 1 => ("DiskRests", "images", "[LDiskRests$Setup;", true)
  | 2 => ("DiskRests", "kept", "[Z", true)
  | 3 => ("DiskRests", "run", "LDiskRests$Run;", true)
  | _ => ("DiskRests", "gaps", "LDiskRests$Gaps;", true)
def tyX6 : Nat → FieldType := fun k => match k with
  | 0 => .object "DiskRests$Setup"
  | 1 => .array (.object "DiskRests$Setup")
  | 2 => .array .boolean
  | 3 => .object "DiskRests$Run"
  | _ => .object "DiskRests$Gaps"
theorem nmX6 : ∀ a, a < 5 → ∀ b, b < 5 → a ≠ b → (TX6 a).2.1 ≠ (TX6 b).2.1 := by decide +kernel
theorem tyX6_ok : ∀ k, k < 5 → parseFieldDescriptor (TX6 k).2.2.1 = some (tyX6 k) := by decide +kernel
abbrev cX6_init : ByteArray := prog_1_method_1_code
def yX6_init : MethodName := ⟨RX6, "<init>", "()V"⟩
abbrev cX6_power : ByteArray := prog_1_method_2_code
def yX6_power : MethodName := ⟨RX6, "power", "(II)I"⟩
abbrev cX6_deeper : ByteArray := prog_1_method_3_code
def yX6_deeper : MethodName := ⟨RX6, "deeper", "(III)I"⟩
abbrev cX6_level : ByteArray := prog_1_method_4_code
def yX6_level : MethodName := ⟨RX6, "level", "(III)I"⟩
abbrev cX6_policy : ByteArray := prog_1_method_5_code
def yX6_policy : MethodName := ⟨RX6, "policy", "(III)I"⟩
abbrev cX6_request : ByteArray := prog_1_method_6_code
def yX6_request : MethodName := ⟨RX6, "request", "(III)I"⟩
abbrev cX6_forget : ByteArray := prog_1_method_7_code
def yX6_forget : MethodName := ⟨RX6, "forget", "(I)I"⟩
abbrev cX6_told : ByteArray := prog_1_method_8_code
def yX6_told : MethodName := ⟨RX6, "told", "(II)I"⟩
abbrev cX6_end : ByteArray := prog_1_method_9_code
def yX6_end : MethodName := ⟨RX6, "end", "(I)I"⟩
abbrev cX6_journal : ByteArray := prog_1_method_10_code
def yX6_journal : MethodName := ⟨RX6, "journal", "(I)I"⟩
abbrev cX6_disk : ByteArray := prog_1_method_11_code
def yX6_disk : MethodName := ⟨RX6, "disk", "(II)I"⟩
abbrev cX6_at : ByteArray := prog_1_method_12_code
def yX6_at : MethodName := ⟨RX6, "at", "(III)I"⟩
abbrev cX6_fate : ByteArray := prog_1_method_13_code
def yX6_fate : MethodName := ⟨RX6, "fate", "(I)I"⟩
abbrev cX6_waiting : ByteArray := prog_1_method_14_code
def yX6_waiting : MethodName := ⟨RX6, "waiting", "(I)I"⟩
abbrev cX6_least : ByteArray := prog_1_method_15_code
def yX6_least : MethodName := ⟨RX6, "least", "(II)I"⟩
abbrev cX6_limited : ByteArray := prog_1_method_16_code
def yX6_limited : MethodName := ⟨RX6, "limited", "(III)I"⟩
abbrev cX6_costs : ByteArray := prog_1_method_17_code
def yX6_costs : MethodName := ⟨RX6, "costs", "(II)I"⟩
abbrev cX6_worst : ByteArray := prog_1_method_18_code
def yX6_worst : MethodName := ⟨RX6, "worst", "(III)I"⟩
abbrev cX6_drawn : ByteArray := prog_1_method_19_code
def yX6_drawn : MethodName := ⟨RX6, "drawn", "(IIII)I"⟩
abbrev cX6_count : ByteArray := prog_1_method_20_code
def yX6_count : MethodName := ⟨RX6, "count", "(I)I"⟩
abbrev cX6_image : ByteArray := prog_1_method_21_code
def yX6_image : MethodName := ⟨RX6, "image", "(I)I"⟩
abbrev cX6_restore : ByteArray := prog_1_method_22_code
def yX6_restore : MethodName := ⟨RX6, "restore", "(I)I"⟩
abbrev cX6_within : ByteArray := prog_1_method_23_code
def yX6_within : MethodName := ⟨RX6, "within", "(III)Z"⟩
abbrev cX6_isDisk : ByteArray := prog_1_method_24_code
def yX6_isDisk : MethodName := ⟨RX6, "isDisk", "(I)Z"⟩
abbrev cX6_isPolicy : ByteArray := prog_1_method_25_code
def yX6_isPolicy : MethodName := ⟨RX6, "isPolicy", "(II)Z"⟩
abbrev cX6_wholeRun : ByteArray := prog_1_method_26_code
def yX6_wholeRun : MethodName := ⟨RX6, "wholeRun", "()LDiskRests$Run;"⟩
abbrev cX6_partOfFraction : ByteArray := prog_1_method_27_code
def yX6_partOfFraction : MethodName := ⟨RX6, "partOfFraction", "(III)I"⟩
abbrev cX6_commonDivisor : ByteArray := prog_1_method_28_code
def yX6_commonDivisor : MethodName := ⟨RX6, "commonDivisor", "(II)I"⟩
def RX7 : String := "DiskRestsModel"
def TX7 : u_T := fun k => match k with
  | 0 => ("DiskRestsModel", "deepest", "[I", true)
  | 1 => ("DiskRestsModel", "powers", "[I", true)
  | 2 => ("DiskRestsModel", "wakes", "[I", true)
  | 3 => ("DiskRestsModel", "kinds", "[I", true)
  | 4 => ("DiskRestsModel", "steps", "[I", true)
  | 5 => ("DiskRestsModel", "many", "I", false)
  | 6 => ("DiskRestsModel", "ticks", "[I", true)
  | 7 => ("DiskRestsModel", "disks", "[I", true)
  | 8 => ("DiskRestsModel", "sorts", "[I", true)
  | 9 => ("DiskRestsModel", "end", "I", false)
  | 10 => ("DiskRestsModel", "room", "I", false)
  | 11 => ("DiskRestsModel", "age", "[I", true)
  | 12 => ("DiskRestsModel", "lastLevel", "[I", true)
  | 13 => ("DiskRestsModel", "energy", "[I", true)
  | 14 => ("DiskRestsModel", "woken", "[I", true)
  | 15 => ("DiskRestsModel", "reads", "[I", true)
  | 16 => ("DiskRestsModel", "writes", "[I", true)
  | 17 => ("DiskRestsModel", "journaled", "[I", true)
  | 18 => ("DiskRestsModel", "rests", "[I", true)
  | 19 => ("DiskRestsModel", "rest", "[I", true)
  | 20 => ("DiskRestsModel", "fates", "[I", true)
  | 21 => ("DiskRestsModel", "lying", "[I", true)
  | 22 => ("DiskRestsModel", "lie", "I", false)
  | 23 => ("DiskRestsModel", "mostLying", "I", false)
  | 24 => ("DiskRestsModel", "seen", "[I", true)
  | 25 => ("DiskRestsModel", "begins", "[I", true)
  | 26 => ("DiskRestsModel", "ends", "[I", true)
  | 27 => ("DiskRestsModel", "gaps", "I", false)
  | 28 => ("DiskRestsModel", "isDone", "[Z", true)
  | 29 => ("DiskRestsModel", "image", "[I", true)
  | _ => ("DiskRestsModel", "isKept", "[Z", true)
def tyX7 : Nat → FieldType := fun k => match k with
  | 0 => .array .int
  | 1 => .array .int
  | 2 => .array .int
  | 3 => .array .int
  | 4 => .array .int
  | 5 => .int
  | 6 => .array .int
  | 7 => .array .int
  | 8 => .array .int
  | 9 => .int
  | 10 => .int
  | 11 => .array .int
  | 12 => .array .int
  | 13 => .array .int
  | 14 => .array .int
  | 15 => .array .int
  | 16 => .array .int
  | 17 => .array .int
  | 18 => .array .int
  | 19 => .array .int
  | 20 => .array .int
  | 21 => .array .int
  | 22 => .int
  | 23 => .int
  | 24 => .array .int
  | 25 => .array .int
  | 26 => .array .int
  | 27 => .int
  | 28 => .array .boolean
  | 29 => .array .int
  | _ => .array .boolean
theorem nmX7 : ∀ a, a < 31 → ∀ b, b < 31 → a ≠ b → (TX7 a).2.1 ≠ (TX7 b).2.1 := by decide +kernel
theorem tyX7_ok : ∀ k, k < 31 → parseFieldDescriptor (TX7 k).2.2.1 = some (tyX7 k) := by decide +kernel
abbrev cX7_init : ByteArray := prog_9_method_1_code
def yX7_init : MethodName := ⟨RX7, "<init>", "()V"⟩
abbrev cX7_in : ByteArray := prog_9_method_2_code
def yX7_in : MethodName := ⟨RX7, "in", "(III)Z"⟩
abbrev cX7_isDisk : ByteArray := prog_9_method_3_code
def yX7_isDisk : MethodName := ⟨RX7, "isDisk", "(I)Z"⟩
abbrev cX7_isRequest : ByteArray := prog_9_method_4_code
def yX7_isRequest : MethodName := ⟨RX7, "isRequest", "(I)Z"⟩
abbrev cX7_power : ByteArray := prog_9_method_5_code
def yX7_power : MethodName := ⟨RX7, "power", "(II)I"⟩
abbrev cX7_deeper : ByteArray := prog_9_method_6_code
def yX7_deeper : MethodName := ⟨RX7, "deeper", "(III)I"⟩
abbrev cX7_wakeOf : ByteArray := prog_9_method_7_code
def yX7_wakeOf : MethodName := ⟨RX7, "wakeOf", "(II)I"⟩
abbrev cX7_level : ByteArray := prog_9_method_8_code
def yX7_level : MethodName := ⟨RX7, "level", "(III)I"⟩
abbrev cX7_policy : ByteArray := prog_9_method_9_code
def yX7_policy : MethodName := ⟨RX7, "policy", "(III)I"⟩
abbrev cX7_request : ByteArray := prog_9_method_10_code
def yX7_request : MethodName := ⟨RX7, "request", "(III)I"⟩
abbrev cX7_forget : ByteArray := prog_9_method_11_code
def yX7_forget : MethodName := ⟨RX7, "forget", "(I)I"⟩
abbrev cX7_told : ByteArray := prog_9_method_12_code
def yX7_told : MethodName := ⟨RX7, "told", "(II)I"⟩
abbrev cX7_end : ByteArray := prog_9_method_13_code
def yX7_end : MethodName := ⟨RX7, "end", "(I)I"⟩
abbrev cX7_journal : ByteArray := prog_9_method_14_code
def yX7_journal : MethodName := ⟨RX7, "journal", "(I)I"⟩
abbrev cX7_guessOf : ByteArray := prog_9_method_15_code
def yX7_guessOf : MethodName := ⟨RX7, "guessOf", "(II)I"⟩
abbrev cX7_bestFor : ByteArray := prog_9_method_16_code
def yX7_bestFor : MethodName := ⟨RX7, "bestFor", "(II)I"⟩
abbrev cX7_costWith : ByteArray := prog_9_method_17_code
def yX7_costWith : MethodName := ⟨RX7, "costWith", "(III)I"⟩
abbrev cX7_levelFor : ByteArray := prog_9_method_18_code
def yX7_levelFor : MethodName := ⟨RX7, "levelFor", "(II)I"⟩
abbrev cX7_sleeps : ByteArray := prog_9_method_19_code
def yX7_sleeps : MethodName := ⟨RX7, "sleeps", "(I)Z"⟩
abbrev cX7_wake : ByteArray := prog_9_method_20_code
def yX7_wake : MethodName := ⟨RX7, "wake", "(I)V"⟩
abbrev cX7_keepBusy : ByteArray := prog_9_method_21_code
def yX7_keepBusy : MethodName := ⟨RX7, "keepBusy", "(I)V"⟩
abbrev cX7_meet : ByteArray := prog_9_method_22_code
def yX7_meet : MethodName := ⟨RX7, "meet", "(I)V"⟩
abbrev cX7_run : ByteArray := prog_9_method_23_code
def yX7_run : MethodName := ⟨RX7, "run", "(I)V"⟩
abbrev cX7_stayOf : ByteArray := prog_9_method_24_code
def yX7_stayOf : MethodName := ⟨RX7, "stayOf", "(I)I"⟩
abbrev cX7_disk : ByteArray := prog_9_method_25_code
def yX7_disk : MethodName := ⟨RX7, "disk", "(II)I"⟩
abbrev cX7_at : ByteArray := prog_9_method_26_code
def yX7_at : MethodName := ⟨RX7, "at", "(III)I"⟩
abbrev cX7_fate : ByteArray := prog_9_method_27_code
def yX7_fate : MethodName := ⟨RX7, "fate", "(I)I"⟩
abbrev cX7_waiting : ByteArray := prog_9_method_28_code
def yX7_waiting : MethodName := ⟨RX7, "waiting", "(I)I"⟩
abbrev cX7_nextAsked : ByteArray := prog_9_method_29_code
def yX7_nextAsked : MethodName := ⟨RX7, "nextAsked", "(II)I"⟩
abbrev cX7_leastOf : ByteArray := prog_9_method_30_code
def yX7_leastOf : MethodName := ⟨RX7, "leastOf", "(II)I"⟩
abbrev cX7_leastToEnd : ByteArray := prog_9_method_31_code
def yX7_leastToEnd : MethodName := ⟨RX7, "leastToEnd", "(II)I"⟩
abbrev cX7_layGaps : ByteArray := prog_9_method_32_code
def yX7_layGaps : MethodName := ⟨RX7, "layGaps", "(I)V"⟩
abbrev cX7_least : ByteArray := prog_9_method_33_code
def yX7_least : MethodName := ⟨RX7, "least", "(II)I"⟩
abbrev cX7_dearest : ByteArray := prog_9_method_34_code
def yX7_dearest : MethodName := ⟨RX7, "dearest", "(III)I"⟩
abbrev cX7_limited : ByteArray := prog_9_method_35_code
def yX7_limited : MethodName := ⟨RX7, "limited", "(III)I"⟩
abbrev cX7_costOf : ByteArray := prog_9_method_36_code
def yX7_costOf : MethodName := ⟨RX7, "costOf", "(II)I"⟩
abbrev cX7_costs : ByteArray := prog_9_method_37_code
def yX7_costs : MethodName := ⟨RX7, "costs", "(II)I"⟩
abbrev cX7_common : ByteArray := prog_9_method_38_code
def yX7_common : MethodName := ⟨RX7, "common", "(II)I"⟩
abbrev cX7_part : ByteArray := prog_9_method_39_code
def yX7_part : MethodName := ⟨RX7, "part", "(III)I"⟩
abbrev cX7_worst : ByteArray := prog_9_method_40_code
def yX7_worst : MethodName := ⟨RX7, "worst", "(III)I"⟩
abbrev cX7_drawn : ByteArray := prog_9_method_41_code
def yX7_drawn : MethodName := ⟨RX7, "drawn", "(IIII)I"⟩
abbrev cX7_count : ByteArray := prog_9_method_42_code
def yX7_count : MethodName := ⟨RX7, "count", "(I)I"⟩
abbrev cX7_image : ByteArray := prog_9_method_43_code
def yX7_image : MethodName := ⟨RX7, "image", "(I)I"⟩
abbrev cX7_restore : ByteArray := prog_9_method_44_code
def yX7_restore : MethodName := ⟨RX7, "restore", "(I)I"⟩
def RL : String := "DiskRestsLaw"
abbrev cL_law : ByteArray := code
def yL_law : MethodName := ⟨RL, "law", "([I)Z"⟩
abbrev vwCl : List vw_C := [(RX0, TX0, 10), (RX1, TX1, 5), (RX2, TX2, 5), (RX3, TX3, 4), (RX4, TX4, 9), (RX5, TX5, 4), (RX6, TX6, 5), (RX7, TX7, 31)]
