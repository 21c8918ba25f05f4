section
-- ===== PART A: goes FIRST, ahead of the names: the tables' words, and 'selects' of the private methods out of them =====
/-- a private method of a class that the tables say can be made, by its rows of tables_1 -/
def lw_okq (q : MethodName × Nat) : Prop := (q.1.cls ≠ "java/lang/invoke/MethodHandle" ∧ q.1.cls ≠ "java/lang/invoke/VarHandle") ∧ Cond.instantiable q.1.cls q.2 ∈ tables_1 ∧ Cond.privateMethod q.1 ∈ tables_1 ∧ Cond.instanceMethod q.1 ∈ tables_1
theorem lw_p0 : lw_okq (⟨"ToolDays", "found", "(I)I"⟩, 10) := ⟨⟨by decide +kernel, by decide +kernel⟩, List.mem_of_getElem? (i := 17) (by decide +kernel), List.mem_of_getElem? (i := 268) (by decide +kernel), List.mem_of_getElem? (i := 269) (by decide +kernel)⟩
theorem lw_p1 : lw_okq (⟨"ToolDays$TextReader", "goOn", "()V"⟩, 6) := ⟨⟨by decide +kernel, by decide +kernel⟩, List.mem_of_getElem? (i := 183) (by decide +kernel), List.mem_of_getElem? (i := 296) (by decide +kernel), List.mem_of_getElem? (i := 297) (by decide +kernel)⟩
theorem lw_p2 : lw_okq (⟨"ToolDays$TextReader", "tokenAt", "(I)I"⟩, 6) := ⟨⟨by decide +kernel, by decide +kernel⟩, List.mem_of_getElem? (i := 183) (by decide +kernel), List.mem_of_getElem? (i := 300) (by decide +kernel), List.mem_of_getElem? (i := 301) (by decide +kernel)⟩
theorem lw_p3 : lw_okq (⟨"ToolDays$TextReader", "numberAtHand", "()I"⟩, 6) := ⟨⟨by decide +kernel, by decide +kernel⟩, List.mem_of_getElem? (i := 183) (by decide +kernel), List.mem_of_getElem? (i := 304) (by decide +kernel), List.mem_of_getElem? (i := 305) (by decide +kernel)⟩
theorem lw_p4 : lw_okq (⟨"ToolDays$TextReader", "readItem", "()Z"⟩, 6) := ⟨⟨by decide +kernel, by decide +kernel⟩, List.mem_of_getElem? (i := 183) (by decide +kernel), List.mem_of_getElem? (i := 308) (by decide +kernel), List.mem_of_getElem? (i := 309) (by decide +kernel)⟩
theorem lw_p5 : lw_okq (⟨"ToolDays$TextReader", "isWord", "(Ljava/lang/String;)Z"⟩, 6) := ⟨⟨by decide +kernel, by decide +kernel⟩, List.mem_of_getElem? (i := 183) (by decide +kernel), List.mem_of_getElem? (i := 313) (by decide +kernel), List.mem_of_getElem? (i := 314) (by decide +kernel)⟩
theorem lw_p6 : lw_okq (⟨"ToolDays$TextReader", "readRound", "()Z"⟩, 6) := ⟨⟨by decide +kernel, by decide +kernel⟩, List.mem_of_getElem? (i := 183) (by decide +kernel), List.mem_of_getElem? (i := 365) (by decide +kernel), List.mem_of_getElem? (i := 366) (by decide +kernel)⟩
theorem lw_p7 : lw_okq (⟨"ToolDays$TextReader", "isNumber", "(II)Z"⟩, 6) := ⟨⟨by decide +kernel, by decide +kernel⟩, List.mem_of_getElem? (i := 183) (by decide +kernel), List.mem_of_getElem? (i := 369) (by decide +kernel), List.mem_of_getElem? (i := 370) (by decide +kernel)⟩
theorem lw_p8 : lw_okq (⟨"ToolDays$TextReader", "readNear", "()Z"⟩, 6) := ⟨⟨by decide +kernel, by decide +kernel⟩, List.mem_of_getElem? (i := 183) (by decide +kernel), List.mem_of_getElem? (i := 375) (by decide +kernel), List.mem_of_getElem? (i := 376) (by decide +kernel)⟩
theorem lw_p9 : lw_okq (⟨"ToolDays$TextReader", "readTool", "()Z"⟩, 6) := ⟨⟨by decide +kernel, by decide +kernel⟩, List.mem_of_getElem? (i := 183) (by decide +kernel), List.mem_of_getElem? (i := 380) (by decide +kernel), List.mem_of_getElem? (i := 381) (by decide +kernel)⟩
theorem lw_p10 : lw_okq (⟨"ToolDays$TextReader", "readOrder", "()Z"⟩, 6) := ⟨⟨by decide +kernel, by decide +kernel⟩, List.mem_of_getElem? (i := 183) (by decide +kernel), List.mem_of_getElem? (i := 389) (by decide +kernel), List.mem_of_getElem? (i := 390) (by decide +kernel)⟩
theorem lw_p11 : lw_okq (⟨"ToolDays$TextReader", "readBehindWord", "(Ljava/lang/String;II)Z"⟩, 6) := ⟨⟨by decide +kernel, by decide +kernel⟩, List.mem_of_getElem? (i := 183) (by decide +kernel), List.mem_of_getElem? (i := 394) (by decide +kernel), List.mem_of_getElem? (i := 395) (by decide +kernel)⟩
theorem lw_p12 : lw_okq (⟨"ToolDays$TextReader", "kindOfWord", "()I"⟩, 6) := ⟨⟨by decide +kernel, by decide +kernel⟩, List.mem_of_getElem? (i := 183) (by decide +kernel), List.mem_of_getElem? (i := 403) (by decide +kernel), List.mem_of_getElem? (i := 404) (by decide +kernel)⟩
theorem lw_p13 : lw_okq (⟨"ToolDays$TextReader", "readThing", "(I)Z"⟩, 6) := ⟨⟨by decide +kernel, by decide +kernel⟩, List.mem_of_getElem? (i := 183) (by decide +kernel), List.mem_of_getElem? (i := 417) (by decide +kernel), List.mem_of_getElem? (i := 418) (by decide +kernel)⟩
theorem lw_p14 : lw_okq (⟨"ToolDays$TextReader", "readStep", "(I)Z"⟩, 6) := ⟨⟨by decide +kernel, by decide +kernel⟩, List.mem_of_getElem? (i := 183) (by decide +kernel), List.mem_of_getElem? (i := 425) (by decide +kernel), List.mem_of_getElem? (i := 426) (by decide +kernel)⟩
theorem lw_p15 : lw_okq (⟨"ToolDays$Almanac", "zeroFrom", "(I)I"⟩, 2) := ⟨⟨by decide +kernel, by decide +kernel⟩, List.mem_of_getElem? (i := 108) (by decide +kernel), List.mem_of_getElem? (i := 520) (by decide +kernel), List.mem_of_getElem? (i := 521) (by decide +kernel)⟩
def lw_privs_1 : List (MethodName × Nat) := [(⟨"ToolDays", "found", "(I)I"⟩, 10), (⟨"ToolDays$TextReader", "goOn", "()V"⟩, 6), (⟨"ToolDays$TextReader", "tokenAt", "(I)I"⟩, 6), (⟨"ToolDays$TextReader", "numberAtHand", "()I"⟩, 6), (⟨"ToolDays$TextReader", "readItem", "()Z"⟩, 6), (⟨"ToolDays$TextReader", "isWord", "(Ljava/lang/String;)Z"⟩, 6), (⟨"ToolDays$TextReader", "readRound", "()Z"⟩, 6), (⟨"ToolDays$TextReader", "isNumber", "(II)Z"⟩, 6), (⟨"ToolDays$TextReader", "readNear", "()Z"⟩, 6), (⟨"ToolDays$TextReader", "readTool", "()Z"⟩, 6), (⟨"ToolDays$TextReader", "readOrder", "()Z"⟩, 6), (⟨"ToolDays$TextReader", "readBehindWord", "(Ljava/lang/String;II)Z"⟩, 6), (⟨"ToolDays$TextReader", "kindOfWord", "()I"⟩, 6), (⟨"ToolDays$TextReader", "readThing", "(I)Z"⟩, 6), (⟨"ToolDays$TextReader", "readStep", "(I)Z"⟩, 6), (⟨"ToolDays$Almanac", "zeroFrom", "(I)I"⟩, 2)]
theorem lw_r1 : ∀ q ∈ lw_privs_1, lw_okq q := List.forall_mem_cons.mpr ⟨lw_p0, List.forall_mem_cons.mpr ⟨lw_p1, List.forall_mem_cons.mpr ⟨lw_p2, List.forall_mem_cons.mpr ⟨lw_p3, List.forall_mem_cons.mpr ⟨lw_p4, List.forall_mem_cons.mpr ⟨lw_p5, List.forall_mem_cons.mpr ⟨lw_p6, List.forall_mem_cons.mpr ⟨lw_p7, List.forall_mem_cons.mpr ⟨lw_p8, List.forall_mem_cons.mpr ⟨lw_p9, List.forall_mem_cons.mpr ⟨lw_p10, List.forall_mem_cons.mpr ⟨lw_p11, List.forall_mem_cons.mpr ⟨lw_p12, List.forall_mem_cons.mpr ⟨lw_p13, List.forall_mem_cons.mpr ⟨lw_p14, List.forall_mem_cons.mpr ⟨lw_p15, fun _ h => absurd h List.not_mem_nil⟩⟩⟩⟩⟩⟩⟩⟩⟩⟩⟩⟩⟩⟩⟩⟩
theorem lw_p16 : lw_okq (⟨"ToolDays$Almanac", "plannedFrom", "(III)I"⟩, 2) := ⟨⟨by decide +kernel, by decide +kernel⟩, List.mem_of_getElem? (i := 108) (by decide +kernel), List.mem_of_getElem? (i := 524) (by decide +kernel), List.mem_of_getElem? (i := 525) (by decide +kernel)⟩
theorem lw_p17 : lw_okq (⟨"ToolDays$Almanac", "walkedFrom", "(II)I"⟩, 2) := ⟨⟨by decide +kernel, by decide +kernel⟩, List.mem_of_getElem? (i := 108) (by decide +kernel), List.mem_of_getElem? (i := 528) (by decide +kernel), List.mem_of_getElem? (i := 529) (by decide +kernel)⟩
theorem lw_p18 : lw_okq (⟨"ToolDays$Almanac", "bestOf", "(IIZ)I"⟩, 2) := ⟨⟨by decide +kernel, by decide +kernel⟩, List.mem_of_getElem? (i := 108) (by decide +kernel), List.mem_of_getElem? (i := 535) (by decide +kernel), List.mem_of_getElem? (i := 536) (by decide +kernel)⟩
theorem lw_p19 : lw_okq (⟨"ToolDays", "dayOrNone", "(I)I"⟩, 10) := ⟨⟨by decide +kernel, by decide +kernel⟩, List.mem_of_getElem? (i := 17) (by decide +kernel), List.mem_of_getElem? (i := 542) (by decide +kernel), List.mem_of_getElem? (i := 543) (by decide +kernel)⟩
theorem lw_p20 : lw_okq (⟨"ToolDays$Shop", "forget", "()V"⟩, 15) := ⟨⟨by decide +kernel, by decide +kernel⟩, List.mem_of_getElem? (i := 123) (by decide +kernel), List.mem_of_getElem? (i := 637) (by decide +kernel), List.mem_of_getElem? (i := 638) (by decide +kernel)⟩
theorem lw_p21 : lw_okq (⟨"ToolDays$Shop", "make", "(I)I"⟩, 15) := ⟨⟨by decide +kernel, by decide +kernel⟩, List.mem_of_getElem? (i := 123) (by decide +kernel), List.mem_of_getElem? (i := 641) (by decide +kernel), List.mem_of_getElem? (i := 642) (by decide +kernel)⟩
theorem lw_p22 : lw_okq (⟨"ToolDays$Shop", "hasHours", "(III)Z"⟩, 15) := ⟨⟨by decide +kernel, by decide +kernel⟩, List.mem_of_getElem? (i := 123) (by decide +kernel), List.mem_of_getElem? (i := 645) (by decide +kernel), List.mem_of_getElem? (i := 646) (by decide +kernel)⟩
theorem lw_p23 : lw_okq (⟨"ToolDays$Shop", "placeOf", "(IIII)I"⟩, 15) := ⟨⟨by decide +kernel, by decide +kernel⟩, List.mem_of_getElem? (i := 123) (by decide +kernel), List.mem_of_getElem? (i := 649) (by decide +kernel), List.mem_of_getElem? (i := 650) (by decide +kernel)⟩
theorem lw_p24 : lw_okq (⟨"ToolDays$Shop", "takeHours", "(III)V"⟩, 15) := ⟨⟨by decide +kernel, by decide +kernel⟩, List.mem_of_getElem? (i := 123) (by decide +kernel), List.mem_of_getElem? (i := 654) (by decide +kernel), List.mem_of_getElem? (i := 655) (by decide +kernel)⟩
theorem lw_p25 : lw_okq (⟨"ToolDays$Shop", "allWorths", "()I"⟩, 15) := ⟨⟨by decide +kernel, by decide +kernel⟩, List.mem_of_getElem? (i := 123) (by decide +kernel), List.mem_of_getElem? (i := 667) (by decide +kernel), List.mem_of_getElem? (i := 668) (by decide +kernel)⟩
theorem lw_p26 : lw_okq (⟨"ToolDays$Shop", "sequenceDigits", "()I"⟩, 15) := ⟨⟨by decide +kernel, by decide +kernel⟩, List.mem_of_getElem? (i := 123) (by decide +kernel), List.mem_of_getElem? (i := 672) (by decide +kernel), List.mem_of_getElem? (i := 673) (by decide +kernel)⟩
theorem lw_p27 : lw_okq (⟨"ToolDays$Shop", "goToNextSequence", "()Z"⟩, 15) := ⟨⟨by decide +kernel, by decide +kernel⟩, List.mem_of_getElem? (i := 123) (by decide +kernel), List.mem_of_getElem? (i := 676) (by decide +kernel), List.mem_of_getElem? (i := 677) (by decide +kernel)⟩
theorem lw_p28 : lw_okq (⟨"ToolDays$Shop", "swap", "(II)V"⟩, 15) := ⟨⟨by decide +kernel, by decide +kernel⟩, List.mem_of_getElem? (i := 123) (by decide +kernel), List.mem_of_getElem? (i := 680) (by decide +kernel), List.mem_of_getElem? (i := 681) (by decide +kernel)⟩
theorem lw_p29 : lw_okq (⟨"ToolDaysModel", "finds", "(I)I"⟩, 20) := ⟨⟨by decide +kernel, by decide +kernel⟩, List.mem_of_getElem? (i := 830) (by decide +kernel), List.mem_of_getElem? (i := 906) (by decide +kernel), List.mem_of_getElem? (i := 907) (by decide +kernel)⟩
theorem lw_p30 : lw_okq (⟨"ToolDaysModel", "token", "()V"⟩, 20) := ⟨⟨by decide +kernel, by decide +kernel⟩, List.mem_of_getElem? (i := 830) (by decide +kernel), List.mem_of_getElem? (i := 919) (by decide +kernel), List.mem_of_getElem? (i := 920) (by decide +kernel)⟩
theorem lw_p31 : lw_okq (⟨"ToolDaysModel", "isByte", "(III)Z"⟩, 20) := ⟨⟨by decide +kernel, by decide +kernel⟩, List.mem_of_getElem? (i := 830) (by decide +kernel), List.mem_of_getElem? (i := 923) (by decide +kernel), List.mem_of_getElem? (i := 924) (by decide +kernel)⟩
def lw_privs_2 : List (MethodName × Nat) := [(⟨"ToolDays$Almanac", "plannedFrom", "(III)I"⟩, 2), (⟨"ToolDays$Almanac", "walkedFrom", "(II)I"⟩, 2), (⟨"ToolDays$Almanac", "bestOf", "(IIZ)I"⟩, 2), (⟨"ToolDays", "dayOrNone", "(I)I"⟩, 10), (⟨"ToolDays$Shop", "forget", "()V"⟩, 15), (⟨"ToolDays$Shop", "make", "(I)I"⟩, 15), (⟨"ToolDays$Shop", "hasHours", "(III)Z"⟩, 15), (⟨"ToolDays$Shop", "placeOf", "(IIII)I"⟩, 15), (⟨"ToolDays$Shop", "takeHours", "(III)V"⟩, 15), (⟨"ToolDays$Shop", "allWorths", "()I"⟩, 15), (⟨"ToolDays$Shop", "sequenceDigits", "()I"⟩, 15), (⟨"ToolDays$Shop", "goToNextSequence", "()Z"⟩, 15), (⟨"ToolDays$Shop", "swap", "(II)V"⟩, 15), (⟨"ToolDaysModel", "finds", "(I)I"⟩, 20), (⟨"ToolDaysModel", "token", "()V"⟩, 20), (⟨"ToolDaysModel", "isByte", "(III)Z"⟩, 20)]
theorem lw_r2 : ∀ q ∈ lw_privs_2, lw_okq q := List.forall_mem_cons.mpr ⟨lw_p16, List.forall_mem_cons.mpr ⟨lw_p17, List.forall_mem_cons.mpr ⟨lw_p18, List.forall_mem_cons.mpr ⟨lw_p19, List.forall_mem_cons.mpr ⟨lw_p20, List.forall_mem_cons.mpr ⟨lw_p21, List.forall_mem_cons.mpr ⟨lw_p22, List.forall_mem_cons.mpr ⟨lw_p23, List.forall_mem_cons.mpr ⟨lw_p24, List.forall_mem_cons.mpr ⟨lw_p25, List.forall_mem_cons.mpr ⟨lw_p26, List.forall_mem_cons.mpr ⟨lw_p27, List.forall_mem_cons.mpr ⟨lw_p28, List.forall_mem_cons.mpr ⟨lw_p29, List.forall_mem_cons.mpr ⟨lw_p30, List.forall_mem_cons.mpr ⟨lw_p31, fun _ h => absurd h List.not_mem_nil⟩⟩⟩⟩⟩⟩⟩⟩⟩⟩⟩⟩⟩⟩⟩⟩
theorem lw_p32 : lw_okq (⟨"ToolDaysModel", "item", "()V"⟩, 20) := ⟨⟨by decide +kernel, by decide +kernel⟩, List.mem_of_getElem? (i := 830) (by decide +kernel), List.mem_of_getElem? (i := 927) (by decide +kernel), List.mem_of_getElem? (i := 928) (by decide +kernel)⟩
theorem lw_p33 : lw_okq (⟨"ToolDaysModel", "takes", "(Ljava/lang/String;)Z"⟩, 20) := ⟨⟨by decide +kernel, by decide +kernel⟩, List.mem_of_getElem? (i := 830) (by decide +kernel), List.mem_of_getElem? (i := 932) (by decide +kernel), List.mem_of_getElem? (i := 933) (by decide +kernel)⟩
theorem lw_p34 : lw_okq (⟨"ToolDaysModel", "isWord", "(Ljava/lang/String;)Z"⟩, 20) := ⟨⟨by decide +kernel, by decide +kernel⟩, List.mem_of_getElem? (i := 830) (by decide +kernel), List.mem_of_getElem? (i := 936) (by decide +kernel), List.mem_of_getElem? (i := 937) (by decide +kernel)⟩
theorem lw_p35 : lw_okq (⟨"ToolDaysModel", "number", "(II)I"⟩, 20) := ⟨⟨by decide +kernel, by decide +kernel⟩, List.mem_of_getElem? (i := 830) (by decide +kernel), List.mem_of_getElem? (i := 942) (by decide +kernel), List.mem_of_getElem? (i := 943) (by decide +kernel)⟩
theorem lw_p36 : lw_okq (⟨"ToolDaysModel", "toolItem", "()V"⟩, 20) := ⟨⟨by decide +kernel, by decide +kernel⟩, List.mem_of_getElem? (i := 830) (by decide +kernel), List.mem_of_getElem? (i := 948) (by decide +kernel), List.mem_of_getElem? (i := 949) (by decide +kernel)⟩
theorem lw_p37 : lw_okq (⟨"ToolDaysModel", "orderItem", "()V"⟩, 20) := ⟨⟨by decide +kernel, by decide +kernel⟩, List.mem_of_getElem? (i := 830) (by decide +kernel), List.mem_of_getElem? (i := 953) (by decide +kernel), List.mem_of_getElem? (i := 954) (by decide +kernel)⟩
theorem lw_p38 : lw_okq (⟨"ToolDaysModel", "word", "(Ljava/lang/String;)V"⟩, 20) := ⟨⟨by decide +kernel, by decide +kernel⟩, List.mem_of_getElem? (i := 830) (by decide +kernel), List.mem_of_getElem? (i := 958) (by decide +kernel), List.mem_of_getElem? (i := 959) (by decide +kernel)⟩
theorem lw_p39 : lw_okq (⟨"ToolDaysModel", "kindHere", "()I"⟩, 20) := ⟨⟨by decide +kernel, by decide +kernel⟩, List.mem_of_getElem? (i := 830) (by decide +kernel), List.mem_of_getElem? (i := 963) (by decide +kernel), List.mem_of_getElem? (i := 964) (by decide +kernel)⟩
theorem lw_p40 : lw_okq (⟨"ToolDaysModel", "thingItem", "(I)V"⟩, 20) := ⟨⟨by decide +kernel, by decide +kernel⟩, List.mem_of_getElem? (i := 830) (by decide +kernel), List.mem_of_getElem? (i := 974) (by decide +kernel), List.mem_of_getElem? (i := 975) (by decide +kernel)⟩
theorem lw_p41 : lw_okq (⟨"ToolDaysModel", "isSign", "(I)Z"⟩, 20) := ⟨⟨by decide +kernel, by decide +kernel⟩, List.mem_of_getElem? (i := 830) (by decide +kernel), List.mem_of_getElem? (i := 982) (by decide +kernel), List.mem_of_getElem? (i := 983) (by decide +kernel)⟩
theorem lw_p42 : lw_okq (⟨"ToolDaysModel", "becomes", "(II)I"⟩, 20) := ⟨⟨by decide +kernel, by decide +kernel⟩, List.mem_of_getElem? (i := 830) (by decide +kernel), List.mem_of_getElem? (i := 991) (by decide +kernel), List.mem_of_getElem? (i := 992) (by decide +kernel)⟩
theorem lw_p43 : lw_okq (⟨"ToolDaysModel", "isTool", "(I)Z"⟩, 20) := ⟨⟨by decide +kernel, by decide +kernel⟩, List.mem_of_getElem? (i := 830) (by decide +kernel), List.mem_of_getElem? (i := 1010) (by decide +kernel), List.mem_of_getElem? (i := 1011) (by decide +kernel)⟩
theorem lw_p44 : lw_okq (⟨"ToolDaysModel", "mayBe", "(II)Z"⟩, 20) := ⟨⟨by decide +kernel, by decide +kernel⟩, List.mem_of_getElem? (i := 830) (by decide +kernel), List.mem_of_getElem? (i := 1022) (by decide +kernel), List.mem_of_getElem? (i := 1023) (by decide +kernel)⟩
theorem lw_p45 : lw_okq (⟨"ToolDaysModel", "mayNear", "(II)Z"⟩, 20) := ⟨⟨by decide +kernel, by decide +kernel⟩, List.mem_of_getElem? (i := 830) (by decide +kernel), List.mem_of_getElem? (i := 1029) (by decide +kernel), List.mem_of_getElem? (i := 1030) (by decide +kernel)⟩
theorem lw_p46 : lw_okq (⟨"ToolDaysModel", "isThing", "(I)Z"⟩, 20) := ⟨⟨by decide +kernel, by decide +kernel⟩, List.mem_of_getElem? (i := 830) (by decide +kernel), List.mem_of_getElem? (i := 1046) (by decide +kernel), List.mem_of_getElem? (i := 1047) (by decide +kernel)⟩
theorem lw_p47 : lw_okq (⟨"ToolDaysModel", "steps", "(I)I"⟩, 20) := ⟨⟨by decide +kernel, by decide +kernel⟩, List.mem_of_getElem? (i := 830) (by decide +kernel), List.mem_of_getElem? (i := 1051) (by decide +kernel), List.mem_of_getElem? (i := 1052) (by decide +kernel)⟩
def lw_privs_3 : List (MethodName × Nat) := [(⟨"ToolDaysModel", "item", "()V"⟩, 20), (⟨"ToolDaysModel", "takes", "(Ljava/lang/String;)Z"⟩, 20), (⟨"ToolDaysModel", "isWord", "(Ljava/lang/String;)Z"⟩, 20), (⟨"ToolDaysModel", "number", "(II)I"⟩, 20), (⟨"ToolDaysModel", "toolItem", "()V"⟩, 20), (⟨"ToolDaysModel", "orderItem", "()V"⟩, 20), (⟨"ToolDaysModel", "word", "(Ljava/lang/String;)V"⟩, 20), (⟨"ToolDaysModel", "kindHere", "()I"⟩, 20), (⟨"ToolDaysModel", "thingItem", "(I)V"⟩, 20), (⟨"ToolDaysModel", "isSign", "(I)Z"⟩, 20), (⟨"ToolDaysModel", "becomes", "(II)I"⟩, 20), (⟨"ToolDaysModel", "isTool", "(I)Z"⟩, 20), (⟨"ToolDaysModel", "mayBe", "(II)Z"⟩, 20), (⟨"ToolDaysModel", "mayNear", "(II)Z"⟩, 20), (⟨"ToolDaysModel", "isThing", "(I)Z"⟩, 20), (⟨"ToolDaysModel", "steps", "(I)I"⟩, 20)]
theorem lw_r3 : ∀ q ∈ lw_privs_3, lw_okq q := List.forall_mem_cons.mpr ⟨lw_p32, List.forall_mem_cons.mpr ⟨lw_p33, List.forall_mem_cons.mpr ⟨lw_p34, List.forall_mem_cons.mpr ⟨lw_p35, List.forall_mem_cons.mpr ⟨lw_p36, List.forall_mem_cons.mpr ⟨lw_p37, List.forall_mem_cons.mpr ⟨lw_p38, List.forall_mem_cons.mpr ⟨lw_p39, List.forall_mem_cons.mpr ⟨lw_p40, List.forall_mem_cons.mpr ⟨lw_p41, List.forall_mem_cons.mpr ⟨lw_p42, List.forall_mem_cons.mpr ⟨lw_p43, List.forall_mem_cons.mpr ⟨lw_p44, List.forall_mem_cons.mpr ⟨lw_p45, List.forall_mem_cons.mpr ⟨lw_p46, List.forall_mem_cons.mpr ⟨lw_p47, fun _ h => absurd h List.not_mem_nil⟩⟩⟩⟩⟩⟩⟩⟩⟩⟩⟩⟩⟩⟩⟩⟩
theorem lw_p48 : lw_okq (⟨"ToolDaysModel", "kindOf", "(I)I"⟩, 20) := ⟨⟨by decide +kernel, by decide +kernel⟩, List.mem_of_getElem? (i := 830) (by decide +kernel), List.mem_of_getElem? (i := 1060) (by decide +kernel), List.mem_of_getElem? (i := 1061) (by decide +kernel)⟩
theorem lw_p49 : lw_okq (⟨"ToolDaysModel", "isStep", "(II)Z"⟩, 20) := ⟨⟨by decide +kernel, by decide +kernel⟩, List.mem_of_getElem? (i := 830) (by decide +kernel), List.mem_of_getElem? (i := 1064) (by decide +kernel), List.mem_of_getElem? (i := 1065) (by decide +kernel)⟩
theorem lw_p50 : lw_okq (⟨"ToolDaysModel", "of", "(III)I"⟩, 20) := ⟨⟨by decide +kernel, by decide +kernel⟩, List.mem_of_getElem? (i := 830) (by decide +kernel), List.mem_of_getElem? (i := 1069) (by decide +kernel), List.mem_of_getElem? (i := 1070) (by decide +kernel)⟩
theorem lw_p51 : lw_okq (⟨"ToolDaysModel", "nextOf", "(III)I"⟩, 20) := ⟨⟨by decide +kernel, by decide +kernel⟩, List.mem_of_getElem? (i := 830) (by decide +kernel), List.mem_of_getElem? (i := 1085) (by decide +kernel), List.mem_of_getElem? (i := 1086) (by decide +kernel)⟩
theorem lw_p52 : lw_okq (⟨"ToolDaysModel", "firstFrom", "(II)I"⟩, 20) := ⟨⟨by decide +kernel, by decide +kernel⟩, List.mem_of_getElem? (i := 830) (by decide +kernel), List.mem_of_getElem? (i := 1089) (by decide +kernel), List.mem_of_getElem? (i := 1090) (by decide +kernel)⟩
theorem lw_p53 : lw_okq (⟨"ToolDaysModel", "firstNear", "(II)I"⟩, 20) := ⟨⟨by decide +kernel, by decide +kernel⟩, List.mem_of_getElem? (i := 830) (by decide +kernel), List.mem_of_getElem? (i := 1093) (by decide +kernel), List.mem_of_getElem? (i := 1094) (by decide +kernel)⟩
theorem lw_p54 : lw_okq (⟨"ToolDaysModel", "begin", "(I)I"⟩, 20) := ⟨⟨by decide +kernel, by decide +kernel⟩, List.mem_of_getElem? (i := 830) (by decide +kernel), List.mem_of_getElem? (i := 1100) (by decide +kernel), List.mem_of_getElem? (i := 1101) (by decide +kernel)⟩
theorem lw_p55 : lw_okq (⟨"ToolDaysModel", "orNone", "(I)I"⟩, 20) := ⟨⟨by decide +kernel, by decide +kernel⟩, List.mem_of_getElem? (i := 830) (by decide +kernel), List.mem_of_getElem? (i := 1104) (by decide +kernel), List.mem_of_getElem? (i := 1105) (by decide +kernel)⟩
theorem lw_p56 : lw_okq (⟨"ToolDaysModel", "runs", "(II)I"⟩, 20) := ⟨⟨by decide +kernel, by decide +kernel⟩, List.mem_of_getElem? (i := 830) (by decide +kernel), List.mem_of_getElem? (i := 1113) (by decide +kernel), List.mem_of_getElem? (i := 1114) (by decide +kernel)⟩
theorem lw_p57 : lw_okq (⟨"ToolDaysModel", "readyAt", "(II)I"⟩, 20) := ⟨⟨by decide +kernel, by decide +kernel⟩, List.mem_of_getElem? (i := 830) (by decide +kernel), List.mem_of_getElem? (i := 1125) (by decide +kernel), List.mem_of_getElem? (i := 1126) (by decide +kernel)⟩
theorem lw_p58 : lw_okq (⟨"ToolDaysModel", "beginsAt", "(II)I"⟩, 20) := ⟨⟨by decide +kernel, by decide +kernel⟩, List.mem_of_getElem? (i := 830) (by decide +kernel), List.mem_of_getElem? (i := 1129) (by decide +kernel), List.mem_of_getElem? (i := 1130) (by decide +kernel)⟩
theorem lw_p59 : lw_okq (⟨"ToolDaysModel", "lastDay", "(I)I"⟩, 20) := ⟨⟨by decide +kernel, by decide +kernel⟩, List.mem_of_getElem? (i := 830) (by decide +kernel), List.mem_of_getElem? (i := 1133) (by decide +kernel), List.mem_of_getElem? (i := 1134) (by decide +kernel)⟩
theorem lw_p60 : lw_okq (⟨"ToolDaysModel", "areOrders", "(II)Z"⟩, 20) := ⟨⟨by decide +kernel, by decide +kernel⟩, List.mem_of_getElem? (i := 830) (by decide +kernel), List.mem_of_getElem? (i := 1168) (by decide +kernel), List.mem_of_getElem? (i := 1169) (by decide +kernel)⟩
theorem lw_p61 : lw_okq (⟨"ToolDaysModel", "takesAll", "(II)V"⟩, 20) := ⟨⟨by decide +kernel, by decide +kernel⟩, List.mem_of_getElem? (i := 830) (by decide +kernel), List.mem_of_getElem? (i := 1172) (by decide +kernel), List.mem_of_getElem? (i := 1173) (by decide +kernel)⟩
theorem lw_p62 : lw_okq (⟨"ToolDaysModel", "noOrders", "()V"⟩, 20) := ⟨⟨by decide +kernel, by decide +kernel⟩, List.mem_of_getElem? (i := 830) (by decide +kernel), List.mem_of_getElem? (i := 1176) (by decide +kernel), List.mem_of_getElem? (i := 1177) (by decide +kernel)⟩
theorem lw_p63 : lw_okq (⟨"ToolDaysModel", "takesOrder", "(I)V"⟩, 20) := ⟨⟨by decide +kernel, by decide +kernel⟩, List.mem_of_getElem? (i := 830) (by decide +kernel), List.mem_of_getElem? (i := 1180) (by decide +kernel), List.mem_of_getElem? (i := 1181) (by decide +kernel)⟩
def lw_privs_4 : List (MethodName × Nat) := [(⟨"ToolDaysModel", "kindOf", "(I)I"⟩, 20), (⟨"ToolDaysModel", "isStep", "(II)Z"⟩, 20), (⟨"ToolDaysModel", "of", "(III)I"⟩, 20), (⟨"ToolDaysModel", "nextOf", "(III)I"⟩, 20), (⟨"ToolDaysModel", "firstFrom", "(II)I"⟩, 20), (⟨"ToolDaysModel", "firstNear", "(II)I"⟩, 20), (⟨"ToolDaysModel", "begin", "(I)I"⟩, 20), (⟨"ToolDaysModel", "orNone", "(I)I"⟩, 20), (⟨"ToolDaysModel", "runs", "(II)I"⟩, 20), (⟨"ToolDaysModel", "readyAt", "(II)I"⟩, 20), (⟨"ToolDaysModel", "beginsAt", "(II)I"⟩, 20), (⟨"ToolDaysModel", "lastDay", "(I)I"⟩, 20), (⟨"ToolDaysModel", "areOrders", "(II)Z"⟩, 20), (⟨"ToolDaysModel", "takesAll", "(II)V"⟩, 20), (⟨"ToolDaysModel", "noOrders", "()V"⟩, 20), (⟨"ToolDaysModel", "takesOrder", "(I)V"⟩, 20)]
theorem lw_r4 : ∀ q ∈ lw_privs_4, lw_okq q := List.forall_mem_cons.mpr ⟨lw_p48, List.forall_mem_cons.mpr ⟨lw_p49, List.forall_mem_cons.mpr ⟨lw_p50, List.forall_mem_cons.mpr ⟨lw_p51, List.forall_mem_cons.mpr ⟨lw_p52, List.forall_mem_cons.mpr ⟨lw_p53, List.forall_mem_cons.mpr ⟨lw_p54, List.forall_mem_cons.mpr ⟨lw_p55, List.forall_mem_cons.mpr ⟨lw_p56, List.forall_mem_cons.mpr ⟨lw_p57, List.forall_mem_cons.mpr ⟨lw_p58, List.forall_mem_cons.mpr ⟨lw_p59, List.forall_mem_cons.mpr ⟨lw_p60, List.forall_mem_cons.mpr ⟨lw_p61, List.forall_mem_cons.mpr ⟨lw_p62, List.forall_mem_cons.mpr ⟨lw_p63, fun _ h => absurd h List.not_mem_nil⟩⟩⟩⟩⟩⟩⟩⟩⟩⟩⟩⟩⟩⟩⟩⟩
theorem lw_p64 : lw_okq (⟨"ToolDaysModel", "areFree", "(I)Z"⟩, 20) := ⟨⟨by decide +kernel, by decide +kernel⟩, List.mem_of_getElem? (i := 830) (by decide +kernel), List.mem_of_getElem? (i := 1184) (by decide +kernel), List.mem_of_getElem? (i := 1185) (by decide +kernel)⟩
theorem lw_p65 : lw_okq (⟨"ToolDaysModel", "gets", "(II)V"⟩, 20) := ⟨⟨by decide +kernel, by decide +kernel⟩, List.mem_of_getElem? (i := 830) (by decide +kernel), List.mem_of_getElem? (i := 1188) (by decide +kernel), List.mem_of_getElem? (i := 1189) (by decide +kernel)⟩
theorem lw_p66 : lw_okq (⟨"ToolDaysModel", "chokesAt", "(I)I"⟩, 20) := ⟨⟨by decide +kernel, by decide +kernel⟩, List.mem_of_getElem? (i := 830) (by decide +kernel), List.mem_of_getElem? (i := 1203) (by decide +kernel), List.mem_of_getElem? (i := 1204) (by decide +kernel)⟩
theorem lw_p67 : lw_okq (⟨"ToolDaysModel", "mostOf", "(II)I"⟩, 20) := ⟨⟨by decide +kernel, by decide +kernel⟩, List.mem_of_getElem? (i := 830) (by decide +kernel), List.mem_of_getElem? (i := 1207) (by decide +kernel), List.mem_of_getElem? (i := 1208) (by decide +kernel)⟩
theorem lw_p68 : lw_okq (⟨"ToolDaysModel", "turnedBy", "(II)I"⟩, 20) := ⟨⟨by decide +kernel, by decide +kernel⟩, List.mem_of_getElem? (i := 830) (by decide +kernel), List.mem_of_getElem? (i := 1223) (by decide +kernel), List.mem_of_getElem? (i := 1224) (by decide +kernel)⟩
theorem lw_p69 : lw_okq (⟨"ToolDaysModel", "soonest", "(IIIII)I"⟩, 20) := ⟨⟨by decide +kernel, by decide +kernel⟩, List.mem_of_getElem? (i := 830) (by decide +kernel), List.mem_of_getElem? (i := 1231) (by decide +kernel), List.mem_of_getElem? (i := 1232) (by decide +kernel)⟩
theorem lw_p70 : lw_okq (⟨"ToolDaysModel", "isRight", "(IIII)Z"⟩, 20) := ⟨⟨by decide +kernel, by decide +kernel⟩, List.mem_of_getElem? (i := 830) (by decide +kernel), List.mem_of_getElem? (i := 1288) (by decide +kernel), List.mem_of_getElem? (i := 1289) (by decide +kernel)⟩
def lw_privs_5 : List (MethodName × Nat) := [(⟨"ToolDaysModel", "areFree", "(I)Z"⟩, 20), (⟨"ToolDaysModel", "gets", "(II)V"⟩, 20), (⟨"ToolDaysModel", "chokesAt", "(I)I"⟩, 20), (⟨"ToolDaysModel", "mostOf", "(II)I"⟩, 20), (⟨"ToolDaysModel", "turnedBy", "(II)I"⟩, 20), (⟨"ToolDaysModel", "soonest", "(IIIII)I"⟩, 20), (⟨"ToolDaysModel", "isRight", "(IIII)Z"⟩, 20)]
theorem lw_r5 : ∀ q ∈ lw_privs_5, lw_okq q := List.forall_mem_cons.mpr ⟨lw_p64, List.forall_mem_cons.mpr ⟨lw_p65, List.forall_mem_cons.mpr ⟨lw_p66, List.forall_mem_cons.mpr ⟨lw_p67, List.forall_mem_cons.mpr ⟨lw_p68, List.forall_mem_cons.mpr ⟨lw_p69, List.forall_mem_cons.mpr ⟨lw_p70, fun _ h => absurd h List.not_mem_nil⟩⟩⟩⟩⟩⟩⟩
def lw_privs : List (MethodName × Nat) := lw_privs_1 ++ (lw_privs_2 ++ (lw_privs_3 ++ (lw_privs_4 ++ (lw_privs_5))))
def lw_tbl : List Cond := k2_sels lw_privs ++ tables_1
theorem lw_privs_ok : ∀ q ∈ lw_privs, lw_okq q := by
  show ∀ q ∈ lw_privs_1 ++ (lw_privs_2 ++ (lw_privs_3 ++ (lw_privs_4 ++ (lw_privs_5)))), lw_okq q
  exact List.forall_mem_append.mpr ⟨lw_r1, List.forall_mem_append.mpr ⟨lw_r2, List.forall_mem_append.mpr ⟨lw_r3, List.forall_mem_append.mpr ⟨lw_r4, lw_r5⟩⟩⟩⟩
-- ===== end of PART A; then your names; then what follows =====
end
section
/-! ===== BEGIN words of one list among another's, by their places ===== -/
theorem goodIn_r {big : List Cond} (ws : List Cond) (ps : List Nat) (hp : ws = ps.filterMap (fun i => big[i]?)) (h : ws.all goodWord = true) : GoodIn big ws := by
  intro w hw
  have h1 := List.all_eq_true.mp h w hw
  rw [hp] at hw
  obtain ⟨i, -, hi⟩ := List.mem_filterMap.mp hw
  have hm : w ∈ big := by first | exact List.mem_of_getElem? hi | exact List.getElem?_mem hi
  exact ⟨hm, good_of_word h1⟩
theorem goodIn_app {big a b : List Cond} (ha : GoodIn big a) (hb : GoodIn big b) : GoodIn big (a ++ b) := fun w h => (List.mem_append.mp h).elim (ha w) (hb w)
theorem goodIn_ca {big a b : List Cond} {c : Cond} (ha : GoodIn big (c :: a)) (hb : GoodIn big b) : GoodIn big (c :: (a ++ b)) := fun w h => (List.mem_cons.mp h).elim (fun e => ha w (List.mem_cons.mpr (Or.inl e))) (fun h => (List.mem_append.mp h).elim (fun h => ha w (List.mem_cons.mpr (Or.inr h))) (hb w))
theorem goodIn_sub {big ws : List Cond} (hm : ∀ w ∈ ws, w ∈ big) (h : ws.all goodWord = true) : GoodIn big ws := fun w hw => ⟨hm w hw, good_of_word (List.all_eq_true.mp h w hw)⟩
/-! ===== END ===== -/

/-! ===== BEGIN printed: names, fields, word lists, decode rows ===== -/
def RX0 : String := "ToolDays$Almanac"
def TX0 : u_T := fun k => match k with
  | 0 => ("ToolDays$Almanac", "town", "LToolDays$Town;", true)
  | _ => ("ToolDays$Almanac", "runDays", "[I", true)
def tyX0 : Nat → FieldType := fun k => match k with
  | 0 => .object "ToolDays$Town"
  | _ => .array .int
abbrev wsX00 : List Cond := u_ws RX0 TX0 2
theorem nmX0 : ∀ a, a < 2 → ∀ b, b < 2 → a ≠ b → (TX0 a).2.1 ≠ (TX0 b).2.1 := by decide +kernel
theorem tyX0_ok : ∀ k, k < 2 → parseFieldDescriptor (TX0 k).2.2.1 = some (tyX0 k) := by decide +kernel
abbrev cX0_init : ByteArray := prog_2_method_1_code
def yX0_init : MethodName := ⟨RX0, "<init>", "(LToolDays$Town;)V"⟩
abbrev cX0_firstDay : ByteArray := prog_2_method_2_code
def yX0_firstDay : MethodName := ⟨RX0, "firstDay", "(III)I"⟩
abbrev cX0_zeroFrom : ByteArray := prog_2_method_3_code
def yX0_zeroFrom : MethodName := ⟨RX0, "zeroFrom", "(I)I"⟩
abbrev cX0_dayBehind : ByteArray := prog_2_method_4_code
def yX0_dayBehind : MethodName := ⟨RX0, "dayBehind", "(III)I"⟩
abbrev cX0_plannedFrom : ByteArray := prog_2_method_5_code
def yX0_plannedFrom : MethodName := ⟨RX0, "plannedFrom", "(III)I"⟩
abbrev cX0_walkedFrom : ByteArray := prog_2_method_6_code
def yX0_walkedFrom : MethodName := ⟨RX0, "walkedFrom", "(II)I"⟩
abbrev cX0_bestOf : ByteArray := prog_2_method_7_code
def yX0_bestOf : MethodName := ⟨RX0, "bestOf", "(IIZ)I"⟩
abbrev cX0_goThrough : ByteArray := prog_2_method_8_code
def yX0_goThrough : MethodName := ⟨RX0, "goThrough", "(II)I"⟩
abbrev cX0_lastRunDay : ByteArray := prog_2_method_9_code
def yX0_lastRunDay : MethodName := ⟨RX0, "lastRunDay", "(I)I"⟩
abbrev cX0_begunFrom : ByteArray := prog_2_method_10_code
def yX0_begunFrom : MethodName := ⟨RX0, "begunFrom", "(II)I"⟩
abbrev cX0_readyFrom : ByteArray := prog_2_method_11_code
def yX0_readyFrom : MethodName := ⟨RX0, "readyFrom", "(II)I"⟩
abbrev cX0_latestFor : ByteArray := prog_2_method_12_code
def yX0_latestFor : MethodName := ⟨RX0, "latestFor", "(II)I"⟩
abbrev cX0_longestWait : ByteArray := prog_2_method_13_code
def yX0_longestWait : MethodName := ⟨RX0, "longestWait", "(I)I"⟩
abbrev cX0_rightDays : ByteArray := prog_2_method_14_code
def yX0_rightDays : MethodName := ⟨RX0, "rightDays", "(ILToolDays$Sheet;)I"⟩
def RX1 : String := "ToolDays$Sheet"
def TX1 : u_T := fun k => match k with
  | 0 => ("ToolDays$Sheet", "bits", "I", false)
  | 1 => ("ToolDays$Sheet", "size", "I", false)
  | _ => ("ToolDays$Sheet", "numbers", "[I", true)
def tyX1 : Nat → FieldType := fun k => match k with
  | 0 => .int
  | 1 => .int
  | _ => .array .int
abbrev wsX10 : List Cond := u_ws RX1 TX1 3
theorem nmX1 : ∀ a, a < 3 → ∀ b, b < 3 → a ≠ b → (TX1 a).2.1 ≠ (TX1 b).2.1 := by decide +kernel
theorem tyX1_ok : ∀ k, k < 3 → parseFieldDescriptor (TX1 k).2.2.1 = some (tyX1 k) := by decide +kernel
abbrev cX1_init : ByteArray := prog_3_method_1_code
def yX1_init : MethodName := ⟨RX1, "<init>", "()V"⟩
abbrev cX1_layOut : ByteArray := prog_3_method_2_code
def yX1_layOut : MethodName := ⟨RX1, "layOut", "(II)V"⟩
abbrev cX1_put : ByteArray := prog_3_method_3_code
def yX1_put : MethodName := ⟨RX1, "put", "(II)V"⟩
abbrev cX1_hasStretch : ByteArray := prog_3_method_4_code
def yX1_hasStretch : MethodName := ⟨RX1, "hasStretch", "(II)Z"⟩
def RX2 : String := "ToolDays$Shop"
def TX2 : u_T := fun k => match k with
  | 0 => ("ToolDays$Shop", "town", "LToolDays$Town;", true)
  | 1 => ("ToolDays$Shop", "almanac", "LToolDays$Almanac;", true)
  | 2 => ("ToolDays$Shop", "isGood", "[Z", true)
  | 3 => ("ToolDays$Shop", "plotted", "[I", true)
  | 4 => ("ToolDays$Shop", "hoursOn", "[I", true)
  | 5 => ("ToolDays$Shop", "inUse", "[I", true)
  | 6 => ("ToolDays$Shop", "uses", "I", false)
  | 7 => ("ToolDays$Shop", "sequence", "[I", true)
  | 8 => ("ToolDays$Shop", "toolHours", "[I", true)
  | 9 => ("ToolDays$Shop", "worth", "I", false)
  | 10 => ("ToolDays$Shop", "inTime", "I", false)
  | 11 => ("ToolDays$Shop", "lastDay", "I", false)
  | 12 => ("ToolDays$Shop", "bestWorth", "I", false)
  | 13 => ("ToolDays$Shop", "bestInTime", "I", false)
  | _ => ("ToolDays$Shop", "bestDigits", "I", false)
def tyX2 : Nat → FieldType := fun k => match k with
  | 0 => .object "ToolDays$Town"
  | 1 => .object "ToolDays$Almanac"
  | 2 => .array .boolean
  | 3 => .array .int
  | 4 => .array .int
  | 5 => .array .int
  | 6 => .int
  | 7 => .array .int
  | 8 => .array .int
  | 9 => .int
  | 10 => .int
  | 11 => .int
  | 12 => .int
  | 13 => .int
  | _ => .int
abbrev wsX20 : List Cond := u_ws RX2 TX2 15
theorem nmX2 : ∀ a, a < 15 → ∀ b, b < 15 → a ≠ b → (TX2 a).2.1 ≠ (TX2 b).2.1 := by decide +kernel
theorem tyX2_ok : ∀ k, k < 15 → parseFieldDescriptor (TX2 k).2.2.1 = some (tyX2 k) := by decide +kernel
abbrev cX2_init : ByteArray := prog_4_method_1_code
def yX2_init : MethodName := ⟨RX2, "<init>", "(LToolDays$Town;LToolDays$Almanac;)V"⟩
abbrev cX2_readSequence : ByteArray := prog_4_method_2_code
def yX2_readSequence : MethodName := ⟨RX2, "readSequence", "(II)Z"⟩
abbrev cX2_plotRuns : ByteArray := prog_4_method_3_code
def yX2_plotRuns : MethodName := ⟨RX2, "plotRuns", "()V"⟩
abbrev cX2_takeInSequence : ByteArray := prog_4_method_4_code
def yX2_takeInSequence : MethodName := ⟨RX2, "takeInSequence", "(I)V"⟩
abbrev cX2_forget : ByteArray := prog_4_method_5_code
def yX2_forget : MethodName := ⟨RX2, "forget", "()V"⟩
abbrev cX2_make : ByteArray := prog_4_method_6_code
def yX2_make : MethodName := ⟨RX2, "make", "(I)I"⟩
abbrev cX2_hasHours : ByteArray := prog_4_method_7_code
def yX2_hasHours : MethodName := ⟨RX2, "hasHours", "(III)Z"⟩
abbrev cX2_takeHours : ByteArray := prog_4_method_8_code
def yX2_takeHours : MethodName := ⟨RX2, "takeHours", "(III)V"⟩
abbrev cX2_placeOf : ByteArray := prog_4_method_9_code
def yX2_placeOf : MethodName := ⟨RX2, "placeOf", "(IIII)I"⟩
abbrev cX2_findBest : ByteArray := prog_4_method_10_code
def yX2_findBest : MethodName := ⟨RX2, "findBest", "()V"⟩
abbrev cX2_allWorths : ByteArray := prog_4_method_11_code
def yX2_allWorths : MethodName := ⟨RX2, "allWorths", "()I"⟩
abbrev cX2_sequenceDigits : ByteArray := prog_4_method_12_code
def yX2_sequenceDigits : MethodName := ⟨RX2, "sequenceDigits", "()I"⟩
abbrev cX2_goToNextSequence : ByteArray := prog_4_method_13_code
def yX2_goToNextSequence : MethodName := ⟨RX2, "goToNextSequence", "()Z"⟩
abbrev cX2_swap : ByteArray := prog_4_method_14_code
def yX2_swap : MethodName := ⟨RX2, "swap", "(II)V"⟩
def RX3 : String := "ToolDays$Tape"
def TX3 : u_T := fun k => match k with
  | 0 => ("ToolDays$Tape", "bytes", "[I", true)
  | _ => ("ToolDays$Tape", "size", "I", false)
def tyX3 : Nat → FieldType := fun k => match k with
  | 0 => .array .int
  | _ => .int
abbrev wsX30 : List Cond := u_ws RX3 TX3 2
theorem nmX3 : ∀ a, a < 2 → ∀ b, b < 2 → a ≠ b → (TX3 a).2.1 ≠ (TX3 b).2.1 := by decide +kernel
theorem tyX3_ok : ∀ k, k < 2 → parseFieldDescriptor (TX3 k).2.2.1 = some (tyX3 k) := by decide +kernel
abbrev cX3_init : ByteArray := prog_5_method_1_code
def yX3_init : MethodName := ⟨RX3, "<init>", "()V"⟩
abbrev cX3_append : ByteArray := prog_5_method_2_code
def yX3_append : MethodName := ⟨RX3, "append", "(II)V"⟩
def RX4 : String := "ToolDays$TextReader"
def TX4 : u_T := fun k => match k with
  | 0 => ("ToolDays$TextReader", "tape", "LToolDays$Tape;", true)
  | 1 => ("ToolDays$TextReader", "town", "LToolDays$Town;", true)
  | 2 => ("ToolDays$TextReader", "token", "I", false)
  | 3 => ("ToolDays$TextReader", "start", "I", false)
  | 4 => ("ToolDays$TextReader", "end", "I", false)
  | _ => ("ToolDays$TextReader", "value", "I", false)
def tyX4 : Nat → FieldType := fun k => match k with
  | 0 => .object "ToolDays$Tape"
  | 1 => .object "ToolDays$Town"
  | 2 => .int
  | 3 => .int
  | 4 => .int
  | _ => .int
abbrev wsX40 : List Cond := u_ws RX4 TX4 6
theorem nmX4 : ∀ a, a < 6 → ∀ b, b < 6 → a ≠ b → (TX4 a).2.1 ≠ (TX4 b).2.1 := by decide +kernel
theorem tyX4_ok : ∀ k, k < 6 → parseFieldDescriptor (TX4 k).2.2.1 = some (tyX4 k) := by decide +kernel
abbrev cX4_init : ByteArray := prog_6_method_1_code
def yX4_init : MethodName := ⟨RX4, "<init>", "(LToolDays$Tape;LToolDays$Town;)V"⟩
abbrev cX4_readText : ByteArray := prog_6_method_2_code
def yX4_readText : MethodName := ⟨RX4, "readText", "()I"⟩
abbrev cX4_readItem : ByteArray := prog_6_method_3_code
def yX4_readItem : MethodName := ⟨RX4, "readItem", "()Z"⟩
abbrev cX4_readRound : ByteArray := prog_6_method_4_code
def yX4_readRound : MethodName := ⟨RX4, "readRound", "()Z"⟩
abbrev cX4_readNear : ByteArray := prog_6_method_5_code
def yX4_readNear : MethodName := ⟨RX4, "readNear", "()Z"⟩
abbrev cX4_readTool : ByteArray := prog_6_method_6_code
def yX4_readTool : MethodName := ⟨RX4, "readTool", "()Z"⟩
abbrev cX4_readThing : ByteArray := prog_6_method_7_code
def yX4_readThing : MethodName := ⟨RX4, "readThing", "(I)Z"⟩
abbrev cX4_readStep : ByteArray := prog_6_method_8_code
def yX4_readStep : MethodName := ⟨RX4, "readStep", "(I)Z"⟩
abbrev cX4_readOrder : ByteArray := prog_6_method_9_code
def yX4_readOrder : MethodName := ⟨RX4, "readOrder", "()Z"⟩
abbrev cX4_readBehindWord : ByteArray := prog_6_method_10_code
def yX4_readBehindWord : MethodName := ⟨RX4, "readBehindWord", "(Ljava/lang/String;II)Z"⟩
abbrev cX4_isNumber : ByteArray := prog_6_method_11_code
def yX4_isNumber : MethodName := ⟨RX4, "isNumber", "(II)Z"⟩
abbrev cX4_isWord : ByteArray := prog_6_method_12_code
def yX4_isWord : MethodName := ⟨RX4, "isWord", "(Ljava/lang/String;)Z"⟩
abbrev cX4_kindOfWord : ByteArray := prog_6_method_13_code
def yX4_kindOfWord : MethodName := ⟨RX4, "kindOfWord", "()I"⟩
abbrev cX4_nameOfKind : ByteArray := prog_6_method_14_code
def yX4_nameOfKind : MethodName := ⟨RX4, "nameOfKind", "(I)Ljava/lang/String;"⟩
abbrev cX4_goOn : ByteArray := prog_6_method_15_code
def yX4_goOn : MethodName := ⟨RX4, "goOn", "()V"⟩
abbrev cX4_tokenAt : ByteArray := prog_6_method_16_code
def yX4_tokenAt : MethodName := ⟨RX4, "tokenAt", "(I)I"⟩
abbrev cX4_numberAtHand : ByteArray := prog_6_method_17_code
def yX4_numberAtHand : MethodName := ⟨RX4, "numberAtHand", "()I"⟩
def RX5 : String := "ToolDays$Town"
def TX5 : u_T := fun k => match k with
  | 0 => ("ToolDays$Town", "round", "I", false)
  | 1 => ("ToolDays$Town", "near", "I", false)
  | 2 => ("ToolDays$Town", "z", "I", false)
  | 3 => ("ToolDays$Town", "tools", "I", false)
  | 4 => ("ToolDays$Town", "things", "I", false)
  | 5 => ("ToolDays$Town", "orders", "I", false)
  | 6 => ("ToolDays$Town", "toolDays", "[I", true)
  | 7 => ("ToolDays$Town", "kinds", "[I", true)
  | 8 => ("ToolDays$Town", "stepCounts", "[I", true)
  | 9 => ("ToolDays$Town", "stepNumbers", "[I", true)
  | 10 => ("ToolDays$Town", "orderNumbers", "[I", true)
  | _ => ("ToolDays$Town", "spots", "[I", true)
def tyX5 : Nat → FieldType := fun k => match k with
  | 0 => .int
  | 1 => .int
  | 2 => .int
  | 3 => .int
  | 4 => .int
  | 5 => .int
  | 6 => .array .int
  | 7 => .array .int
  | 8 => .array .int
  | 9 => .array .int
  | 10 => .array .int
  | _ => .array .int
abbrev wsX50 : List Cond := u_ws RX5 TX5 12
theorem nmX5 : ∀ a, a < 12 → ∀ b, b < 12 → a ≠ b → (TX5 a).2.1 ≠ (TX5 b).2.1 := by decide +kernel
theorem tyX5_ok : ∀ k, k < 12 → parseFieldDescriptor (TX5 k).2.2.1 = some (tyX5 k) := by decide +kernel
abbrev cX5_init : ByteArray := prog_7_method_1_code
def yX5_init : MethodName := ⟨RX5, "<init>", "()V"⟩
abbrev cX5_takeFrom : ByteArray := prog_7_method_2_code
def yX5_takeFrom : MethodName := ⟨RX5, "takeFrom", "(LToolDays$Town;)V"⟩
abbrev cX5_hasTool : ByteArray := prog_7_method_3_code
def yX5_hasTool : MethodName := ⟨RX5, "hasTool", "(I)Z"⟩
abbrev cX5_hasThing : ByteArray := prog_7_method_4_code
def yX5_hasThing : MethodName := ⟨RX5, "hasThing", "(I)Z"⟩
abbrev cX5_hasStep : ByteArray := prog_7_method_5_code
def yX5_hasStep : MethodName := ⟨RX5, "hasStep", "(II)Z"⟩
abbrev cX5_allowsInStep : ByteArray := prog_7_method_6_code
def yX5_allowsInStep : MethodName := ⟨RX5, "allowsInStep", "(II)Z"⟩
abbrev cX5_addTool : ByteArray := prog_7_method_7_code
def yX5_addTool : MethodName := ⟨RX5, "addTool", "(I)I"⟩
abbrev cX5_addThing : ByteArray := prog_7_method_8_code
def yX5_addThing : MethodName := ⟨RX5, "addThing", "(I)I"⟩
abbrev cX5_addStep : ByteArray := prog_7_method_9_code
def yX5_addStep : MethodName := ⟨RX5, "addStep", "(IIII)I"⟩
abbrev cX5_addOrder : ByteArray := prog_7_method_10_code
def yX5_addOrder : MethodName := ⟨RX5, "addOrder", "(III)I"⟩
abbrev cX5_stepNumber : ByteArray := prog_7_method_11_code
def yX5_stepNumber : MethodName := ⟨RX5, "stepNumber", "(III)I"⟩
abbrev cX5_putStepNumber : ByteArray := prog_7_method_12_code
def yX5_putStepNumber : MethodName := ⟨RX5, "putStepNumber", "(IIII)V"⟩
abbrev cX5_orderNumber : ByteArray := prog_7_method_13_code
def yX5_orderNumber : MethodName := ⟨RX5, "orderNumber", "(II)I"⟩
abbrev cX5_wholeRound : ByteArray := prog_7_method_14_code
def yX5_wholeRound : MethodName := ⟨RX5, "wholeRound", "()I"⟩
abbrev cX5_goneOn : ByteArray := prog_7_method_15_code
def yX5_goneOn : MethodName := ⟨RX5, "goneOn", "(II)I"⟩
abbrev cX5_hoursWith : ByteArray := prog_7_method_16_code
def yX5_hoursWith : MethodName := ⟨RX5, "hoursWith", "(II)I"⟩
abbrev cX5_mostBy : ByteArray := prog_7_method_17_code
def yX5_mostBy : MethodName := ⟨RX5, "mostBy", "(II)I"⟩
abbrev cX5_chokingTool : ByteArray := prog_7_method_18_code
def yX5_chokingTool : MethodName := ⟨RX5, "chokingTool", "(I)I"⟩
abbrev cX5_heldSpots : ByteArray := prog_7_method_19_code
def yX5_heldSpots : MethodName := ⟨RX5, "heldSpots", "()I"⟩
abbrev cX5_draw : ByteArray := prog_7_method_20_code
def yX5_draw : MethodName := ⟨RX5, "draw", "()I"⟩
def RX6 : String := "ToolDays"
def TX6 : u_T := fun k => match k with
  | 0 => ("ToolDays", "town", "LToolDays$Town;", true)
  | 1 => ("ToolDays", "kept", "LToolDays$Town;", true)
  | 2 => ("ToolDays", "spare", "LToolDays$Town;", true)
  | 3 => ("ToolDays", "tape", "LToolDays$Tape;", true)
  | 4 => ("ToolDays", "almanac", "LToolDays$Almanac;", true)
  | 5 => ("ToolDays", "shop", "LToolDays$Shop;", true)
  | 6 => ("ToolDays", "reader", "LToolDays$TextReader;", true)
  | 7 => ("ToolDays", "sheets", "[LToolDays$Sheet;", true)
  | 8 => ("ToolDays", "findings", "[I", true)
  | _ => ("ToolDays", "isKept", "Z", false)
def tyX6 : Nat → FieldType := fun k => match k with
  | 0 => .object "ToolDays$Town"
  | 1 => .object "ToolDays$Town"
  | 2 => .object "ToolDays$Town"
  | 3 => .object "ToolDays$Tape"
  | 4 => .object "ToolDays$Almanac"
  | 5 => .object "ToolDays$Shop"
  | 6 => .object "ToolDays$TextReader"
  | 7 => .array (.object "ToolDays$Sheet")
  | 8 => .array .int
  | _ => .boolean
abbrev wsX60 : List Cond := u_ws RX6 TX6 10
theorem nmX6 : ∀ a, a < 10 → ∀ b, b < 10 → a ≠ b → (TX6 a).2.1 ≠ (TX6 b).2.1 := by decide +kernel
theorem tyX6_ok : ∀ k, k < 10 → parseFieldDescriptor (TX6 k).2.2.1 = some (tyX6 k) := by decide +kernel
abbrev cX6_init : ByteArray := prog_1_method_1_code
def yX6_init : MethodName := ⟨RX6, "<init>", "()V"⟩
abbrev cX6_feed : ByteArray := prog_1_method_2_code
def yX6_feed : MethodName := ⟨RX6, "feed", "(II)I"⟩
abbrev cX6_wipe : ByteArray := prog_1_method_3_code
def yX6_wipe : MethodName := ⟨RX6, "wipe", "()I"⟩
abbrev cX6_town : ByteArray := prog_1_method_4_code
def yX6_town : MethodName := ⟨RX6, "town", "()I"⟩
abbrev cX6_round : ByteArray := prog_1_method_5_code
def yX6_round : MethodName := ⟨RX6, "round", "(I)I"⟩
abbrev cX6_near : ByteArray := prog_1_method_6_code
def yX6_near : MethodName := ⟨RX6, "near", "(I)I"⟩
abbrev cX6_tool : ByteArray := prog_1_method_7_code
def yX6_tool : MethodName := ⟨RX6, "tool", "(I)I"⟩
abbrev cX6_days : ByteArray := prog_1_method_8_code
def yX6_days : MethodName := ⟨RX6, "days", "(II)I"⟩
abbrev cX6_may : ByteArray := prog_1_method_9_code
def yX6_may : MethodName := ⟨RX6, "may", "(II)I"⟩
abbrev cX6_thing : ByteArray := prog_1_method_10_code
def yX6_thing : MethodName := ⟨RX6, "thing", "(III)I"⟩
abbrev cX6_step : ByteArray := prog_1_method_11_code
def yX6_step : MethodName := ⟨RX6, "step", "(IIII)I"⟩
abbrev cX6_thingOf : ByteArray := prog_1_method_12_code
def yX6_thingOf : MethodName := ⟨RX6, "thingOf", "(III)I"⟩
abbrev cX6_turn : ByteArray := prog_1_method_13_code
def yX6_turn : MethodName := ⟨RX6, "turn", "(II)I"⟩
abbrev cX6_change : ByteArray := prog_1_method_14_code
def yX6_change : MethodName := ⟨RX6, "change", "(IIII)I"⟩
abbrev cX6_next : ByteArray := prog_1_method_15_code
def yX6_next : MethodName := ⟨RX6, "next", "(III)I"⟩
abbrev cX6_run : ByteArray := prog_1_method_16_code
def yX6_run : MethodName := ⟨RX6, "run", "(III)I"⟩
abbrev cX6_spoils : ByteArray := prog_1_method_17_code
def yX6_spoils : MethodName := ⟨RX6, "spoils", "(II)I"⟩
abbrev cX6_ready : ByteArray := prog_1_method_18_code
def yX6_ready : MethodName := ⟨RX6, "ready", "(II)I"⟩
abbrev cX6_begun : ByteArray := prog_1_method_19_code
def yX6_begun : MethodName := ⟨RX6, "begun", "(II)I"⟩
abbrev cX6_latest : ByteArray := prog_1_method_20_code
def yX6_latest : MethodName := ⟨RX6, "latest", "(II)I"⟩
abbrev cX6_waits : ByteArray := prog_1_method_21_code
def yX6_waits : MethodName := ⟨RX6, "waits", "(II)I"⟩
abbrev cX6_order : ByteArray := prog_1_method_22_code
def yX6_order : MethodName := ⟨RX6, "order", "(III)I"⟩
abbrev cX6_orderOf : ByteArray := prog_1_method_23_code
def yX6_orderOf : MethodName := ⟨RX6, "orderOf", "(II)I"⟩
abbrev cX6_clear : ByteArray := prog_1_method_24_code
def yX6_clear : MethodName := ⟨RX6, "clear", "()I"⟩
abbrev cX6_taken : ByteArray := prog_1_method_25_code
def yX6_taken : MethodName := ⟨RX6, "taken", "(III)I"⟩
abbrev cX6_best : ByteArray := prog_1_method_26_code
def yX6_best : MethodName := ⟨RX6, "best", "(I)I"⟩
abbrev cX6_most : ByteArray := prog_1_method_27_code
def yX6_most : MethodName := ⟨RX6, "most", "(I)I"⟩
abbrev cX6_chokes : ByteArray := prog_1_method_28_code
def yX6_chokes : MethodName := ⟨RX6, "chokes", "(I)I"⟩
abbrev cX6_idle : ByteArray := prog_1_method_29_code
def yX6_idle : MethodName := ⟨RX6, "idle", "(I)I"⟩
abbrev cX6_turned : ByteArray := prog_1_method_30_code
def yX6_turned : MethodName := ⟨RX6, "turned", "(I)I"⟩
abbrev cX6_roundFor : ByteArray := prog_1_method_31_code
def yX6_roundFor : MethodName := ⟨RX6, "roundFor", "(II)I"⟩
abbrev cX6_nearFor : ByteArray := prog_1_method_32_code
def yX6_nearFor : MethodName := ⟨RX6, "nearFor", "(II)I"⟩
abbrev cX6_chance : ByteArray := prog_1_method_33_code
def yX6_chance : MethodName := ⟨RX6, "chance", "(II)I"⟩
abbrev cX6_seed : ByteArray := prog_1_method_34_code
def yX6_seed : MethodName := ⟨RX6, "seed", "(I)I"⟩
abbrev cX6_hold : ByteArray := prog_1_method_35_code
def yX6_hold : MethodName := ⟨RX6, "hold", "(II)I"⟩
abbrev cX6_as : ByteArray := prog_1_method_36_code
def yX6_as : MethodName := ⟨RX6, "as", "(II)I"⟩
abbrev cX6_sheet : ByteArray := prog_1_method_37_code
def yX6_sheet : MethodName := ⟨RX6, "sheet", "(III)I"⟩
abbrev cX6_write : ByteArray := prog_1_method_38_code
def yX6_write : MethodName := ⟨RX6, "write", "(III)I"⟩
abbrev cX6_copy : ByteArray := prog_1_method_39_code
def yX6_copy : MethodName := ⟨RX6, "copy", "(IIIII)I"⟩
abbrev cX6_load : ByteArray := prog_1_method_40_code
def yX6_load : MethodName := ⟨RX6, "load", "(I)I"⟩
abbrev cX6_judge : ByteArray := prog_1_method_41_code
def yX6_judge : MethodName := ⟨RX6, "judge", "(II)I"⟩
abbrev cX6_image : ByteArray := prog_1_method_42_code
def yX6_image : MethodName := ⟨RX6, "image", "()I"⟩
abbrev cX6_undo : ByteArray := prog_1_method_43_code
def yX6_undo : MethodName := ⟨RX6, "undo", "()I"⟩
abbrev cX6_tear : ByteArray := prog_1_method_44_code
def yX6_tear : MethodName := ⟨RX6, "tear", "()I"⟩
abbrev cX6_count : ByteArray := prog_1_method_45_code
def yX6_count : MethodName := ⟨RX6, "count", "(I)I"⟩
abbrev cX6_status : ByteArray := prog_1_method_46_code
def yX6_status : MethodName := ⟨RX6, "status", "(I)I"⟩
abbrev cX6_found : ByteArray := prog_1_method_47_code
def yX6_found : MethodName := ⟨RX6, "found", "(I)I"⟩
abbrev cX6_dayOrNone : ByteArray := prog_1_method_48_code
def yX6_dayOrNone : MethodName := ⟨RX6, "dayOrNone", "(I)I"⟩
abbrev cX6_within : ByteArray := prog_1_method_49_code
def yX6_within : MethodName := ⟨RX6, "within", "(III)Z"⟩
abbrev cX6_isSheet : ByteArray := prog_1_method_50_code
def yX6_isSheet : MethodName := ⟨RX6, "isSheet", "(I)Z"⟩
abbrev cX6_isSooner : ByteArray := prog_1_method_51_code
def yX6_isSooner : MethodName := ⟨RX6, "isSooner", "(II)Z"⟩
abbrev cX6_isUnder : ByteArray := prog_1_method_52_code
def yX6_isUnder : MethodName := ⟨RX6, "isUnder", "(II)Z"⟩
abbrev cX6_kindAbove : ByteArray := prog_1_method_53_code
def yX6_kindAbove : MethodName := ⟨RX6, "kindAbove", "(I)I"⟩
def RX7 : String := "ToolDaysModel"
def TX7 : u_T := fun k => match k with
  | 0 => ("ToolDaysModel", "m", "[I", true)
  | 1 => ("ToolDaysModel", "kept", "[I", true)
  | 2 => ("ToolDaysModel", "isKept", "Z", false)
  | 3 => ("ToolDaysModel", "found", "[I", true)
  | 4 => ("ToolDaysModel", "tape", "[I", true)
  | 5 => ("ToolDaysModel", "taped", "I", false)
  | 6 => ("ToolDaysModel", "sort", "I", false)
  | 7 => ("ToolDaysModel", "from", "I", false)
  | 8 => ("ToolDaysModel", "to", "I", false)
  | 9 => ("ToolDaysModel", "value", "I", false)
  | 10 => ("ToolDaysModel", "bad", "Z", false)
  | 11 => ("ToolDaysModel", "ahead", "[I", true)
  | 12 => ("ToolDaysModel", "on", "[I", true)
  | 13 => ("ToolDaysModel", "hours", "[I", true)
  | 14 => ("ToolDaysModel", "worth", "I", false)
  | 15 => ("ToolDaysModel", "inTime", "I", false)
  | 16 => ("ToolDaysModel", "lastOf", "I", false)
  | 17 => ("ToolDaysModel", "bits", "[I", true)
  | 18 => ("ToolDaysModel", "size", "[I", true)
  | _ => ("ToolDaysModel", "number", "[I", true)
def tyX7 : Nat → FieldType := fun k => match k with
  | 0 => .array .int
  | 1 => .array .int
  | 2 => .boolean
  | 3 => .array .int
  | 4 => .array .int
  | 5 => .int
  | 6 => .int
  | 7 => .int
  | 8 => .int
  | 9 => .int
  | 10 => .boolean
  | 11 => .array .int
  | 12 => .array .int
  | 13 => .array .int
  | 14 => .int
  | 15 => .int
  | 16 => .int
  | 17 => .array .int
  | 18 => .array .int
  | _ => .array .int
abbrev wsX70 : List Cond := u_ws RX7 TX7 20
theorem nmX7 : ∀ a, a < 20 → ∀ b, b < 20 → a ≠ b → (TX7 a).2.1 ≠ (TX7 b).2.1 := by decide +kernel
theorem tyX7_ok : ∀ k, k < 20 → parseFieldDescriptor (TX7 k).2.2.1 = some (tyX7 k) := by decide +kernel
abbrev cX7_init : ByteArray := prog_9_method_1_code
def yX7_init : MethodName := ⟨RX7, "<init>", "()V"⟩
abbrev cX7_finds : ByteArray := prog_9_method_2_code
def yX7_finds : MethodName := ⟨RX7, "finds", "(I)I"⟩
abbrev cX7_orNone : ByteArray := prog_9_method_3_code
def yX7_orNone : MethodName := ⟨RX7, "orNone", "(I)I"⟩
abbrev cX7_in : ByteArray := prog_9_method_4_code
def yX7_in : MethodName := ⟨RX7, "in", "(JJJ)Z"⟩
abbrev cX7_has : ByteArray := prog_9_method_5_code
def yX7_has : MethodName := ⟨RX7, "has", "(II)Z"⟩
abbrev cX7_isTool : ByteArray := prog_9_method_6_code
def yX7_isTool : MethodName := ⟨RX7, "isTool", "(I)Z"⟩
abbrev cX7_isThing : ByteArray := prog_9_method_7_code
def yX7_isThing : MethodName := ⟨RX7, "isThing", "(I)Z"⟩
abbrev cX7_isDay : ByteArray := prog_9_method_8_code
def yX7_isDay : MethodName := ⟨RX7, "isDay", "(I)Z"⟩
abbrev cX7_isKind : ByteArray := prog_9_method_9_code
def yX7_isKind : MethodName := ⟨RX7, "isKind", "(I)Z"⟩
abbrev cX7_becomes : ByteArray := prog_9_method_10_code
def yX7_becomes : MethodName := ⟨RX7, "becomes", "(II)I"⟩
abbrev cX7_kindOf : ByteArray := prog_9_method_11_code
def yX7_kindOf : MethodName := ⟨RX7, "kindOf", "(I)I"⟩
abbrev cX7_steps : ByteArray := prog_9_method_12_code
def yX7_steps : MethodName := ⟨RX7, "steps", "(I)I"⟩
abbrev cX7_at : ByteArray := prog_9_method_13_code
def yX7_at : MethodName := ⟨RX7, "at", "(III)I"⟩
abbrev cX7_of : ByteArray := prog_9_method_14_code
def yX7_of : MethodName := ⟨RX7, "of", "(III)I"⟩
abbrev cX7_isStep : ByteArray := prog_9_method_15_code
def yX7_isStep : MethodName := ⟨RX7, "isStep", "(II)Z"⟩
abbrev cX7_feed : ByteArray := prog_9_method_16_code
def yX7_feed : MethodName := ⟨RX7, "feed", "(II)I"⟩
abbrev cX7_wipe : ByteArray := prog_9_method_17_code
def yX7_wipe : MethodName := ⟨RX7, "wipe", "()I"⟩
abbrev cX7_isByte : ByteArray := prog_9_method_18_code
def yX7_isByte : MethodName := ⟨RX7, "isByte", "(III)Z"⟩
abbrev cX7_token : ByteArray := prog_9_method_19_code
def yX7_token : MethodName := ⟨RX7, "token", "()V"⟩
abbrev cX7_isWord : ByteArray := prog_9_method_20_code
def yX7_isWord : MethodName := ⟨RX7, "isWord", "(Ljava/lang/String;)Z"⟩
abbrev cX7_takes : ByteArray := prog_9_method_21_code
def yX7_takes : MethodName := ⟨RX7, "takes", "(Ljava/lang/String;)Z"⟩
abbrev cX7_isSign : ByteArray := prog_9_method_22_code
def yX7_isSign : MethodName := ⟨RX7, "isSign", "(I)Z"⟩
abbrev cX7_number : ByteArray := prog_9_method_23_code
def yX7_number : MethodName := ⟨RX7, "number", "(II)I"⟩
abbrev cX7_word : ByteArray := prog_9_method_24_code
def yX7_word : MethodName := ⟨RX7, "word", "(Ljava/lang/String;)V"⟩
abbrev cX7_kindHere : ByteArray := prog_9_method_25_code
def yX7_kindHere : MethodName := ⟨RX7, "kindHere", "()I"⟩
abbrev cX7_toolItem : ByteArray := prog_9_method_26_code
def yX7_toolItem : MethodName := ⟨RX7, "toolItem", "()V"⟩
abbrev cX7_thingItem : ByteArray := prog_9_method_27_code
def yX7_thingItem : MethodName := ⟨RX7, "thingItem", "(I)V"⟩
abbrev cX7_orderItem : ByteArray := prog_9_method_28_code
def yX7_orderItem : MethodName := ⟨RX7, "orderItem", "()V"⟩
abbrev cX7_item : ByteArray := prog_9_method_29_code
def yX7_item : MethodName := ⟨RX7, "item", "()V"⟩
abbrev cX7_town : ByteArray := prog_9_method_30_code
def yX7_town : MethodName := ⟨RX7, "town", "()I"⟩
abbrev cX7_round : ByteArray := prog_9_method_31_code
def yX7_round : MethodName := ⟨RX7, "round", "(I)I"⟩
abbrev cX7_near : ByteArray := prog_9_method_32_code
def yX7_near : MethodName := ⟨RX7, "near", "(I)I"⟩
abbrev cX7_tool : ByteArray := prog_9_method_33_code
def yX7_tool : MethodName := ⟨RX7, "tool", "(I)I"⟩
abbrev cX7_days : ByteArray := prog_9_method_34_code
def yX7_days : MethodName := ⟨RX7, "days", "(II)I"⟩
abbrev cX7_mayBe : ByteArray := prog_9_method_35_code
def yX7_mayBe : MethodName := ⟨RX7, "mayBe", "(II)Z"⟩
abbrev cX7_mayNear : ByteArray := prog_9_method_36_code
def yX7_mayNear : MethodName := ⟨RX7, "mayNear", "(II)Z"⟩
abbrev cX7_may : ByteArray := prog_9_method_37_code
def yX7_may : MethodName := ⟨RX7, "may", "(II)I"⟩
abbrev cX7_thing : ByteArray := prog_9_method_38_code
def yX7_thing : MethodName := ⟨RX7, "thing", "(III)I"⟩
abbrev cX7_step : ByteArray := prog_9_method_39_code
def yX7_step : MethodName := ⟨RX7, "step", "(IIII)I"⟩
abbrev cX7_thingOf : ByteArray := prog_9_method_40_code
def yX7_thingOf : MethodName := ⟨RX7, "thingOf", "(III)I"⟩
abbrev cX7_turn : ByteArray := prog_9_method_41_code
def yX7_turn : MethodName := ⟨RX7, "turn", "(II)I"⟩
abbrev cX7_change : ByteArray := prog_9_method_42_code
def yX7_change : MethodName := ⟨RX7, "change", "(IIII)I"⟩
abbrev cX7_firstFrom : ByteArray := prog_9_method_43_code
def yX7_firstFrom : MethodName := ⟨RX7, "firstFrom", "(II)I"⟩
abbrev cX7_firstNear : ByteArray := prog_9_method_44_code
def yX7_firstNear : MethodName := ⟨RX7, "firstNear", "(II)I"⟩
abbrev cX7_begin : ByteArray := prog_9_method_45_code
def yX7_begin : MethodName := ⟨RX7, "begin", "(I)I"⟩
abbrev cX7_lesser : ByteArray := prog_9_method_46_code
def yX7_lesser : MethodName := ⟨RX7, "lesser", "(II)I"⟩
abbrev cX7_nextOf : ByteArray := prog_9_method_47_code
def yX7_nextOf : MethodName := ⟨RX7, "nextOf", "(III)I"⟩
abbrev cX7_next : ByteArray := prog_9_method_48_code
def yX7_next : MethodName := ⟨RX7, "next", "(III)I"⟩
abbrev cX7_runs : ByteArray := prog_9_method_49_code
def yX7_runs : MethodName := ⟨RX7, "runs", "(II)I"⟩
abbrev cX7_lastDay : ByteArray := prog_9_method_50_code
def yX7_lastDay : MethodName := ⟨RX7, "lastDay", "(I)I"⟩
abbrev cX7_run : ByteArray := prog_9_method_51_code
def yX7_run : MethodName := ⟨RX7, "run", "(III)I"⟩
abbrev cX7_spoils : ByteArray := prog_9_method_52_code
def yX7_spoils : MethodName := ⟨RX7, "spoils", "(II)I"⟩
abbrev cX7_beginsAt : ByteArray := prog_9_method_53_code
def yX7_beginsAt : MethodName := ⟨RX7, "beginsAt", "(II)I"⟩
abbrev cX7_readyAt : ByteArray := prog_9_method_54_code
def yX7_readyAt : MethodName := ⟨RX7, "readyAt", "(II)I"⟩
abbrev cX7_ready : ByteArray := prog_9_method_55_code
def yX7_ready : MethodName := ⟨RX7, "ready", "(II)I"⟩
abbrev cX7_begun : ByteArray := prog_9_method_56_code
def yX7_begun : MethodName := ⟨RX7, "begun", "(II)I"⟩
abbrev cX7_latest : ByteArray := prog_9_method_57_code
def yX7_latest : MethodName := ⟨RX7, "latest", "(II)I"⟩
abbrev cX7_waits : ByteArray := prog_9_method_58_code
def yX7_waits : MethodName := ⟨RX7, "waits", "(II)I"⟩
abbrev cX7_order : ByteArray := prog_9_method_59_code
def yX7_order : MethodName := ⟨RX7, "order", "(III)I"⟩
abbrev cX7_orderOf : ByteArray := prog_9_method_60_code
def yX7_orderOf : MethodName := ⟨RX7, "orderOf", "(II)I"⟩
abbrev cX7_clear : ByteArray := prog_9_method_61_code
def yX7_clear : MethodName := ⟨RX7, "clear", "()I"⟩
abbrev cX7_noOrders : ByteArray := prog_9_method_62_code
def yX7_noOrders : MethodName := ⟨RX7, "noOrders", "()V"⟩
abbrev cX7_slot : ByteArray := prog_9_method_63_code
def yX7_slot : MethodName := ⟨RX7, "slot", "(II)I"⟩
abbrev cX7_gets : ByteArray := prog_9_method_64_code
def yX7_gets : MethodName := ⟨RX7, "gets", "(II)V"⟩
abbrev cX7_areFree : ByteArray := prog_9_method_65_code
def yX7_areFree : MethodName := ⟨RX7, "areFree", "(I)Z"⟩
abbrev cX7_takesOrder : ByteArray := prog_9_method_66_code
def yX7_takesOrder : MethodName := ⟨RX7, "takesOrder", "(I)V"⟩
abbrev cX7_areOrders : ByteArray := prog_9_method_67_code
def yX7_areOrders : MethodName := ⟨RX7, "areOrders", "(II)Z"⟩
abbrev cX7_takesAll : ByteArray := prog_9_method_68_code
def yX7_takesAll : MethodName := ⟨RX7, "takesAll", "(II)V"⟩
abbrev cX7_taken : ByteArray := prog_9_method_69_code
def yX7_taken : MethodName := ⟨RX7, "taken", "(III)I"⟩
abbrev cX7_best : ByteArray := prog_9_method_70_code
def yX7_best : MethodName := ⟨RX7, "best", "(I)I"⟩
abbrev cX7_mostOf : ByteArray := prog_9_method_71_code
def yX7_mostOf : MethodName := ⟨RX7, "mostOf", "(II)I"⟩
abbrev cX7_chokesAt : ByteArray := prog_9_method_72_code
def yX7_chokesAt : MethodName := ⟨RX7, "chokesAt", "(I)I"⟩
abbrev cX7_most : ByteArray := prog_9_method_73_code
def yX7_most : MethodName := ⟨RX7, "most", "(I)I"⟩
abbrev cX7_chokes : ByteArray := prog_9_method_74_code
def yX7_chokes : MethodName := ⟨RX7, "chokes", "(I)I"⟩
abbrev cX7_idle : ByteArray := prog_9_method_75_code
def yX7_idle : MethodName := ⟨RX7, "idle", "(I)I"⟩
abbrev cX7_turnedBy : ByteArray := prog_9_method_76_code
def yX7_turnedBy : MethodName := ⟨RX7, "turnedBy", "(II)I"⟩
abbrev cX7_turned : ByteArray := prog_9_method_77_code
def yX7_turned : MethodName := ⟨RX7, "turned", "(I)I"⟩
abbrev cX7_soonest : ByteArray := prog_9_method_78_code
def yX7_soonest : MethodName := ⟨RX7, "soonest", "(IIIII)I"⟩
abbrev cX7_roundFor : ByteArray := prog_9_method_79_code
def yX7_roundFor : MethodName := ⟨RX7, "roundFor", "(II)I"⟩
abbrev cX7_nearFor : ByteArray := prog_9_method_80_code
def yX7_nearFor : MethodName := ⟨RX7, "nearFor", "(II)I"⟩
abbrev cX7_chance : ByteArray := prog_9_method_81_code
def yX7_chance : MethodName := ⟨RX7, "chance", "(II)I"⟩
abbrev cX7_seed : ByteArray := prog_9_method_82_code
def yX7_seed : MethodName := ⟨RX7, "seed", "(I)I"⟩
abbrev cX7_hold : ByteArray := prog_9_method_83_code
def yX7_hold : MethodName := ⟨RX7, "hold", "(II)I"⟩
abbrev cX7_above : ByteArray := prog_9_method_84_code
def yX7_above : MethodName := ⟨RX7, "above", "(I)I"⟩
abbrev cX7_as : ByteArray := prog_9_method_85_code
def yX7_as : MethodName := ⟨RX7, "as", "(II)I"⟩
abbrev cX7_isSheet : ByteArray := prog_9_method_86_code
def yX7_isSheet : MethodName := ⟨RX7, "isSheet", "(I)Z"⟩
abbrev cX7_sheet : ByteArray := prog_9_method_87_code
def yX7_sheet : MethodName := ⟨RX7, "sheet", "(III)I"⟩
abbrev cX7_write : ByteArray := prog_9_method_88_code
def yX7_write : MethodName := ⟨RX7, "write", "(III)I"⟩
abbrev cX7_copy : ByteArray := prog_9_method_89_code
def yX7_copy : MethodName := ⟨RX7, "copy", "(IIIII)I"⟩
abbrev cX7_load : ByteArray := prog_9_method_90_code
def yX7_load : MethodName := ⟨RX7, "load", "(I)I"⟩
abbrev cX7_isRight : ByteArray := prog_9_method_91_code
def yX7_isRight : MethodName := ⟨RX7, "isRight", "(IIII)Z"⟩
abbrev cX7_judge : ByteArray := prog_9_method_92_code
def yX7_judge : MethodName := ⟨RX7, "judge", "(II)I"⟩
abbrev cX7_image : ByteArray := prog_9_method_93_code
def yX7_image : MethodName := ⟨RX7, "image", "()I"⟩
abbrev cX7_undo : ByteArray := prog_9_method_94_code
def yX7_undo : MethodName := ⟨RX7, "undo", "()I"⟩
abbrev cX7_tear : ByteArray := prog_9_method_95_code
def yX7_tear : MethodName := ⟨RX7, "tear", "()I"⟩
abbrev cX7_count : ByteArray := prog_9_method_96_code
def yX7_count : MethodName := ⟨RX7, "count", "(I)I"⟩
abbrev cX7_status : ByteArray := prog_9_method_97_code
def yX7_status : MethodName := ⟨RX7, "status", "(I)I"⟩
def RJ6 : String := "java/lang/Integer"
def TJ6 : u_T := fun k => match k with
  | _ => ("", "", "", false)
def tyJ6 : Nat → FieldType := fun k => match k with
  | _ => .int
theorem nmJ6 : ∀ a, a < 0 → ∀ b, b < 0 → a ≠ b → (TJ6 a).2.1 ≠ (TJ6 b).2.1 := by decide +kernel
theorem tyJ6_ok : ∀ k, k < 0 → parseFieldDescriptor (TJ6 k).2.2.1 = some (tyJ6 k) := by decide +kernel
abbrev cJ6_bitCount_0f7a4 : ByteArray := prog_10_method_49_code
def yJ6_bitCount_0f7a4 : MethodName := ⟨RJ6, "bitCount", "(I)I"⟩
def RJ9 : String := "java/lang/Math"
def TJ9 : u_T := fun k => match k with
  | _ => ("", "", "", false)
def tyJ9 : Nat → FieldType := fun k => match k with
  | _ => .int
theorem nmJ9 : ∀ a, a < 0 → ∀ b, b < 0 → a ≠ b → (TJ9 a).2.1 ≠ (TJ9 b).2.1 := by decide +kernel
theorem tyJ9_ok : ∀ k, k < 0 → parseFieldDescriptor (TJ9 k).2.2.1 = some (tyJ9 k) := by decide +kernel
abbrev cJ9_max_7cf53 : ByteArray := prog_11_method_65_code
def yJ9_max_7cf53 : MethodName := ⟨RJ9, "max", "(II)I"⟩
abbrev cJ9_min_7cf53 : ByteArray := prog_11_method_69_code
def yJ9_min_7cf53 : MethodName := ⟨RJ9, "min", "(II)I"⟩
def RJ0 : String := "java/lang/String"
def TJ0 : u_T := fun k => match k with
  | _ => ("", "", "", false)
def tyJ0 : Nat → FieldType := fun k => match k with
  | _ => .int
theorem nmJ0 : ∀ a, a < 0 → ∀ b, b < 0 → a ≠ b → (TJ0 a).2.1 ≠ (TJ0 b).2.1 := by decide +kernel
theorem tyJ0_ok : ∀ k, k < 0 → parseFieldDescriptor (TJ0 k).2.2.1 = some (tyJ0 k) := by decide +kernel
abbrev cJ0_length_8abf5 : ByteArray := prog_12_method_54_code
def yJ0_length_8abf5 : MethodName := ⟨RJ0, "length", "()I"⟩
abbrev cJ0_charAt_5068e : ByteArray := prog_12_method_56_code
def yJ0_charAt_5068e : MethodName := ⟨RJ0, "charAt", "(I)C"⟩
abbrev cJ0_coder_7d493 : ByteArray := prog_12_method_152_code
def yJ0_coder_7d493 : MethodName := ⟨RJ0, "coder", "()B"⟩
abbrev cJ0_isLatin1_aae02 : ByteArray := prog_12_method_154_code
def yJ0_isLatin1_aae02 : MethodName := ⟨RJ0, "isLatin1", "()Z"⟩
abbrev cJ0_checkIndex_df160 : ByteArray := prog_12_method_155_code
def yJ0_checkIndex_df160 : MethodName := ⟨RJ0, "checkIndex", "(II)V"⟩
def RJ1 : String := "java/lang/StringLatin1"
def TJ1 : u_T := fun k => match k with
  | _ => ("", "", "", false)
def tyJ1 : Nat → FieldType := fun k => match k with
  | _ => .int
theorem nmJ1 : ∀ a, a < 0 → ∀ b, b < 0 → a ≠ b → (TJ1 a).2.1 ≠ (TJ1 b).2.1 := by decide +kernel
theorem tyJ1_ok : ∀ k, k < 0 → parseFieldDescriptor (TJ1 k).2.2.1 = some (tyJ1 k) := by decide +kernel
abbrev cJ1_charAt_3b067 : ByteArray := prog_13_method_2_code
def yJ1_charAt_3b067 : MethodName := ⟨RJ1, "charAt", "([BI)C"⟩
def RJ2 : String := "java/lang/StringUTF16"
def TJ2 : u_T := fun k => match k with
  | _ => ("", "", "", false)
def tyJ2 : Nat → FieldType := fun k => match k with
  | _ => .int
theorem nmJ2 : ∀ a, a < 0 → ∀ b, b < 0 → a ≠ b → (TJ2 a).2.1 ≠ (TJ2 b).2.1 := by decide +kernel
theorem tyJ2_ok : ∀ k, k < 0 → parseFieldDescriptor (TJ2 k).2.2.1 = some (tyJ2 k) := by decide +kernel
abbrev cJ2_getChar_3b067 : ByteArray := prog_14_method_5_code
def yJ2_getChar_3b067 : MethodName := ⟨RJ2, "getChar", "([BI)C"⟩
abbrev cJ2_length_9d52b : ByteArray := prog_14_method_6_code
def yJ2_length_9d52b : MethodName := ⟨RJ2, "length", "([B)I"⟩
abbrev cJ2_charAt_3b067 : ByteArray := prog_14_method_83_code
def yJ2_charAt_3b067 : MethodName := ⟨RJ2, "charAt", "([BI)C"⟩
abbrev cJ2_checkIndex_2214a : ByteArray := prog_14_method_91_code
def yJ2_checkIndex_2214a : MethodName := ⟨RJ2, "checkIndex", "(I[B)V"⟩
def RJ10 : String := "java/lang/System"
def TJ10 : u_T := fun k => match k with
  | _ => ("", "", "", false)
def tyJ10 : Nat → FieldType := fun k => match k with
  | _ => .int
theorem nmJ10 : ∀ a, a < 0 → ∀ b, b < 0 → a ≠ b → (TJ10 a).2.1 ≠ (TJ10 b).2.1 := by decide +kernel
theorem tyJ10_ok : ∀ k, k < 0 → parseFieldDescriptor (TJ10 k).2.2.1 = some (tyJ10 k) := by decide +kernel
def RJ3 : String := "jdk/internal/util/Preconditions"
def TJ3 : u_T := fun k => match k with
  | _ => ("", "", "", false)
def tyJ3 : Nat → FieldType := fun k => match k with
  | _ => .int
theorem nmJ3 : ∀ a, a < 0 → ∀ b, b < 0 → a ≠ b → (TJ3 a).2.1 ≠ (TJ3 b).2.1 := by decide +kernel
theorem tyJ3_ok : ∀ k, k < 0 → parseFieldDescriptor (TJ3 k).2.2.1 = some (tyJ3 k) := by decide +kernel
abbrev cJ3_checkIndex_8e157 : ByteArray := prog_16_method_11_code
def yJ3_checkIndex_8e157 : MethodName := ⟨RJ3, "checkIndex", "(IILjava/util/function/BiFunction;)I"⟩
def RL : String := "ToolDaysLaw"
abbrev cL_law : ByteArray := code
def yL_law : MethodName := ⟨RL, "law", "([I)Z"⟩
abbrev vwCl : List vw_C := [(RX0, TX0, 2), (RX1, TX1, 3), (RX2, TX2, 15), (RX3, TX3, 2), (RX4, TX4, 6), (RX5, TX5, 12), (RX6, TX6, 10), (RX7, TX7, 20)]
end
section
theorem dX0_init_0 : decode cX0_init 0 = .ok (.aload_n 0, 1) := by decide +kernel
theorem dX0_init_1 : decode cX0_init 1 = .ok (.invokespecial 3, 3) := by decide +kernel
theorem dX0_init_4 : decode cX0_init 4 = .ok (.aload_n 0, 1) := by decide +kernel
theorem dX0_init_5 : decode cX0_init 5 = .ok (.bipush 8, 2) := by decide +kernel
theorem dX0_init_7 : decode cX0_init 7 = .ok (.newarray .int, 2) := by decide +kernel
theorem dX0_init_9 : decode cX0_init 9 = .ok (.putfield 9, 3) := by decide +kernel
theorem dX0_init_12 : decode cX0_init 12 = .ok (.aload_n 0, 1) := by decide +kernel
theorem dX0_init_13 : decode cX0_init 13 = .ok (.aload_n 1, 1) := by decide +kernel
theorem dX0_init_14 : decode cX0_init 14 = .ok (.putfield 15, 3) := by decide +kernel
theorem dX0_init_17 : decode cX0_init 17 = .ok (.return_, 1) := by decide +kernel
theorem dX0_firstDay_0 : decode cX0_firstDay 0 = .ok (.aload_n 0, 1) := by decide +kernel
theorem dX0_firstDay_1 : decode cX0_firstDay 1 = .ok (.getfield 15, 3) := by decide +kernel
theorem dX0_firstDay_4 : decode cX0_firstDay 4 = .ok (.getfield 19, 3) := by decide +kernel
theorem dX0_firstDay_7 : decode cX0_firstDay 7 = .ok (.iload_n 1, 1) := by decide +kernel
theorem dX0_firstDay_8 : decode cX0_firstDay 8 = .ok (.iaload, 1) := by decide +kernel
theorem dX0_firstDay_9 : decode cX0_firstDay 9 = .ok (.istore 4, 2) := by decide +kernel
theorem dX0_firstDay_11 : decode cX0_firstDay 11 = .ok (.aload_n 0, 1) := by decide +kernel
theorem dX0_firstDay_12 : decode cX0_firstDay 12 = .ok (.getfield 15, 3) := by decide +kernel
theorem dX0_firstDay_15 : decode cX0_firstDay 15 = .ok (.getfield 24, 3) := by decide +kernel
theorem dX0_firstDay_18 : decode cX0_firstDay 18 = .ok (.istore 5, 2) := by decide +kernel
theorem dX0_firstDay_20 : decode cX0_firstDay 20 = .ok (.iload 4, 2) := by decide +kernel
theorem dX0_firstDay_22 : decode cX0_firstDay 22 = .ok (.ifCond .eq 9, 3) := by decide +kernel
theorem dX0_firstDay_25 : decode cX0_firstDay 25 = .ok (.iload 5, 2) := by decide +kernel
theorem dX0_firstDay_27 : decode cX0_firstDay 27 = .ok (.iconst 1, 1) := by decide +kernel
theorem dX0_firstDay_28 : decode cX0_firstDay 28 = .ok (.if_icmp .ge 5, 3) := by decide +kernel
theorem dX0_firstDay_31 : decode cX0_firstDay 31 = .ok (.iconst (-1), 1) := by decide +kernel
theorem dX0_firstDay_32 : decode cX0_firstDay 32 = .ok (.ireturn, 1) := by decide +kernel
theorem dX0_firstDay_33 : decode cX0_firstDay 33 = .ok (.iload_n 2, 1) := by decide +kernel
theorem dX0_firstDay_34 : decode cX0_firstDay 34 = .ok (.iload_n 3, 1) := by decide +kernel
theorem dX0_firstDay_35 : decode cX0_firstDay 35 = .ok (.iadd, 1) := by decide +kernel
theorem dX0_firstDay_36 : decode cX0_firstDay 36 = .ok (.iload 5, 2) := by decide +kernel
theorem dX0_firstDay_38 : decode cX0_firstDay 38 = .ok (.irem, 1) := by decide +kernel
theorem dX0_firstDay_39 : decode cX0_firstDay 39 = .ok (.istore 6, 2) := by decide +kernel
theorem dX0_firstDay_41 : decode cX0_firstDay 41 = .ok (.iconst 0, 1) := by decide +kernel
theorem dX0_firstDay_42 : decode cX0_firstDay 42 = .ok (.istore 7, 2) := by decide +kernel
theorem dX0_firstDay_44 : decode cX0_firstDay 44 = .ok (.iload 7, 2) := by decide +kernel
theorem dX0_firstDay_46 : decode cX0_firstDay 46 = .ok (.iload 5, 2) := by decide +kernel
theorem dX0_firstDay_48 : decode cX0_firstDay 48 = .ok (.if_icmp .ge 43, 3) := by decide +kernel
theorem dX0_firstDay_51 : decode cX0_firstDay 51 = .ok (.iload 4, 2) := by decide +kernel
theorem dX0_firstDay_53 : decode cX0_firstDay 53 = .ok (.iload 6, 2) := by decide +kernel
theorem dX0_firstDay_55 : decode cX0_firstDay 55 = .ok (.ishr, 1) := by decide +kernel
theorem dX0_firstDay_56 : decode cX0_firstDay 56 = .ok (.iconst 1, 1) := by decide +kernel
theorem dX0_firstDay_57 : decode cX0_firstDay 57 = .ok (.iand, 1) := by decide +kernel
theorem dX0_firstDay_58 : decode cX0_firstDay 58 = .ok (.ifCond .eq 8, 3) := by decide +kernel
theorem dX0_firstDay_61 : decode cX0_firstDay 61 = .ok (.iload_n 2, 1) := by decide +kernel
theorem dX0_firstDay_62 : decode cX0_firstDay 62 = .ok (.iload 7, 2) := by decide +kernel
theorem dX0_firstDay_64 : decode cX0_firstDay 64 = .ok (.iadd, 1) := by decide +kernel
theorem dX0_firstDay_65 : decode cX0_firstDay 65 = .ok (.ireturn, 1) := by decide +kernel
theorem dX0_firstDay_66 : decode cX0_firstDay 66 = .ok (.iload 6, 2) := by decide +kernel
theorem dX0_firstDay_68 : decode cX0_firstDay 68 = .ok (.iconst 1, 1) := by decide +kernel
theorem dX0_firstDay_69 : decode cX0_firstDay 69 = .ok (.iadd, 1) := by decide +kernel
theorem dX0_firstDay_70 : decode cX0_firstDay 70 = .ok (.iload 5, 2) := by decide +kernel
theorem dX0_firstDay_72 : decode cX0_firstDay 72 = .ok (.if_icmp .ne 7, 3) := by decide +kernel
theorem dX0_firstDay_75 : decode cX0_firstDay 75 = .ok (.iconst 0, 1) := by decide +kernel
theorem dX0_firstDay_76 : decode cX0_firstDay 76 = .ok (.goto 7, 3) := by decide +kernel
theorem dX0_firstDay_79 : decode cX0_firstDay 79 = .ok (.iload 6, 2) := by decide +kernel
theorem dX0_firstDay_81 : decode cX0_firstDay 81 = .ok (.iconst 1, 1) := by decide +kernel
theorem dX0_firstDay_82 : decode cX0_firstDay 82 = .ok (.iadd, 1) := by decide +kernel
theorem dX0_firstDay_83 : decode cX0_firstDay 83 = .ok (.istore 6, 2) := by decide +kernel
theorem dX0_firstDay_85 : decode cX0_firstDay 85 = .ok (.iinc 7 1, 3) := by decide +kernel
theorem dX0_firstDay_88 : decode cX0_firstDay 88 = .ok (.goto (-44), 3) := by decide +kernel
theorem dX0_firstDay_91 : decode cX0_firstDay 91 = .ok (.iconst (-1), 1) := by decide +kernel
theorem dX0_firstDay_92 : decode cX0_firstDay 92 = .ok (.ireturn, 1) := by decide +kernel
theorem dX0_zeroFrom_0 : decode cX0_zeroFrom 0 = .ok (.aload_n 0, 1) := by decide +kernel
theorem dX0_zeroFrom_1 : decode cX0_zeroFrom 1 = .ok (.getfield 15, 3) := by decide +kernel
theorem dX0_zeroFrom_4 : decode cX0_zeroFrom 4 = .ok (.getfield 24, 3) := by decide +kernel
theorem dX0_zeroFrom_7 : decode cX0_zeroFrom 7 = .ok (.iconst 1, 1) := by decide +kernel
theorem dX0_zeroFrom_8 : decode cX0_zeroFrom 8 = .ok (.if_icmp .ge 5, 3) := by decide +kernel
theorem dX0_zeroFrom_11 : decode cX0_zeroFrom 11 = .ok (.iconst (-1), 1) := by decide +kernel
theorem dX0_zeroFrom_12 : decode cX0_zeroFrom 12 = .ok (.ireturn, 1) := by decide +kernel
theorem dX0_zeroFrom_13 : decode cX0_zeroFrom 13 = .ok (.iload_n 1, 1) := by decide +kernel
theorem dX0_zeroFrom_14 : decode cX0_zeroFrom 14 = .ok (.aload_n 0, 1) := by decide +kernel
theorem dX0_zeroFrom_15 : decode cX0_zeroFrom 15 = .ok (.getfield 15, 3) := by decide +kernel
theorem dX0_zeroFrom_18 : decode cX0_zeroFrom 18 = .ok (.getfield 24, 3) := by decide +kernel
theorem dX0_zeroFrom_21 : decode cX0_zeroFrom 21 = .ok (.irem, 1) := by decide +kernel
theorem dX0_zeroFrom_22 : decode cX0_zeroFrom 22 = .ok (.istore_n 2, 1) := by decide +kernel
theorem dX0_zeroFrom_23 : decode cX0_zeroFrom 23 = .ok (.iload_n 2, 1) := by decide +kernel
theorem dX0_zeroFrom_24 : decode cX0_zeroFrom 24 = .ok (.ifCond .ne 7, 3) := by decide +kernel
theorem dX0_zeroFrom_27 : decode cX0_zeroFrom 27 = .ok (.iload_n 1, 1) := by decide +kernel
theorem dX0_zeroFrom_28 : decode cX0_zeroFrom 28 = .ok (.goto 14, 3) := by decide +kernel
theorem dX0_zeroFrom_31 : decode cX0_zeroFrom 31 = .ok (.iload_n 1, 1) := by decide +kernel
theorem dX0_zeroFrom_32 : decode cX0_zeroFrom 32 = .ok (.aload_n 0, 1) := by decide +kernel
theorem dX0_zeroFrom_33 : decode cX0_zeroFrom 33 = .ok (.getfield 15, 3) := by decide +kernel
theorem dX0_zeroFrom_36 : decode cX0_zeroFrom 36 = .ok (.getfield 24, 3) := by decide +kernel
theorem dX0_zeroFrom_39 : decode cX0_zeroFrom 39 = .ok (.iadd, 1) := by decide +kernel
theorem dX0_zeroFrom_40 : decode cX0_zeroFrom 40 = .ok (.iload_n 2, 1) := by decide +kernel
theorem dX0_zeroFrom_41 : decode cX0_zeroFrom 41 = .ok (.isub, 1) := by decide +kernel
theorem dX0_zeroFrom_42 : decode cX0_zeroFrom 42 = .ok (.ireturn, 1) := by decide +kernel
theorem dX0_dayBehind_0 : decode cX0_dayBehind 0 = .ok (.aload_n 0, 1) := by decide +kernel
theorem dX0_dayBehind_1 : decode cX0_dayBehind 1 = .ok (.getfield 15, 3) := by decide +kernel
theorem dX0_dayBehind_4 : decode cX0_dayBehind 4 = .ok (.iload_n 1, 1) := by decide +kernel
theorem dX0_dayBehind_5 : decode cX0_dayBehind 5 = .ok (.iload_n 2, 1) := by decide +kernel
theorem dX0_dayBehind_6 : decode cX0_dayBehind 6 = .ok (.iconst 0, 1) := by decide +kernel
theorem dX0_dayBehind_7 : decode cX0_dayBehind 7 = .ok (.invokevirtual 28, 3) := by decide +kernel
theorem dX0_dayBehind_10 : decode cX0_dayBehind 10 = .ok (.istore 4, 2) := by decide +kernel
theorem dX0_dayBehind_12 : decode cX0_dayBehind 12 = .ok (.aload_n 0, 1) := by decide +kernel
theorem dX0_dayBehind_13 : decode cX0_dayBehind 13 = .ok (.getfield 15, 3) := by decide +kernel
theorem dX0_dayBehind_16 : decode cX0_dayBehind 16 = .ok (.getfield 32, 3) := by decide +kernel
theorem dX0_dayBehind_19 : decode cX0_dayBehind 19 = .ok (.iload_n 1, 1) := by decide +kernel
theorem dX0_dayBehind_20 : decode cX0_dayBehind 20 = .ok (.iaload, 1) := by decide +kernel
theorem dX0_dayBehind_21 : decode cX0_dayBehind 21 = .ok (.tableswitch 170 1 6 #[39, 48, 76, 110, 118, 151], 39) := by decide +kernel
theorem dX0_dayBehind_60 : decode cX0_dayBehind 60 = .ok (.aload_n 0, 1) := by decide +kernel
theorem dX0_dayBehind_61 : decode cX0_dayBehind 61 = .ok (.iload 4, 2) := by decide +kernel
theorem dX0_dayBehind_63 : decode cX0_dayBehind 63 = .ok (.iload_n 3, 1) := by decide +kernel
theorem dX0_dayBehind_64 : decode cX0_dayBehind 64 = .ok (.iconst 0, 1) := by decide +kernel
theorem dX0_dayBehind_65 : decode cX0_dayBehind 65 = .ok (.invokevirtual 35, 3) := by decide +kernel
theorem dX0_dayBehind_68 : decode cX0_dayBehind 68 = .ok (.ireturn, 1) := by decide +kernel
theorem dX0_dayBehind_69 : decode cX0_dayBehind 69 = .ok (.iload_n 2, 1) := by decide +kernel
theorem dX0_dayBehind_70 : decode cX0_dayBehind 70 = .ok (.ifCond .ne 18, 3) := by decide +kernel
theorem dX0_dayBehind_73 : decode cX0_dayBehind 73 = .ok (.aload_n 0, 1) := by decide +kernel
theorem dX0_dayBehind_74 : decode cX0_dayBehind 74 = .ok (.iload 4, 2) := by decide +kernel
theorem dX0_dayBehind_76 : decode cX0_dayBehind 76 = .ok (.aload_n 0, 1) := by decide +kernel
theorem dX0_dayBehind_77 : decode cX0_dayBehind 77 = .ok (.iload_n 3, 1) := by decide +kernel
theorem dX0_dayBehind_78 : decode cX0_dayBehind 78 = .ok (.invokevirtual 38, 3) := by decide +kernel
theorem dX0_dayBehind_81 : decode cX0_dayBehind 81 = .ok (.iconst 0, 1) := by decide +kernel
theorem dX0_dayBehind_82 : decode cX0_dayBehind 82 = .ok (.invokevirtual 35, 3) := by decide +kernel
theorem dX0_dayBehind_85 : decode cX0_dayBehind 85 = .ok (.goto 11, 3) := by decide +kernel
theorem dX0_dayBehind_88 : decode cX0_dayBehind 88 = .ok (.aload_n 0, 1) := by decide +kernel
theorem dX0_dayBehind_89 : decode cX0_dayBehind 89 = .ok (.iload 4, 2) := by decide +kernel
theorem dX0_dayBehind_91 : decode cX0_dayBehind 91 = .ok (.iload_n 2, 1) := by decide +kernel
theorem dX0_dayBehind_92 : decode cX0_dayBehind 92 = .ok (.iload_n 3, 1) := by decide +kernel
theorem dX0_dayBehind_93 : decode cX0_dayBehind 93 = .ok (.invokevirtual 42, 3) := by decide +kernel
theorem dX0_dayBehind_96 : decode cX0_dayBehind 96 = .ok (.ireturn, 1) := by decide +kernel
theorem dX0_dayBehind_97 : decode cX0_dayBehind 97 = .ok (.iload_n 2, 1) := by decide +kernel
theorem dX0_dayBehind_98 : decode cX0_dayBehind 98 = .ok (.ifCond .le 24, 3) := by decide +kernel
theorem dX0_dayBehind_101 : decode cX0_dayBehind 101 = .ok (.aload_n 0, 1) := by decide +kernel
theorem dX0_dayBehind_102 : decode cX0_dayBehind 102 = .ok (.getfield 15, 3) := by decide +kernel
theorem dX0_dayBehind_105 : decode cX0_dayBehind 105 = .ok (.iload_n 1, 1) := by decide +kernel
theorem dX0_dayBehind_106 : decode cX0_dayBehind 106 = .ok (.iload_n 2, 1) := by decide +kernel
theorem dX0_dayBehind_107 : decode cX0_dayBehind 107 = .ok (.iconst 1, 1) := by decide +kernel
theorem dX0_dayBehind_108 : decode cX0_dayBehind 108 = .ok (.isub, 1) := by decide +kernel
theorem dX0_dayBehind_109 : decode cX0_dayBehind 109 = .ok (.iconst 0, 1) := by decide +kernel
theorem dX0_dayBehind_110 : decode cX0_dayBehind 110 = .ok (.invokevirtual 28, 3) := by decide +kernel
theorem dX0_dayBehind_113 : decode cX0_dayBehind 113 = .ok (.iload 4, 2) := by decide +kernel
theorem dX0_dayBehind_115 : decode cX0_dayBehind 115 = .ok (.if_icmp .ne 7, 3) := by decide +kernel
theorem dX0_dayBehind_118 : decode cX0_dayBehind 118 = .ok (.iload_n 3, 1) := by decide +kernel
theorem dX0_dayBehind_119 : decode cX0_dayBehind 119 = .ok (.goto 11, 3) := by decide +kernel
theorem dX0_dayBehind_122 : decode cX0_dayBehind 122 = .ok (.aload_n 0, 1) := by decide +kernel
theorem dX0_dayBehind_123 : decode cX0_dayBehind 123 = .ok (.iload 4, 2) := by decide +kernel
theorem dX0_dayBehind_125 : decode cX0_dayBehind 125 = .ok (.iload_n 2, 1) := by decide +kernel
theorem dX0_dayBehind_126 : decode cX0_dayBehind 126 = .ok (.iload_n 3, 1) := by decide +kernel
theorem dX0_dayBehind_127 : decode cX0_dayBehind 127 = .ok (.invokevirtual 42, 3) := by decide +kernel
theorem dX0_dayBehind_130 : decode cX0_dayBehind 130 = .ok (.ireturn, 1) := by decide +kernel
theorem dX0_dayBehind_131 : decode cX0_dayBehind 131 = .ok (.aload_n 0, 1) := by decide +kernel
theorem dX0_dayBehind_132 : decode cX0_dayBehind 132 = .ok (.iload 4, 2) := by decide +kernel
theorem dX0_dayBehind_134 : decode cX0_dayBehind 134 = .ok (.iload_n 3, 1) := by decide +kernel
theorem dX0_dayBehind_135 : decode cX0_dayBehind 135 = .ok (.invokevirtual 45, 3) := by decide +kernel
theorem dX0_dayBehind_138 : decode cX0_dayBehind 138 = .ok (.ireturn, 1) := by decide +kernel
theorem dX0_dayBehind_139 : decode cX0_dayBehind 139 = .ok (.aload_n 0, 1) := by decide +kernel
theorem dX0_dayBehind_140 : decode cX0_dayBehind 140 = .ok (.aload_n 0, 1) := by decide +kernel
theorem dX0_dayBehind_141 : decode cX0_dayBehind 141 = .ok (.iload 4, 2) := by decide +kernel
theorem dX0_dayBehind_143 : decode cX0_dayBehind 143 = .ok (.iload_n 3, 1) := by decide +kernel
theorem dX0_dayBehind_144 : decode cX0_dayBehind 144 = .ok (.invokevirtual 45, 3) := by decide +kernel
theorem dX0_dayBehind_147 : decode cX0_dayBehind 147 = .ok (.iload_n 3, 1) := by decide +kernel
theorem dX0_dayBehind_148 : decode cX0_dayBehind 148 = .ok (.iload_n 2, 1) := by decide +kernel
theorem dX0_dayBehind_149 : decode cX0_dayBehind 149 = .ok (.aload_n 0, 1) := by decide +kernel
theorem dX0_dayBehind_150 : decode cX0_dayBehind 150 = .ok (.getfield 15, 3) := by decide +kernel
theorem dX0_dayBehind_153 : decode cX0_dayBehind 153 = .ok (.getfield 49, 3) := by decide +kernel
theorem dX0_dayBehind_156 : decode cX0_dayBehind 156 = .ok (.iload_n 1, 1) := by decide +kernel
theorem dX0_dayBehind_157 : decode cX0_dayBehind 157 = .ok (.iaload, 1) := by decide +kernel
theorem dX0_dayBehind_158 : decode cX0_dayBehind 158 = .ok (.iconst 1, 1) := by decide +kernel
theorem dX0_dayBehind_159 : decode cX0_dayBehind 159 = .ok (.isub, 1) := by decide +kernel
theorem dX0_dayBehind_160 : decode cX0_dayBehind 160 = .ok (.if_icmp .ne 7, 3) := by decide +kernel
theorem dX0_dayBehind_163 : decode cX0_dayBehind 163 = .ok (.iconst 1, 1) := by decide +kernel
theorem dX0_dayBehind_164 : decode cX0_dayBehind 164 = .ok (.goto 4, 3) := by decide +kernel
theorem dX0_dayBehind_167 : decode cX0_dayBehind 167 = .ok (.iconst 0, 1) := by decide +kernel
theorem dX0_dayBehind_168 : decode cX0_dayBehind 168 = .ok (.invokevirtual 52, 3) := by decide +kernel
theorem dX0_dayBehind_171 : decode cX0_dayBehind 171 = .ok (.ireturn, 1) := by decide +kernel
theorem dX0_dayBehind_172 : decode cX0_dayBehind 172 = .ok (.aload_n 0, 1) := by decide +kernel
theorem dX0_dayBehind_173 : decode cX0_dayBehind 173 = .ok (.iload 4, 2) := by decide +kernel
theorem dX0_dayBehind_175 : decode cX0_dayBehind 175 = .ok (.iload_n 2, 1) := by decide +kernel
theorem dX0_dayBehind_176 : decode cX0_dayBehind 176 = .ok (.iload_n 2, 1) := by decide +kernel
theorem dX0_dayBehind_177 : decode cX0_dayBehind 177 = .ok (.ifCond .ne 7, 3) := by decide +kernel
theorem dX0_dayBehind_180 : decode cX0_dayBehind 180 = .ok (.iload_n 3, 1) := by decide +kernel
theorem dX0_dayBehind_181 : decode cX0_dayBehind 181 = .ok (.goto 6, 3) := by decide +kernel
theorem dX0_dayBehind_184 : decode cX0_dayBehind 184 = .ok (.iload_n 3, 1) := by decide +kernel
theorem dX0_dayBehind_185 : decode cX0_dayBehind 185 = .ok (.iconst 1, 1) := by decide +kernel
theorem dX0_dayBehind_186 : decode cX0_dayBehind 186 = .ok (.iadd, 1) := by decide +kernel
theorem dX0_dayBehind_187 : decode cX0_dayBehind 187 = .ok (.invokevirtual 42, 3) := by decide +kernel
theorem dX0_dayBehind_190 : decode cX0_dayBehind 190 = .ok (.ireturn, 1) := by decide +kernel
theorem dX0_dayBehind_191 : decode cX0_dayBehind 191 = .ok (.aload_n 0, 1) := by decide +kernel
theorem dX0_dayBehind_192 : decode cX0_dayBehind 192 = .ok (.iload 4, 2) := by decide +kernel
theorem dX0_dayBehind_194 : decode cX0_dayBehind 194 = .ok (.iload_n 2, 1) := by decide +kernel
theorem dX0_dayBehind_195 : decode cX0_dayBehind 195 = .ok (.iload_n 3, 1) := by decide +kernel
theorem dX0_dayBehind_196 : decode cX0_dayBehind 196 = .ok (.invokevirtual 42, 3) := by decide +kernel
theorem dX0_dayBehind_199 : decode cX0_dayBehind 199 = .ok (.ireturn, 1) := by decide +kernel
theorem dX0_plannedFrom_0 : decode cX0_plannedFrom 0 = .ok (.aload_n 0, 1) := by decide +kernel
theorem dX0_plannedFrom_1 : decode cX0_plannedFrom 1 = .ok (.iload_n 1, 1) := by decide +kernel
theorem dX0_plannedFrom_2 : decode cX0_plannedFrom 2 = .ok (.iload_n 2, 1) := by decide +kernel
theorem dX0_plannedFrom_3 : decode cX0_plannedFrom 3 = .ok (.ifCond .ne 7, 3) := by decide +kernel
theorem dX0_plannedFrom_6 : decode cX0_plannedFrom 6 = .ok (.iload_n 3, 1) := by decide +kernel
theorem dX0_plannedFrom_7 : decode cX0_plannedFrom 7 = .ok (.goto 6, 3) := by decide +kernel
theorem dX0_plannedFrom_10 : decode cX0_plannedFrom 10 = .ok (.iload_n 3, 1) := by decide +kernel
theorem dX0_plannedFrom_11 : decode cX0_plannedFrom 11 = .ok (.iconst 1, 1) := by decide +kernel
theorem dX0_plannedFrom_12 : decode cX0_plannedFrom 12 = .ok (.iadd, 1) := by decide +kernel
theorem dX0_plannedFrom_13 : decode cX0_plannedFrom 13 = .ok (.iconst 0, 1) := by decide +kernel
theorem dX0_plannedFrom_14 : decode cX0_plannedFrom 14 = .ok (.invokevirtual 35, 3) := by decide +kernel
theorem dX0_plannedFrom_17 : decode cX0_plannedFrom 17 = .ok (.ireturn, 1) := by decide +kernel
theorem dX0_walkedFrom_0 : decode cX0_walkedFrom 0 = .ok (.aload_n 0, 1) := by decide +kernel
theorem dX0_walkedFrom_1 : decode cX0_walkedFrom 1 = .ok (.iload_n 1, 1) := by decide +kernel
theorem dX0_walkedFrom_2 : decode cX0_walkedFrom 2 = .ok (.iload_n 2, 1) := by decide +kernel
theorem dX0_walkedFrom_3 : decode cX0_walkedFrom 3 = .ok (.iconst 0, 1) := by decide +kernel
theorem dX0_walkedFrom_4 : decode cX0_walkedFrom 4 = .ok (.invokevirtual 35, 3) := by decide +kernel
theorem dX0_walkedFrom_7 : decode cX0_walkedFrom 7 = .ok (.istore_n 3, 1) := by decide +kernel
theorem dX0_walkedFrom_8 : decode cX0_walkedFrom 8 = .ok (.aload_n 0, 1) := by decide +kernel
theorem dX0_walkedFrom_9 : decode cX0_walkedFrom 9 = .ok (.getfield 15, 3) := by decide +kernel
theorem dX0_walkedFrom_12 : decode cX0_walkedFrom 12 = .ok (.getfield 56, 3) := by decide +kernel
theorem dX0_walkedFrom_15 : decode cX0_walkedFrom 15 = .ok (.ifCond .ge 5, 3) := by decide +kernel
theorem dX0_walkedFrom_18 : decode cX0_walkedFrom 18 = .ok (.iload_n 3, 1) := by decide +kernel
theorem dX0_walkedFrom_19 : decode cX0_walkedFrom 19 = .ok (.ireturn, 1) := by decide +kernel
theorem dX0_walkedFrom_20 : decode cX0_walkedFrom 20 = .ok (.iload_n 3, 1) := by decide +kernel
theorem dX0_walkedFrom_21 : decode cX0_walkedFrom 21 = .ok (.aload_n 0, 1) := by decide +kernel
theorem dX0_walkedFrom_22 : decode cX0_walkedFrom 22 = .ok (.iload_n 1, 1) := by decide +kernel
theorem dX0_walkedFrom_23 : decode cX0_walkedFrom 23 = .ok (.iload_n 2, 1) := by decide +kernel
theorem dX0_walkedFrom_24 : decode cX0_walkedFrom 24 = .ok (.iconst 1, 1) := by decide +kernel
theorem dX0_walkedFrom_25 : decode cX0_walkedFrom 25 = .ok (.iadd, 1) := by decide +kernel
theorem dX0_walkedFrom_26 : decode cX0_walkedFrom 26 = .ok (.aload_n 0, 1) := by decide +kernel
theorem dX0_walkedFrom_27 : decode cX0_walkedFrom 27 = .ok (.getfield 15, 3) := by decide +kernel
theorem dX0_walkedFrom_30 : decode cX0_walkedFrom 30 = .ok (.getfield 56, 3) := by decide +kernel
theorem dX0_walkedFrom_33 : decode cX0_walkedFrom 33 = .ok (.invokevirtual 35, 3) := by decide +kernel
theorem dX0_walkedFrom_36 : decode cX0_walkedFrom 36 = .ok (.invokestatic 59, 3) := by decide +kernel
theorem dX0_walkedFrom_39 : decode cX0_walkedFrom 39 = .ok (.ireturn, 1) := by decide +kernel
theorem dX0_bestOf_0 : decode cX0_bestOf 0 = .ok (.aload_n 0, 1) := by decide +kernel
theorem dX0_bestOf_1 : decode cX0_bestOf 1 = .ok (.iload_n 2, 1) := by decide +kernel
theorem dX0_bestOf_2 : decode cX0_bestOf 2 = .ok (.invokevirtual 38, 3) := by decide +kernel
theorem dX0_bestOf_5 : decode cX0_bestOf 5 = .ok (.istore 4, 2) := by decide +kernel
theorem dX0_bestOf_7 : decode cX0_bestOf 7 = .ok (.iload_n 3, 1) := by decide +kernel
theorem dX0_bestOf_8 : decode cX0_bestOf 8 = .ok (.ifCond .eq 17, 3) := by decide +kernel
theorem dX0_bestOf_11 : decode cX0_bestOf 11 = .ok (.iload 4, 2) := by decide +kernel
theorem dX0_bestOf_13 : decode cX0_bestOf 13 = .ok (.iload_n 1, 1) := by decide +kernel
theorem dX0_bestOf_14 : decode cX0_bestOf 14 = .ok (.invokestatic 64, 3) := by decide +kernel
theorem dX0_bestOf_17 : decode cX0_bestOf 17 = .ok (.ifCond .eq 8, 3) := by decide +kernel
theorem dX0_bestOf_20 : decode cX0_bestOf 20 = .ok (.iload 4, 2) := by decide +kernel
theorem dX0_bestOf_22 : decode cX0_bestOf 22 = .ok (.goto 4, 3) := by decide +kernel
theorem dX0_bestOf_25 : decode cX0_bestOf 25 = .ok (.iload_n 1, 1) := by decide +kernel
theorem dX0_bestOf_26 : decode cX0_bestOf 26 = .ok (.ireturn, 1) := by decide +kernel
theorem dX0_goThrough_0 : decode cX0_goThrough 0 = .ok (.iload_n 2, 1) := by decide +kernel
theorem dX0_goThrough_1 : decode cX0_goThrough 1 = .ok (.istore_n 3, 1) := by decide +kernel
theorem dX0_goThrough_2 : decode cX0_goThrough 2 = .ok (.aload_n 0, 1) := by decide +kernel
theorem dX0_goThrough_3 : decode cX0_goThrough 3 = .ok (.getfield 15, 3) := by decide +kernel
theorem dX0_goThrough_6 : decode cX0_goThrough 6 = .ok (.getfield 49, 3) := by decide +kernel
theorem dX0_goThrough_9 : decode cX0_goThrough 9 = .ok (.iload_n 1, 1) := by decide +kernel
theorem dX0_goThrough_10 : decode cX0_goThrough 10 = .ok (.iaload, 1) := by decide +kernel
theorem dX0_goThrough_11 : decode cX0_goThrough 11 = .ok (.istore 4, 2) := by decide +kernel
theorem dX0_goThrough_13 : decode cX0_goThrough 13 = .ok (.iconst 0, 1) := by decide +kernel
theorem dX0_goThrough_14 : decode cX0_goThrough 14 = .ok (.istore 5, 2) := by decide +kernel
theorem dX0_goThrough_16 : decode cX0_goThrough 16 = .ok (.iload 5, 2) := by decide +kernel
theorem dX0_goThrough_18 : decode cX0_goThrough 18 = .ok (.iload 4, 2) := by decide +kernel
theorem dX0_goThrough_20 : decode cX0_goThrough 20 = .ok (.if_icmp .ge 62, 3) := by decide +kernel
theorem dX0_goThrough_23 : decode cX0_goThrough 23 = .ok (.aload_n 0, 1) := by decide +kernel
theorem dX0_goThrough_24 : decode cX0_goThrough 24 = .ok (.iload_n 1, 1) := by decide +kernel
theorem dX0_goThrough_25 : decode cX0_goThrough 25 = .ok (.iload 5, 2) := by decide +kernel
theorem dX0_goThrough_27 : decode cX0_goThrough 27 = .ok (.iload_n 3, 1) := by decide +kernel
theorem dX0_goThrough_28 : decode cX0_goThrough 28 = .ok (.invokevirtual 68, 3) := by decide +kernel
theorem dX0_goThrough_31 : decode cX0_goThrough 31 = .ok (.istore 6, 2) := by decide +kernel
theorem dX0_goThrough_33 : decode cX0_goThrough 33 = .ok (.iload 6, 2) := by decide +kernel
theorem dX0_goThrough_35 : decode cX0_goThrough 35 = .ok (.ifCond .lt 26, 3) := by decide +kernel
theorem dX0_goThrough_38 : decode cX0_goThrough 38 = .ok (.iload 5, 2) := by decide +kernel
theorem dX0_goThrough_40 : decode cX0_goThrough 40 = .ok (.ifCond .le 24, 3) := by decide +kernel
theorem dX0_goThrough_43 : decode cX0_goThrough 43 = .ok (.iload 6, 2) := by decide +kernel
theorem dX0_goThrough_45 : decode cX0_goThrough 45 = .ok (.iload_n 3, 1) := by decide +kernel
theorem dX0_goThrough_46 : decode cX0_goThrough 46 = .ok (.isub, 1) := by decide +kernel
theorem dX0_goThrough_47 : decode cX0_goThrough 47 = .ok (.aload_n 0, 1) := by decide +kernel
theorem dX0_goThrough_48 : decode cX0_goThrough 48 = .ok (.getfield 15, 3) := by decide +kernel
theorem dX0_goThrough_51 : decode cX0_goThrough 51 = .ok (.iload_n 1, 1) := by decide +kernel
theorem dX0_goThrough_52 : decode cX0_goThrough 52 = .ok (.iload 5, 2) := by decide +kernel
theorem dX0_goThrough_54 : decode cX0_goThrough 54 = .ok (.iconst 2, 1) := by decide +kernel
theorem dX0_goThrough_55 : decode cX0_goThrough 55 = .ok (.invokevirtual 28, 3) := by decide +kernel
theorem dX0_goThrough_58 : decode cX0_goThrough 58 = .ok (.if_icmp .le 6, 3) := by decide +kernel
theorem dX0_goThrough_61 : decode cX0_goThrough 61 = .ok (.iload 5, 2) := by decide +kernel
theorem dX0_goThrough_63 : decode cX0_goThrough 63 = .ok (.ireturn, 1) := by decide +kernel
theorem dX0_goThrough_64 : decode cX0_goThrough 64 = .ok (.aload_n 0, 1) := by decide +kernel
theorem dX0_goThrough_65 : decode cX0_goThrough 65 = .ok (.getfield 9, 3) := by decide +kernel
theorem dX0_goThrough_68 : decode cX0_goThrough 68 = .ok (.iload 5, 2) := by decide +kernel
theorem dX0_goThrough_70 : decode cX0_goThrough 70 = .ok (.iload 6, 2) := by decide +kernel
theorem dX0_goThrough_72 : decode cX0_goThrough 72 = .ok (.iastore, 1) := by decide +kernel
theorem dX0_goThrough_73 : decode cX0_goThrough 73 = .ok (.iload 6, 2) := by decide +kernel
theorem dX0_goThrough_75 : decode cX0_goThrough 75 = .ok (.istore_n 3, 1) := by decide +kernel
theorem dX0_goThrough_76 : decode cX0_goThrough 76 = .ok (.iinc 5 1, 3) := by decide +kernel
theorem dX0_goThrough_79 : decode cX0_goThrough 79 = .ok (.goto (-63), 3) := by decide +kernel
theorem dX0_goThrough_82 : decode cX0_goThrough 82 = .ok (.iconst (-1), 1) := by decide +kernel
theorem dX0_goThrough_83 : decode cX0_goThrough 83 = .ok (.ireturn, 1) := by decide +kernel
theorem dX0_lastRunDay_0 : decode cX0_lastRunDay 0 = .ok (.aload_n 0, 1) := by decide +kernel
theorem dX0_lastRunDay_1 : decode cX0_lastRunDay 1 = .ok (.getfield 15, 3) := by decide +kernel
theorem dX0_lastRunDay_4 : decode cX0_lastRunDay 4 = .ok (.getfield 49, 3) := by decide +kernel
theorem dX0_lastRunDay_7 : decode cX0_lastRunDay 7 = .ok (.iload_n 1, 1) := by decide +kernel
theorem dX0_lastRunDay_8 : decode cX0_lastRunDay 8 = .ok (.iaload, 1) := by decide +kernel
theorem dX0_lastRunDay_9 : decode cX0_lastRunDay 9 = .ok (.istore_n 2, 1) := by decide +kernel
theorem dX0_lastRunDay_10 : decode cX0_lastRunDay 10 = .ok (.iload_n 2, 1) := by decide +kernel
theorem dX0_lastRunDay_11 : decode cX0_lastRunDay 11 = .ok (.iconst 1, 1) := by decide +kernel
theorem dX0_lastRunDay_12 : decode cX0_lastRunDay 12 = .ok (.if_icmp .ge 7, 3) := by decide +kernel
theorem dX0_lastRunDay_15 : decode cX0_lastRunDay 15 = .ok (.iconst (-1), 1) := by decide +kernel
theorem dX0_lastRunDay_16 : decode cX0_lastRunDay 16 = .ok (.goto 11, 3) := by decide +kernel
theorem dX0_lastRunDay_19 : decode cX0_lastRunDay 19 = .ok (.aload_n 0, 1) := by decide +kernel
theorem dX0_lastRunDay_20 : decode cX0_lastRunDay 20 = .ok (.getfield 9, 3) := by decide +kernel
theorem dX0_lastRunDay_23 : decode cX0_lastRunDay 23 = .ok (.iload_n 2, 1) := by decide +kernel
theorem dX0_lastRunDay_24 : decode cX0_lastRunDay 24 = .ok (.iconst 1, 1) := by decide +kernel
theorem dX0_lastRunDay_25 : decode cX0_lastRunDay 25 = .ok (.isub, 1) := by decide +kernel
theorem dX0_lastRunDay_26 : decode cX0_lastRunDay 26 = .ok (.iaload, 1) := by decide +kernel
theorem dX0_lastRunDay_27 : decode cX0_lastRunDay 27 = .ok (.ireturn, 1) := by decide +kernel
theorem dX0_begunFrom_0 : decode cX0_begunFrom 0 = .ok (.iload_n 2, 1) := by decide +kernel
theorem dX0_begunFrom_1 : decode cX0_begunFrom 1 = .ok (.istore_n 3, 1) := by decide +kernel
theorem dX0_begunFrom_2 : decode cX0_begunFrom 2 = .ok (.iload_n 3, 1) := by decide +kernel
theorem dX0_begunFrom_3 : decode cX0_begunFrom 3 = .ok (.iload_n 2, 1) := by decide +kernel
theorem dX0_begunFrom_4 : decode cX0_begunFrom 4 = .ok (.aload_n 0, 1) := by decide +kernel
theorem dX0_begunFrom_5 : decode cX0_begunFrom 5 = .ok (.getfield 15, 3) := by decide +kernel
theorem dX0_begunFrom_8 : decode cX0_begunFrom 8 = .ok (.getfield 24, 3) := by decide +kernel
theorem dX0_begunFrom_11 : decode cX0_begunFrom 11 = .ok (.iadd, 1) := by decide +kernel
theorem dX0_begunFrom_12 : decode cX0_begunFrom 12 = .ok (.if_icmp .ge 20, 3) := by decide +kernel
theorem dX0_begunFrom_15 : decode cX0_begunFrom 15 = .ok (.aload_n 0, 1) := by decide +kernel
theorem dX0_begunFrom_16 : decode cX0_begunFrom 16 = .ok (.iload_n 1, 1) := by decide +kernel
theorem dX0_begunFrom_17 : decode cX0_begunFrom 17 = .ok (.iload_n 3, 1) := by decide +kernel
theorem dX0_begunFrom_18 : decode cX0_begunFrom 18 = .ok (.invokevirtual 71, 3) := by decide +kernel
theorem dX0_begunFrom_21 : decode cX0_begunFrom 21 = .ok (.ifCond .ge 5, 3) := by decide +kernel
theorem dX0_begunFrom_24 : decode cX0_begunFrom 24 = .ok (.iload_n 3, 1) := by decide +kernel
theorem dX0_begunFrom_25 : decode cX0_begunFrom 25 = .ok (.ireturn, 1) := by decide +kernel
theorem dX0_begunFrom_26 : decode cX0_begunFrom 26 = .ok (.iinc 3 1, 3) := by decide +kernel
theorem dX0_begunFrom_29 : decode cX0_begunFrom 29 = .ok (.goto (-27), 3) := by decide +kernel
theorem dX0_begunFrom_32 : decode cX0_begunFrom 32 = .ok (.iconst (-1), 1) := by decide +kernel
theorem dX0_begunFrom_33 : decode cX0_begunFrom 33 = .ok (.ireturn, 1) := by decide +kernel
theorem dX0_readyFrom_0 : decode cX0_readyFrom 0 = .ok (.aload_n 0, 1) := by decide +kernel
theorem dX0_readyFrom_1 : decode cX0_readyFrom 1 = .ok (.iload_n 1, 1) := by decide +kernel
theorem dX0_readyFrom_2 : decode cX0_readyFrom 2 = .ok (.iload_n 2, 1) := by decide +kernel
theorem dX0_readyFrom_3 : decode cX0_readyFrom 3 = .ok (.invokevirtual 74, 3) := by decide +kernel
theorem dX0_readyFrom_6 : decode cX0_readyFrom 6 = .ok (.ifCond .ge 7, 3) := by decide +kernel
theorem dX0_readyFrom_9 : decode cX0_readyFrom 9 = .ok (.iconst (-1), 1) := by decide +kernel
theorem dX0_readyFrom_10 : decode cX0_readyFrom 10 = .ok (.goto 8, 3) := by decide +kernel
theorem dX0_readyFrom_13 : decode cX0_readyFrom 13 = .ok (.aload_n 0, 1) := by decide +kernel
theorem dX0_readyFrom_14 : decode cX0_readyFrom 14 = .ok (.iload_n 1, 1) := by decide +kernel
theorem dX0_readyFrom_15 : decode cX0_readyFrom 15 = .ok (.invokevirtual 77, 3) := by decide +kernel
theorem dX0_readyFrom_18 : decode cX0_readyFrom 18 = .ok (.ireturn, 1) := by decide +kernel
theorem dX0_latestFor_0 : decode cX0_latestFor 0 = .ok (.iload_n 2, 1) := by decide +kernel
theorem dX0_latestFor_1 : decode cX0_latestFor 1 = .ok (.istore_n 3, 1) := by decide +kernel
theorem dX0_latestFor_2 : decode cX0_latestFor 2 = .ok (.iload_n 3, 1) := by decide +kernel
theorem dX0_latestFor_3 : decode cX0_latestFor 3 = .ok (.ifCond .lt 29, 3) := by decide +kernel
theorem dX0_latestFor_6 : decode cX0_latestFor 6 = .ok (.aload_n 0, 1) := by decide +kernel
theorem dX0_latestFor_7 : decode cX0_latestFor 7 = .ok (.iload_n 1, 1) := by decide +kernel
theorem dX0_latestFor_8 : decode cX0_latestFor 8 = .ok (.iload_n 3, 1) := by decide +kernel
theorem dX0_latestFor_9 : decode cX0_latestFor 9 = .ok (.invokevirtual 71, 3) := by decide +kernel
theorem dX0_latestFor_12 : decode cX0_latestFor 12 = .ok (.ifCond .ge 14, 3) := by decide +kernel
theorem dX0_latestFor_15 : decode cX0_latestFor 15 = .ok (.aload_n 0, 1) := by decide +kernel
theorem dX0_latestFor_16 : decode cX0_latestFor 16 = .ok (.iload_n 1, 1) := by decide +kernel
theorem dX0_latestFor_17 : decode cX0_latestFor 17 = .ok (.invokevirtual 77, 3) := by decide +kernel
theorem dX0_latestFor_20 : decode cX0_latestFor 20 = .ok (.iload_n 2, 1) := by decide +kernel
theorem dX0_latestFor_21 : decode cX0_latestFor 21 = .ok (.if_icmp .gt 5, 3) := by decide +kernel
theorem dX0_latestFor_24 : decode cX0_latestFor 24 = .ok (.iload_n 3, 1) := by decide +kernel
theorem dX0_latestFor_25 : decode cX0_latestFor 25 = .ok (.ireturn, 1) := by decide +kernel
theorem dX0_latestFor_26 : decode cX0_latestFor 26 = .ok (.iinc 3 (-1), 3) := by decide +kernel
theorem dX0_latestFor_29 : decode cX0_latestFor 29 = .ok (.goto (-27), 3) := by decide +kernel
theorem dX0_latestFor_32 : decode cX0_latestFor 32 = .ok (.iconst (-1), 1) := by decide +kernel
theorem dX0_latestFor_33 : decode cX0_latestFor 33 = .ok (.ireturn, 1) := by decide +kernel
theorem dX0_longestWait_0 : decode cX0_longestWait 0 = .ok (.iconst 0, 1) := by decide +kernel
theorem dX0_longestWait_1 : decode cX0_longestWait 1 = .ok (.istore_n 2, 1) := by decide +kernel
theorem dX0_longestWait_2 : decode cX0_longestWait 2 = .ok (.iconst 1, 1) := by decide +kernel
theorem dX0_longestWait_3 : decode cX0_longestWait 3 = .ok (.istore_n 3, 1) := by decide +kernel
theorem dX0_longestWait_4 : decode cX0_longestWait 4 = .ok (.iload_n 3, 1) := by decide +kernel
theorem dX0_longestWait_5 : decode cX0_longestWait 5 = .ok (.aload_n 0, 1) := by decide +kernel
theorem dX0_longestWait_6 : decode cX0_longestWait 6 = .ok (.getfield 15, 3) := by decide +kernel
theorem dX0_longestWait_9 : decode cX0_longestWait 9 = .ok (.getfield 49, 3) := by decide +kernel
theorem dX0_longestWait_12 : decode cX0_longestWait 12 = .ok (.iload_n 1, 1) := by decide +kernel
theorem dX0_longestWait_13 : decode cX0_longestWait 13 = .ok (.iaload, 1) := by decide +kernel
theorem dX0_longestWait_14 : decode cX0_longestWait 14 = .ok (.if_icmp .ge 29, 3) := by decide +kernel
theorem dX0_longestWait_17 : decode cX0_longestWait 17 = .ok (.iload_n 2, 1) := by decide +kernel
theorem dX0_longestWait_18 : decode cX0_longestWait 18 = .ok (.aload_n 0, 1) := by decide +kernel
theorem dX0_longestWait_19 : decode cX0_longestWait 19 = .ok (.getfield 9, 3) := by decide +kernel
theorem dX0_longestWait_22 : decode cX0_longestWait 22 = .ok (.iload_n 3, 1) := by decide +kernel
theorem dX0_longestWait_23 : decode cX0_longestWait 23 = .ok (.iaload, 1) := by decide +kernel
theorem dX0_longestWait_24 : decode cX0_longestWait 24 = .ok (.aload_n 0, 1) := by decide +kernel
theorem dX0_longestWait_25 : decode cX0_longestWait 25 = .ok (.getfield 9, 3) := by decide +kernel
theorem dX0_longestWait_28 : decode cX0_longestWait 28 = .ok (.iload_n 3, 1) := by decide +kernel
theorem dX0_longestWait_29 : decode cX0_longestWait 29 = .ok (.iconst 1, 1) := by decide +kernel
theorem dX0_longestWait_30 : decode cX0_longestWait 30 = .ok (.isub, 1) := by decide +kernel
theorem dX0_longestWait_31 : decode cX0_longestWait 31 = .ok (.iaload, 1) := by decide +kernel
theorem dX0_longestWait_32 : decode cX0_longestWait 32 = .ok (.isub, 1) := by decide +kernel
theorem dX0_longestWait_33 : decode cX0_longestWait 33 = .ok (.invokestatic 80, 3) := by decide +kernel
theorem dX0_longestWait_36 : decode cX0_longestWait 36 = .ok (.istore_n 2, 1) := by decide +kernel
theorem dX0_longestWait_37 : decode cX0_longestWait 37 = .ok (.iinc 3 1, 3) := by decide +kernel
theorem dX0_longestWait_40 : decode cX0_longestWait 40 = .ok (.goto (-36), 3) := by decide +kernel
theorem dX0_longestWait_43 : decode cX0_longestWait 43 = .ok (.iload_n 2, 1) := by decide +kernel
theorem dX0_longestWait_44 : decode cX0_longestWait 44 = .ok (.ireturn, 1) := by decide +kernel
theorem dX0_rightDays_0 : decode cX0_rightDays 0 = .ok (.aload_n 2, 1) := by decide +kernel
theorem dX0_rightDays_1 : decode cX0_rightDays 1 = .ok (.getfield 83, 3) := by decide +kernel
theorem dX0_rightDays_4 : decode cX0_rightDays 4 = .ok (.aload_n 0, 1) := by decide +kernel
theorem dX0_rightDays_5 : decode cX0_rightDays 5 = .ok (.getfield 15, 3) := by decide +kernel
theorem dX0_rightDays_8 : decode cX0_rightDays 8 = .ok (.getfield 49, 3) := by decide +kernel
theorem dX0_rightDays_11 : decode cX0_rightDays 11 = .ok (.iload_n 1, 1) := by decide +kernel
theorem dX0_rightDays_12 : decode cX0_rightDays 12 = .ok (.iaload, 1) := by decide +kernel
theorem dX0_rightDays_13 : decode cX0_rightDays 13 = .ok (.invokestatic 59, 3) := by decide +kernel
theorem dX0_rightDays_16 : decode cX0_rightDays 16 = .ok (.istore_n 3, 1) := by decide +kernel
theorem dX0_rightDays_17 : decode cX0_rightDays 17 = .ok (.iconst 0, 1) := by decide +kernel
theorem dX0_rightDays_18 : decode cX0_rightDays 18 = .ok (.istore 4, 2) := by decide +kernel
theorem dX0_rightDays_20 : decode cX0_rightDays 20 = .ok (.iload 4, 2) := by decide +kernel
theorem dX0_rightDays_22 : decode cX0_rightDays 22 = .ok (.iload_n 3, 1) := by decide +kernel
theorem dX0_rightDays_23 : decode cX0_rightDays 23 = .ok (.if_icmp .ge 104, 3) := by decide +kernel
theorem dX0_rightDays_26 : decode cX0_rightDays 26 = .ok (.aload_n 2, 1) := by decide +kernel
theorem dX0_rightDays_27 : decode cX0_rightDays 27 = .ok (.getfield 88, 3) := by decide +kernel
theorem dX0_rightDays_30 : decode cX0_rightDays 30 = .ok (.iload 4, 2) := by decide +kernel
theorem dX0_rightDays_32 : decode cX0_rightDays 32 = .ok (.iaload, 1) := by decide +kernel
theorem dX0_rightDays_33 : decode cX0_rightDays 33 = .ok (.istore 5, 2) := by decide +kernel
theorem dX0_rightDays_35 : decode cX0_rightDays 35 = .ok (.iload 5, 2) := by decide +kernel
theorem dX0_rightDays_37 : decode cX0_rightDays 37 = .ok (.ifCond .lt 16, 3) := by decide +kernel
theorem dX0_rightDays_40 : decode cX0_rightDays 40 = .ok (.iload 4, 2) := by decide +kernel
theorem dX0_rightDays_42 : decode cX0_rightDays 42 = .ok (.ifCond .ne 14, 3) := by decide +kernel
theorem dX0_rightDays_45 : decode cX0_rightDays 45 = .ok (.iload 5, 2) := by decide +kernel
theorem dX0_rightDays_47 : decode cX0_rightDays 47 = .ok (.sipush 999, 3) := by decide +kernel
theorem dX0_rightDays_50 : decode cX0_rightDays 50 = .ok (.if_icmp .le 6, 3) := by decide +kernel
theorem dX0_rightDays_53 : decode cX0_rightDays 53 = .ok (.iload 4, 2) := by decide +kernel
theorem dX0_rightDays_55 : decode cX0_rightDays 55 = .ok (.ireturn, 1) := by decide +kernel
theorem dX0_rightDays_56 : decode cX0_rightDays 56 = .ok (.iload 4, 2) := by decide +kernel
theorem dX0_rightDays_58 : decode cX0_rightDays 58 = .ok (.ifCond .ne 8, 3) := by decide +kernel
theorem dX0_rightDays_61 : decode cX0_rightDays 61 = .ok (.iload 5, 2) := by decide +kernel
theorem dX0_rightDays_63 : decode cX0_rightDays 63 = .ok (.goto 12, 3) := by decide +kernel
theorem dX0_rightDays_66 : decode cX0_rightDays 66 = .ok (.aload_n 2, 1) := by decide +kernel
theorem dX0_rightDays_67 : decode cX0_rightDays 67 = .ok (.getfield 88, 3) := by decide +kernel
theorem dX0_rightDays_70 : decode cX0_rightDays 70 = .ok (.iload 4, 2) := by decide +kernel
theorem dX0_rightDays_72 : decode cX0_rightDays 72 = .ok (.iconst 1, 1) := by decide +kernel
theorem dX0_rightDays_73 : decode cX0_rightDays 73 = .ok (.isub, 1) := by decide +kernel
theorem dX0_rightDays_74 : decode cX0_rightDays 74 = .ok (.iaload, 1) := by decide +kernel
theorem dX0_rightDays_75 : decode cX0_rightDays 75 = .ok (.istore 6, 2) := by decide +kernel
theorem dX0_rightDays_77 : decode cX0_rightDays 77 = .ok (.aload_n 0, 1) := by decide +kernel
theorem dX0_rightDays_78 : decode cX0_rightDays 78 = .ok (.iload_n 1, 1) := by decide +kernel
theorem dX0_rightDays_79 : decode cX0_rightDays 79 = .ok (.iload 4, 2) := by decide +kernel
theorem dX0_rightDays_81 : decode cX0_rightDays 81 = .ok (.iload 6, 2) := by decide +kernel
theorem dX0_rightDays_83 : decode cX0_rightDays 83 = .ok (.invokevirtual 68, 3) := by decide +kernel
theorem dX0_rightDays_86 : decode cX0_rightDays 86 = .ok (.iload 5, 2) := by decide +kernel
theorem dX0_rightDays_88 : decode cX0_rightDays 88 = .ok (.if_icmp .eq 6, 3) := by decide +kernel
theorem dX0_rightDays_91 : decode cX0_rightDays 91 = .ok (.iload 4, 2) := by decide +kernel
theorem dX0_rightDays_93 : decode cX0_rightDays 93 = .ok (.ireturn, 1) := by decide +kernel
theorem dX0_rightDays_94 : decode cX0_rightDays 94 = .ok (.iload 4, 2) := by decide +kernel
theorem dX0_rightDays_96 : decode cX0_rightDays 96 = .ok (.ifCond .le 25, 3) := by decide +kernel
theorem dX0_rightDays_99 : decode cX0_rightDays 99 = .ok (.iload 5, 2) := by decide +kernel
theorem dX0_rightDays_101 : decode cX0_rightDays 101 = .ok (.iload 6, 2) := by decide +kernel
theorem dX0_rightDays_103 : decode cX0_rightDays 103 = .ok (.isub, 1) := by decide +kernel
theorem dX0_rightDays_104 : decode cX0_rightDays 104 = .ok (.aload_n 0, 1) := by decide +kernel
theorem dX0_rightDays_105 : decode cX0_rightDays 105 = .ok (.getfield 15, 3) := by decide +kernel
theorem dX0_rightDays_108 : decode cX0_rightDays 108 = .ok (.iload_n 1, 1) := by decide +kernel
theorem dX0_rightDays_109 : decode cX0_rightDays 109 = .ok (.iload 4, 2) := by decide +kernel
theorem dX0_rightDays_111 : decode cX0_rightDays 111 = .ok (.iconst 2, 1) := by decide +kernel
theorem dX0_rightDays_112 : decode cX0_rightDays 112 = .ok (.invokevirtual 28, 3) := by decide +kernel
theorem dX0_rightDays_115 : decode cX0_rightDays 115 = .ok (.if_icmp .le 6, 3) := by decide +kernel
theorem dX0_rightDays_118 : decode cX0_rightDays 118 = .ok (.iload 4, 2) := by decide +kernel
theorem dX0_rightDays_120 : decode cX0_rightDays 120 = .ok (.ireturn, 1) := by decide +kernel
theorem dX0_rightDays_121 : decode cX0_rightDays 121 = .ok (.iinc 4 1, 3) := by decide +kernel
theorem dX0_rightDays_124 : decode cX0_rightDays 124 = .ok (.goto (-104), 3) := by decide +kernel
theorem dX0_rightDays_127 : decode cX0_rightDays 127 = .ok (.iload_n 3, 1) := by decide +kernel
theorem dX0_rightDays_128 : decode cX0_rightDays 128 = .ok (.ireturn, 1) := by decide +kernel
theorem dX1_init_0 : decode cX1_init 0 = .ok (.aload_n 0, 1) := by decide +kernel
theorem dX1_init_1 : decode cX1_init 1 = .ok (.invokespecial 3, 3) := by decide +kernel
theorem dX1_init_4 : decode cX1_init 4 = .ok (.aload_n 0, 1) := by decide +kernel
theorem dX1_init_5 : decode cX1_init 5 = .ok (.iconst 0, 1) := by decide +kernel
theorem dX1_init_6 : decode cX1_init 6 = .ok (.putfield 9, 3) := by decide +kernel
theorem dX1_init_9 : decode cX1_init 9 = .ok (.aload_n 0, 1) := by decide +kernel
theorem dX1_init_10 : decode cX1_init 10 = .ok (.iconst 0, 1) := by decide +kernel
theorem dX1_init_11 : decode cX1_init 11 = .ok (.putfield 15, 3) := by decide +kernel
theorem dX1_init_14 : decode cX1_init 14 = .ok (.aload_n 0, 1) := by decide +kernel
theorem dX1_init_15 : decode cX1_init 15 = .ok (.bipush 40, 2) := by decide +kernel
theorem dX1_init_17 : decode cX1_init 17 = .ok (.newarray .int, 2) := by decide +kernel
theorem dX1_init_19 : decode cX1_init 19 = .ok (.putfield 18, 3) := by decide +kernel
theorem dX1_init_22 : decode cX1_init 22 = .ok (.return_, 1) := by decide +kernel
theorem dX1_layOut_0 : decode cX1_layOut 0 = .ok (.aload_n 0, 1) := by decide +kernel
theorem dX1_layOut_1 : decode cX1_layOut 1 = .ok (.iload_n 1, 1) := by decide +kernel
theorem dX1_layOut_2 : decode cX1_layOut 2 = .ok (.putfield 9, 3) := by decide +kernel
theorem dX1_layOut_5 : decode cX1_layOut 5 = .ok (.aload_n 0, 1) := by decide +kernel
theorem dX1_layOut_6 : decode cX1_layOut 6 = .ok (.iload_n 1, 1) := by decide +kernel
theorem dX1_layOut_7 : decode cX1_layOut 7 = .ok (.ifCond .ne 7, 3) := by decide +kernel
theorem dX1_layOut_10 : decode cX1_layOut 10 = .ok (.iconst 0, 1) := by decide +kernel
theorem dX1_layOut_11 : decode cX1_layOut 11 = .ok (.goto 4, 3) := by decide +kernel
theorem dX1_layOut_14 : decode cX1_layOut 14 = .ok (.iload_n 2, 1) := by decide +kernel
theorem dX1_layOut_15 : decode cX1_layOut 15 = .ok (.putfield 15, 3) := by decide +kernel
theorem dX1_layOut_18 : decode cX1_layOut 18 = .ok (.iconst 0, 1) := by decide +kernel
theorem dX1_layOut_19 : decode cX1_layOut 19 = .ok (.istore_n 3, 1) := by decide +kernel
theorem dX1_layOut_20 : decode cX1_layOut 20 = .ok (.iload_n 3, 1) := by decide +kernel
theorem dX1_layOut_21 : decode cX1_layOut 21 = .ok (.bipush 40, 2) := by decide +kernel
theorem dX1_layOut_23 : decode cX1_layOut 23 = .ok (.if_icmp .ge 16, 3) := by decide +kernel
theorem dX1_layOut_26 : decode cX1_layOut 26 = .ok (.aload_n 0, 1) := by decide +kernel
theorem dX1_layOut_27 : decode cX1_layOut 27 = .ok (.getfield 18, 3) := by decide +kernel
theorem dX1_layOut_30 : decode cX1_layOut 30 = .ok (.iload_n 3, 1) := by decide +kernel
theorem dX1_layOut_31 : decode cX1_layOut 31 = .ok (.iconst 0, 1) := by decide +kernel
theorem dX1_layOut_32 : decode cX1_layOut 32 = .ok (.iastore, 1) := by decide +kernel
theorem dX1_layOut_33 : decode cX1_layOut 33 = .ok (.iinc 3 1, 3) := by decide +kernel
theorem dX1_layOut_36 : decode cX1_layOut 36 = .ok (.goto (-16), 3) := by decide +kernel
theorem dX1_layOut_39 : decode cX1_layOut 39 = .ok (.return_, 1) := by decide +kernel
theorem dX1_put_0 : decode cX1_put 0 = .ok (.bipush 32, 2) := by decide +kernel
theorem dX1_put_2 : decode cX1_put 2 = .ok (.aload_n 0, 1) := by decide +kernel
theorem dX1_put_3 : decode cX1_put 3 = .ok (.getfield 9, 3) := by decide +kernel
theorem dX1_put_6 : decode cX1_put 6 = .ok (.isub, 1) := by decide +kernel
theorem dX1_put_7 : decode cX1_put 7 = .ok (.istore_n 3, 1) := by decide +kernel
theorem dX1_put_8 : decode cX1_put 8 = .ok (.aload_n 0, 1) := by decide +kernel
theorem dX1_put_9 : decode cX1_put 9 = .ok (.getfield 18, 3) := by decide +kernel
theorem dX1_put_12 : decode cX1_put 12 = .ok (.iload_n 1, 1) := by decide +kernel
theorem dX1_put_13 : decode cX1_put 13 = .ok (.iload_n 2, 1) := by decide +kernel
theorem dX1_put_14 : decode cX1_put 14 = .ok (.iload_n 3, 1) := by decide +kernel
theorem dX1_put_15 : decode cX1_put 15 = .ok (.ishl, 1) := by decide +kernel
theorem dX1_put_16 : decode cX1_put 16 = .ok (.iload_n 3, 1) := by decide +kernel
theorem dX1_put_17 : decode cX1_put 17 = .ok (.ishr, 1) := by decide +kernel
theorem dX1_put_18 : decode cX1_put 18 = .ok (.iastore, 1) := by decide +kernel
theorem dX1_put_19 : decode cX1_put 19 = .ok (.return_, 1) := by decide +kernel
theorem dX1_hasStretch_0 : decode cX1_hasStretch 0 = .ok (.iload_n 1, 1) := by decide +kernel
theorem dX1_hasStretch_1 : decode cX1_hasStretch 1 = .ok (.ifCond .lt 29, 3) := by decide +kernel
theorem dX1_hasStretch_4 : decode cX1_hasStretch 4 = .ok (.iload_n 2, 1) := by decide +kernel
theorem dX1_hasStretch_5 : decode cX1_hasStretch 5 = .ok (.ifCond .lt 25, 3) := by decide +kernel
theorem dX1_hasStretch_8 : decode cX1_hasStretch 8 = .ok (.iload_n 1, 1) := by decide +kernel
theorem dX1_hasStretch_9 : decode cX1_hasStretch 9 = .ok (.aload_n 0, 1) := by decide +kernel
theorem dX1_hasStretch_10 : decode cX1_hasStretch 10 = .ok (.getfield 15, 3) := by decide +kernel
theorem dX1_hasStretch_13 : decode cX1_hasStretch 13 = .ok (.if_icmp .gt 17, 3) := by decide +kernel
theorem dX1_hasStretch_16 : decode cX1_hasStretch 16 = .ok (.iload_n 2, 1) := by decide +kernel
theorem dX1_hasStretch_17 : decode cX1_hasStretch 17 = .ok (.aload_n 0, 1) := by decide +kernel
theorem dX1_hasStretch_18 : decode cX1_hasStretch 18 = .ok (.getfield 15, 3) := by decide +kernel
theorem dX1_hasStretch_21 : decode cX1_hasStretch 21 = .ok (.iload_n 1, 1) := by decide +kernel
theorem dX1_hasStretch_22 : decode cX1_hasStretch 22 = .ok (.isub, 1) := by decide +kernel
theorem dX1_hasStretch_23 : decode cX1_hasStretch 23 = .ok (.if_icmp .gt 7, 3) := by decide +kernel
theorem dX1_hasStretch_26 : decode cX1_hasStretch 26 = .ok (.iconst 1, 1) := by decide +kernel
theorem dX1_hasStretch_27 : decode cX1_hasStretch 27 = .ok (.goto 4, 3) := by decide +kernel
theorem dX1_hasStretch_30 : decode cX1_hasStretch 30 = .ok (.iconst 0, 1) := by decide +kernel
theorem dX1_hasStretch_31 : decode cX1_hasStretch 31 = .ok (.ireturn, 1) := by decide +kernel
theorem dX2_init_0 : decode cX2_init 0 = .ok (.aload_n 0, 1) := by decide +kernel
theorem dX2_init_1 : decode cX2_init 1 = .ok (.invokespecial 3, 3) := by decide +kernel
theorem dX2_init_4 : decode cX2_init 4 = .ok (.aload_n 0, 1) := by decide +kernel
theorem dX2_init_5 : decode cX2_init 5 = .ok (.bipush 60, 2) := by decide +kernel
theorem dX2_init_7 : decode cX2_init 7 = .ok (.newarray .boolean, 2) := by decide +kernel
theorem dX2_init_9 : decode cX2_init 9 = .ok (.putfield 9, 3) := by decide +kernel
theorem dX2_init_12 : decode cX2_init 12 = .ok (.aload_n 0, 1) := by decide +kernel
theorem dX2_init_13 : decode cX2_init 13 = .ok (.sipush 480, 3) := by decide +kernel
theorem dX2_init_16 : decode cX2_init 16 = .ok (.newarray .int, 2) := by decide +kernel
theorem dX2_init_18 : decode cX2_init 18 = .ok (.putfield 15, 3) := by decide +kernel
theorem dX2_init_21 : decode cX2_init 21 = .ok (.aload_n 0, 1) := by decide +kernel
theorem dX2_init_22 : decode cX2_init 22 = .ok (.sipush 3200, 3) := by decide +kernel
theorem dX2_init_25 : decode cX2_init 25 = .ok (.newarray .int, 2) := by decide +kernel
theorem dX2_init_27 : decode cX2_init 27 = .ok (.putfield 19, 3) := by decide +kernel
theorem dX2_init_30 : decode cX2_init 30 = .ok (.aload_n 0, 1) := by decide +kernel
theorem dX2_init_31 : decode cX2_init 31 = .ok (.bipush 40, 2) := by decide +kernel
theorem dX2_init_33 : decode cX2_init 33 = .ok (.newarray .int, 2) := by decide +kernel
theorem dX2_init_35 : decode cX2_init 35 = .ok (.putfield 22, 3) := by decide +kernel
theorem dX2_init_38 : decode cX2_init 38 = .ok (.aload_n 0, 1) := by decide +kernel
theorem dX2_init_39 : decode cX2_init 39 = .ok (.iconst 0, 1) := by decide +kernel
theorem dX2_init_40 : decode cX2_init 40 = .ok (.putfield 25, 3) := by decide +kernel
theorem dX2_init_43 : decode cX2_init 43 = .ok (.aload_n 0, 1) := by decide +kernel
theorem dX2_init_44 : decode cX2_init 44 = .ok (.iconst 5, 1) := by decide +kernel
theorem dX2_init_45 : decode cX2_init 45 = .ok (.newarray .int, 2) := by decide +kernel
theorem dX2_init_47 : decode cX2_init 47 = .ok (.putfield 29, 3) := by decide +kernel
theorem dX2_init_50 : decode cX2_init 50 = .ok (.aload_n 0, 1) := by decide +kernel
theorem dX2_init_51 : decode cX2_init 51 = .ok (.bipush 8, 2) := by decide +kernel
theorem dX2_init_53 : decode cX2_init 53 = .ok (.newarray .int, 2) := by decide +kernel
theorem dX2_init_55 : decode cX2_init 55 = .ok (.putfield 32, 3) := by decide +kernel
theorem dX2_init_58 : decode cX2_init 58 = .ok (.aload_n 0, 1) := by decide +kernel
theorem dX2_init_59 : decode cX2_init 59 = .ok (.iconst 0, 1) := by decide +kernel
theorem dX2_init_60 : decode cX2_init 60 = .ok (.putfield 35, 3) := by decide +kernel
theorem dX2_init_63 : decode cX2_init 63 = .ok (.aload_n 0, 1) := by decide +kernel
theorem dX2_init_64 : decode cX2_init 64 = .ok (.iconst 0, 1) := by decide +kernel
theorem dX2_init_65 : decode cX2_init 65 = .ok (.putfield 38, 3) := by decide +kernel
theorem dX2_init_68 : decode cX2_init 68 = .ok (.aload_n 0, 1) := by decide +kernel
theorem dX2_init_69 : decode cX2_init 69 = .ok (.iconst (-1), 1) := by decide +kernel
theorem dX2_init_70 : decode cX2_init 70 = .ok (.putfield 41, 3) := by decide +kernel
theorem dX2_init_73 : decode cX2_init 73 = .ok (.aload_n 0, 1) := by decide +kernel
theorem dX2_init_74 : decode cX2_init 74 = .ok (.iconst 0, 1) := by decide +kernel
theorem dX2_init_75 : decode cX2_init 75 = .ok (.putfield 44, 3) := by decide +kernel
theorem dX2_init_78 : decode cX2_init 78 = .ok (.aload_n 0, 1) := by decide +kernel
theorem dX2_init_79 : decode cX2_init 79 = .ok (.iconst 0, 1) := by decide +kernel
theorem dX2_init_80 : decode cX2_init 80 = .ok (.putfield 47, 3) := by decide +kernel
theorem dX2_init_83 : decode cX2_init 83 = .ok (.aload_n 0, 1) := by decide +kernel
theorem dX2_init_84 : decode cX2_init 84 = .ok (.iconst 0, 1) := by decide +kernel
theorem dX2_init_85 : decode cX2_init 85 = .ok (.putfield 50, 3) := by decide +kernel
theorem dX2_init_88 : decode cX2_init 88 = .ok (.aload_n 0, 1) := by decide +kernel
theorem dX2_init_89 : decode cX2_init 89 = .ok (.aload_n 1, 1) := by decide +kernel
theorem dX2_init_90 : decode cX2_init 90 = .ok (.putfield 53, 3) := by decide +kernel
theorem dX2_init_93 : decode cX2_init 93 = .ok (.aload_n 0, 1) := by decide +kernel
theorem dX2_init_94 : decode cX2_init 94 = .ok (.aload_n 2, 1) := by decide +kernel
theorem dX2_init_95 : decode cX2_init 95 = .ok (.putfield 57, 3) := by decide +kernel
theorem dX2_init_98 : decode cX2_init 98 = .ok (.return_, 1) := by decide +kernel
theorem dX2_readSequence_0 : decode cX2_readSequence 0 = .ok (.iload_n 1, 1) := by decide +kernel
theorem dX2_readSequence_1 : decode cX2_readSequence 1 = .ok (.ifCond .lt 12, 3) := by decide +kernel
theorem dX2_readSequence_4 : decode cX2_readSequence 4 = .ok (.iload_n 2, 1) := by decide +kernel
theorem dX2_readSequence_5 : decode cX2_readSequence 5 = .ok (.iconst 0, 1) := by decide +kernel
theorem dX2_readSequence_6 : decode cX2_readSequence 6 = .ok (.iconst 5, 1) := by decide +kernel
theorem dX2_readSequence_7 : decode cX2_readSequence 7 = .ok (.invokestatic 61, 3) := by decide +kernel
theorem dX2_readSequence_10 : decode cX2_readSequence 10 = .ok (.ifCond .ne 5, 3) := by decide +kernel
theorem dX2_readSequence_13 : decode cX2_readSequence 13 = .ok (.iconst 0, 1) := by decide +kernel
theorem dX2_readSequence_14 : decode cX2_readSequence 14 = .ok (.ireturn, 1) := by decide +kernel
theorem dX2_readSequence_15 : decode cX2_readSequence 15 = .ok (.iload_n 1, 1) := by decide +kernel
theorem dX2_readSequence_16 : decode cX2_readSequence 16 = .ok (.istore_n 3, 1) := by decide +kernel
theorem dX2_readSequence_17 : decode cX2_readSequence 17 = .ok (.iconst 0, 1) := by decide +kernel
theorem dX2_readSequence_18 : decode cX2_readSequence 18 = .ok (.istore 4, 2) := by decide +kernel
theorem dX2_readSequence_20 : decode cX2_readSequence 20 = .ok (.iload_n 2, 1) := by decide +kernel
theorem dX2_readSequence_21 : decode cX2_readSequence 21 = .ok (.iconst 1, 1) := by decide +kernel
theorem dX2_readSequence_22 : decode cX2_readSequence 22 = .ok (.isub, 1) := by decide +kernel
theorem dX2_readSequence_23 : decode cX2_readSequence 23 = .ok (.istore 5, 2) := by decide +kernel
theorem dX2_readSequence_25 : decode cX2_readSequence 25 = .ok (.iload 5, 2) := by decide +kernel
theorem dX2_readSequence_27 : decode cX2_readSequence 27 = .ok (.ifCond .lt 62, 3) := by decide +kernel
theorem dX2_readSequence_30 : decode cX2_readSequence 30 = .ok (.iload_n 3, 1) := by decide +kernel
theorem dX2_readSequence_31 : decode cX2_readSequence 31 = .ok (.bipush 10, 2) := by decide +kernel
theorem dX2_readSequence_33 : decode cX2_readSequence 33 = .ok (.irem, 1) := by decide +kernel
theorem dX2_readSequence_34 : decode cX2_readSequence 34 = .ok (.istore 6, 2) := by decide +kernel
theorem dX2_readSequence_36 : decode cX2_readSequence 36 = .ok (.iload 6, 2) := by decide +kernel
theorem dX2_readSequence_38 : decode cX2_readSequence 38 = .ok (.aload_n 0, 1) := by decide +kernel
theorem dX2_readSequence_39 : decode cX2_readSequence 39 = .ok (.getfield 53, 3) := by decide +kernel
theorem dX2_readSequence_42 : decode cX2_readSequence 42 = .ok (.getfield 65, 3) := by decide +kernel
theorem dX2_readSequence_45 : decode cX2_readSequence 45 = .ok (.if_icmp .ge 13, 3) := by decide +kernel
theorem dX2_readSequence_48 : decode cX2_readSequence 48 = .ok (.iload 4, 2) := by decide +kernel
theorem dX2_readSequence_50 : decode cX2_readSequence 50 = .ok (.iload 6, 2) := by decide +kernel
theorem dX2_readSequence_52 : decode cX2_readSequence 52 = .ok (.ishr, 1) := by decide +kernel
theorem dX2_readSequence_53 : decode cX2_readSequence 53 = .ok (.iconst 1, 1) := by decide +kernel
theorem dX2_readSequence_54 : decode cX2_readSequence 54 = .ok (.iand, 1) := by decide +kernel
theorem dX2_readSequence_55 : decode cX2_readSequence 55 = .ok (.ifCond .eq 5, 3) := by decide +kernel
theorem dX2_readSequence_58 : decode cX2_readSequence 58 = .ok (.iconst 0, 1) := by decide +kernel
theorem dX2_readSequence_59 : decode cX2_readSequence 59 = .ok (.ireturn, 1) := by decide +kernel
theorem dX2_readSequence_60 : decode cX2_readSequence 60 = .ok (.iload 4, 2) := by decide +kernel
theorem dX2_readSequence_62 : decode cX2_readSequence 62 = .ok (.iconst 1, 1) := by decide +kernel
theorem dX2_readSequence_63 : decode cX2_readSequence 63 = .ok (.iload 6, 2) := by decide +kernel
theorem dX2_readSequence_65 : decode cX2_readSequence 65 = .ok (.ishl, 1) := by decide +kernel
theorem dX2_readSequence_66 : decode cX2_readSequence 66 = .ok (.ior, 1) := by decide +kernel
theorem dX2_readSequence_67 : decode cX2_readSequence 67 = .ok (.istore 4, 2) := by decide +kernel
theorem dX2_readSequence_69 : decode cX2_readSequence 69 = .ok (.aload_n 0, 1) := by decide +kernel
theorem dX2_readSequence_70 : decode cX2_readSequence 70 = .ok (.getfield 29, 3) := by decide +kernel
theorem dX2_readSequence_73 : decode cX2_readSequence 73 = .ok (.iload 5, 2) := by decide +kernel
theorem dX2_readSequence_75 : decode cX2_readSequence 75 = .ok (.iload 6, 2) := by decide +kernel
theorem dX2_readSequence_77 : decode cX2_readSequence 77 = .ok (.iastore, 1) := by decide +kernel
theorem dX2_readSequence_78 : decode cX2_readSequence 78 = .ok (.iload_n 3, 1) := by decide +kernel
theorem dX2_readSequence_79 : decode cX2_readSequence 79 = .ok (.bipush 10, 2) := by decide +kernel
theorem dX2_readSequence_81 : decode cX2_readSequence 81 = .ok (.idiv, 1) := by decide +kernel
theorem dX2_readSequence_82 : decode cX2_readSequence 82 = .ok (.istore_n 3, 1) := by decide +kernel
theorem dX2_readSequence_83 : decode cX2_readSequence 83 = .ok (.iinc 5 (-1), 3) := by decide +kernel
theorem dX2_readSequence_86 : decode cX2_readSequence 86 = .ok (.goto (-61), 3) := by decide +kernel
theorem dX2_readSequence_89 : decode cX2_readSequence 89 = .ok (.iload_n 3, 1) := by decide +kernel
theorem dX2_readSequence_90 : decode cX2_readSequence 90 = .ok (.ifCond .ne 7, 3) := by decide +kernel
theorem dX2_readSequence_93 : decode cX2_readSequence 93 = .ok (.iconst 1, 1) := by decide +kernel
theorem dX2_readSequence_94 : decode cX2_readSequence 94 = .ok (.goto 4, 3) := by decide +kernel
theorem dX2_readSequence_97 : decode cX2_readSequence 97 = .ok (.iconst 0, 1) := by decide +kernel
theorem dX2_readSequence_98 : decode cX2_readSequence 98 = .ok (.ireturn, 1) := by decide +kernel
theorem dX2_plotRuns_0 : decode cX2_plotRuns 0 = .ok (.iconst 0, 1) := by decide +kernel
theorem dX2_plotRuns_1 : decode cX2_plotRuns 1 = .ok (.istore_n 1, 1) := by decide +kernel
theorem dX2_plotRuns_2 : decode cX2_plotRuns 2 = .ok (.iload_n 1, 1) := by decide +kernel
theorem dX2_plotRuns_3 : decode cX2_plotRuns 3 = .ok (.aload_n 0, 1) := by decide +kernel
theorem dX2_plotRuns_4 : decode cX2_plotRuns 4 = .ok (.getfield 53, 3) := by decide +kernel
theorem dX2_plotRuns_7 : decode cX2_plotRuns 7 = .ok (.getfield 65, 3) := by decide +kernel
theorem dX2_plotRuns_10 : decode cX2_plotRuns 10 = .ok (.if_icmp .ge 92, 3) := by decide +kernel
theorem dX2_plotRuns_13 : decode cX2_plotRuns 13 = .ok (.aload_n 0, 1) := by decide +kernel
theorem dX2_plotRuns_14 : decode cX2_plotRuns 14 = .ok (.getfield 53, 3) := by decide +kernel
theorem dX2_plotRuns_17 : decode cX2_plotRuns 17 = .ok (.iload_n 1, 1) := by decide +kernel
theorem dX2_plotRuns_18 : decode cX2_plotRuns 18 = .ok (.iconst 0, 1) := by decide +kernel
theorem dX2_plotRuns_19 : decode cX2_plotRuns 19 = .ok (.invokevirtual 70, 3) := by decide +kernel
theorem dX2_plotRuns_22 : decode cX2_plotRuns 22 = .ok (.istore_n 2, 1) := by decide +kernel
theorem dX2_plotRuns_23 : decode cX2_plotRuns 23 = .ok (.iconst 0, 1) := by decide +kernel
theorem dX2_plotRuns_24 : decode cX2_plotRuns 24 = .ok (.istore_n 3, 1) := by decide +kernel
theorem dX2_plotRuns_25 : decode cX2_plotRuns 25 = .ok (.iload_n 3, 1) := by decide +kernel
theorem dX2_plotRuns_26 : decode cX2_plotRuns 26 = .ok (.aload_n 0, 1) := by decide +kernel
theorem dX2_plotRuns_27 : decode cX2_plotRuns 27 = .ok (.getfield 53, 3) := by decide +kernel
theorem dX2_plotRuns_30 : decode cX2_plotRuns 30 = .ok (.getfield 74, 3) := by decide +kernel
theorem dX2_plotRuns_33 : decode cX2_plotRuns 33 = .ok (.if_icmp .ge 63, 3) := by decide +kernel
theorem dX2_plotRuns_36 : decode cX2_plotRuns 36 = .ok (.iload_n 1, 1) := by decide +kernel
theorem dX2_plotRuns_37 : decode cX2_plotRuns 37 = .ok (.bipush 12, 2) := by decide +kernel
theorem dX2_plotRuns_39 : decode cX2_plotRuns 39 = .ok (.imul, 1) := by decide +kernel
theorem dX2_plotRuns_40 : decode cX2_plotRuns 40 = .ok (.iload_n 3, 1) := by decide +kernel
theorem dX2_plotRuns_41 : decode cX2_plotRuns 41 = .ok (.iadd, 1) := by decide +kernel
theorem dX2_plotRuns_42 : decode cX2_plotRuns 42 = .ok (.istore 4, 2) := by decide +kernel
theorem dX2_plotRuns_44 : decode cX2_plotRuns 44 = .ok (.aload_n 0, 1) := by decide +kernel
theorem dX2_plotRuns_45 : decode cX2_plotRuns 45 = .ok (.getfield 9, 3) := by decide +kernel
theorem dX2_plotRuns_48 : decode cX2_plotRuns 48 = .ok (.iload 4, 2) := by decide +kernel
theorem dX2_plotRuns_50 : decode cX2_plotRuns 50 = .ok (.aload_n 0, 1) := by decide +kernel
theorem dX2_plotRuns_51 : decode cX2_plotRuns 51 = .ok (.getfield 57, 3) := by decide +kernel
theorem dX2_plotRuns_54 : decode cX2_plotRuns 54 = .ok (.iload_n 2, 1) := by decide +kernel
theorem dX2_plotRuns_55 : decode cX2_plotRuns 55 = .ok (.iload_n 3, 1) := by decide +kernel
theorem dX2_plotRuns_56 : decode cX2_plotRuns 56 = .ok (.invokevirtual 77, 3) := by decide +kernel
theorem dX2_plotRuns_59 : decode cX2_plotRuns 59 = .ok (.ifCond .ge 7, 3) := by decide +kernel
theorem dX2_plotRuns_62 : decode cX2_plotRuns 62 = .ok (.iconst 1, 1) := by decide +kernel
theorem dX2_plotRuns_63 : decode cX2_plotRuns 63 = .ok (.goto 4, 3) := by decide +kernel
theorem dX2_plotRuns_66 : decode cX2_plotRuns 66 = .ok (.iconst 0, 1) := by decide +kernel
theorem dX2_plotRuns_67 : decode cX2_plotRuns 67 = .ok (.bastore, 1) := by decide +kernel
theorem dX2_plotRuns_68 : decode cX2_plotRuns 68 = .ok (.aload_n 0, 1) := by decide +kernel
theorem dX2_plotRuns_69 : decode cX2_plotRuns 69 = .ok (.getfield 57, 3) := by decide +kernel
theorem dX2_plotRuns_72 : decode cX2_plotRuns 72 = .ok (.getfield 82, 3) := by decide +kernel
theorem dX2_plotRuns_75 : decode cX2_plotRuns 75 = .ok (.iconst 0, 1) := by decide +kernel
theorem dX2_plotRuns_76 : decode cX2_plotRuns 76 = .ok (.aload_n 0, 1) := by decide +kernel
theorem dX2_plotRuns_77 : decode cX2_plotRuns 77 = .ok (.getfield 15, 3) := by decide +kernel
theorem dX2_plotRuns_80 : decode cX2_plotRuns 80 = .ok (.iload 4, 2) := by decide +kernel
theorem dX2_plotRuns_82 : decode cX2_plotRuns 82 = .ok (.bipush 8, 2) := by decide +kernel
theorem dX2_plotRuns_84 : decode cX2_plotRuns 84 = .ok (.imul, 1) := by decide +kernel
theorem dX2_plotRuns_85 : decode cX2_plotRuns 85 = .ok (.bipush 8, 2) := by decide +kernel
theorem dX2_plotRuns_87 : decode cX2_plotRuns 87 = .ok (.invokestatic 85, 3) := by decide +kernel
theorem dX2_plotRuns_90 : decode cX2_plotRuns 90 = .ok (.iinc 3 1, 3) := by decide +kernel
theorem dX2_plotRuns_93 : decode cX2_plotRuns 93 = .ok (.goto (-68), 3) := by decide +kernel
theorem dX2_plotRuns_96 : decode cX2_plotRuns 96 = .ok (.iinc 1 1, 3) := by decide +kernel
theorem dX2_plotRuns_99 : decode cX2_plotRuns 99 = .ok (.goto (-97), 3) := by decide +kernel
theorem dX2_plotRuns_102 : decode cX2_plotRuns 102 = .ok (.return_, 1) := by decide +kernel
theorem dX2_takeInSequence_0 : decode cX2_takeInSequence 0 = .ok (.aload_n 0, 1) := by decide +kernel
theorem dX2_takeInSequence_1 : decode cX2_takeInSequence 1 = .ok (.invokevirtual 91, 3) := by decide +kernel
theorem dX2_takeInSequence_4 : decode cX2_takeInSequence 4 = .ok (.iconst 0, 1) := by decide +kernel
theorem dX2_takeInSequence_5 : decode cX2_takeInSequence 5 = .ok (.istore_n 2, 1) := by decide +kernel
theorem dX2_takeInSequence_6 : decode cX2_takeInSequence 6 = .ok (.iload_n 2, 1) := by decide +kernel
theorem dX2_takeInSequence_7 : decode cX2_takeInSequence 7 = .ok (.iload_n 1, 1) := by decide +kernel
theorem dX2_takeInSequence_8 : decode cX2_takeInSequence 8 = .ok (.if_icmp .ge 71, 3) := by decide +kernel
theorem dX2_takeInSequence_11 : decode cX2_takeInSequence 11 = .ok (.aload_n 0, 1) := by decide +kernel
theorem dX2_takeInSequence_12 : decode cX2_takeInSequence 12 = .ok (.getfield 29, 3) := by decide +kernel
theorem dX2_takeInSequence_15 : decode cX2_takeInSequence 15 = .ok (.iload_n 2, 1) := by decide +kernel
theorem dX2_takeInSequence_16 : decode cX2_takeInSequence 16 = .ok (.iaload, 1) := by decide +kernel
theorem dX2_takeInSequence_17 : decode cX2_takeInSequence 17 = .ok (.istore_n 3, 1) := by decide +kernel
theorem dX2_takeInSequence_18 : decode cX2_takeInSequence 18 = .ok (.aload_n 0, 1) := by decide +kernel
theorem dX2_takeInSequence_19 : decode cX2_takeInSequence 19 = .ok (.iload_n 3, 1) := by decide +kernel
theorem dX2_takeInSequence_20 : decode cX2_takeInSequence 20 = .ok (.invokevirtual 94, 3) := by decide +kernel
theorem dX2_takeInSequence_23 : decode cX2_takeInSequence 23 = .ok (.istore 4, 2) := by decide +kernel
theorem dX2_takeInSequence_25 : decode cX2_takeInSequence 25 = .ok (.iload 4, 2) := by decide +kernel
theorem dX2_takeInSequence_27 : decode cX2_takeInSequence 27 = .ok (.ifCond .lt 46, 3) := by decide +kernel
theorem dX2_takeInSequence_30 : decode cX2_takeInSequence 30 = .ok (.aload_n 0, 1) := by decide +kernel
theorem dX2_takeInSequence_31 : decode cX2_takeInSequence 31 = .ok (.dup, 1) := by decide +kernel
theorem dX2_takeInSequence_32 : decode cX2_takeInSequence 32 = .ok (.getfield 35, 3) := by decide +kernel
theorem dX2_takeInSequence_35 : decode cX2_takeInSequence 35 = .ok (.aload_n 0, 1) := by decide +kernel
theorem dX2_takeInSequence_36 : decode cX2_takeInSequence 36 = .ok (.getfield 53, 3) := by decide +kernel
theorem dX2_takeInSequence_39 : decode cX2_takeInSequence 39 = .ok (.iload_n 3, 1) := by decide +kernel
theorem dX2_takeInSequence_40 : decode cX2_takeInSequence 40 = .ok (.iconst 2, 1) := by decide +kernel
theorem dX2_takeInSequence_41 : decode cX2_takeInSequence 41 = .ok (.invokevirtual 70, 3) := by decide +kernel
theorem dX2_takeInSequence_44 : decode cX2_takeInSequence 44 = .ok (.iadd, 1) := by decide +kernel
theorem dX2_takeInSequence_45 : decode cX2_takeInSequence 45 = .ok (.putfield 35, 3) := by decide +kernel
theorem dX2_takeInSequence_48 : decode cX2_takeInSequence 48 = .ok (.aload_n 0, 1) := by decide +kernel
theorem dX2_takeInSequence_49 : decode cX2_takeInSequence 49 = .ok (.dup, 1) := by decide +kernel
theorem dX2_takeInSequence_50 : decode cX2_takeInSequence 50 = .ok (.getfield 38, 3) := by decide +kernel
theorem dX2_takeInSequence_53 : decode cX2_takeInSequence 53 = .ok (.iconst 1, 1) := by decide +kernel
theorem dX2_takeInSequence_54 : decode cX2_takeInSequence 54 = .ok (.iload_n 3, 1) := by decide +kernel
theorem dX2_takeInSequence_55 : decode cX2_takeInSequence 55 = .ok (.ishl, 1) := by decide +kernel
theorem dX2_takeInSequence_56 : decode cX2_takeInSequence 56 = .ok (.ior, 1) := by decide +kernel
theorem dX2_takeInSequence_57 : decode cX2_takeInSequence 57 = .ok (.putfield 38, 3) := by decide +kernel
theorem dX2_takeInSequence_60 : decode cX2_takeInSequence 60 = .ok (.aload_n 0, 1) := by decide +kernel
theorem dX2_takeInSequence_61 : decode cX2_takeInSequence 61 = .ok (.aload_n 0, 1) := by decide +kernel
theorem dX2_takeInSequence_62 : decode cX2_takeInSequence 62 = .ok (.getfield 41, 3) := by decide +kernel
theorem dX2_takeInSequence_65 : decode cX2_takeInSequence 65 = .ok (.iload 4, 2) := by decide +kernel
theorem dX2_takeInSequence_67 : decode cX2_takeInSequence 67 = .ok (.invokestatic 98, 3) := by decide +kernel
theorem dX2_takeInSequence_70 : decode cX2_takeInSequence 70 = .ok (.putfield 41, 3) := by decide +kernel
theorem dX2_takeInSequence_73 : decode cX2_takeInSequence 73 = .ok (.iinc 2 1, 3) := by decide +kernel
theorem dX2_takeInSequence_76 : decode cX2_takeInSequence 76 = .ok (.goto (-70), 3) := by decide +kernel
theorem dX2_takeInSequence_79 : decode cX2_takeInSequence 79 = .ok (.return_, 1) := by decide +kernel
theorem dX2_forget_0 : decode cX2_forget 0 = .ok (.iconst 0, 1) := by decide +kernel
theorem dX2_forget_1 : decode cX2_forget 1 = .ok (.istore_n 1, 1) := by decide +kernel
theorem dX2_forget_2 : decode cX2_forget 2 = .ok (.iload_n 1, 1) := by decide +kernel
theorem dX2_forget_3 : decode cX2_forget 3 = .ok (.aload_n 0, 1) := by decide +kernel
theorem dX2_forget_4 : decode cX2_forget 4 = .ok (.getfield 25, 3) := by decide +kernel
theorem dX2_forget_7 : decode cX2_forget 7 = .ok (.if_icmp .ge 21, 3) := by decide +kernel
theorem dX2_forget_10 : decode cX2_forget 10 = .ok (.aload_n 0, 1) := by decide +kernel
theorem dX2_forget_11 : decode cX2_forget 11 = .ok (.getfield 19, 3) := by decide +kernel
theorem dX2_forget_14 : decode cX2_forget 14 = .ok (.aload_n 0, 1) := by decide +kernel
theorem dX2_forget_15 : decode cX2_forget 15 = .ok (.getfield 22, 3) := by decide +kernel
theorem dX2_forget_18 : decode cX2_forget 18 = .ok (.iload_n 1, 1) := by decide +kernel
theorem dX2_forget_19 : decode cX2_forget 19 = .ok (.iaload, 1) := by decide +kernel
theorem dX2_forget_20 : decode cX2_forget 20 = .ok (.iconst 0, 1) := by decide +kernel
theorem dX2_forget_21 : decode cX2_forget 21 = .ok (.iastore, 1) := by decide +kernel
theorem dX2_forget_22 : decode cX2_forget 22 = .ok (.iinc 1 1, 3) := by decide +kernel
theorem dX2_forget_25 : decode cX2_forget 25 = .ok (.goto (-23), 3) := by decide +kernel
theorem dX2_forget_28 : decode cX2_forget 28 = .ok (.aload_n 0, 1) := by decide +kernel
theorem dX2_forget_29 : decode cX2_forget 29 = .ok (.iconst 0, 1) := by decide +kernel
theorem dX2_forget_30 : decode cX2_forget 30 = .ok (.putfield 25, 3) := by decide +kernel
theorem dX2_forget_33 : decode cX2_forget 33 = .ok (.iconst 0, 1) := by decide +kernel
theorem dX2_forget_34 : decode cX2_forget 34 = .ok (.istore_n 1, 1) := by decide +kernel
theorem dX2_forget_35 : decode cX2_forget 35 = .ok (.iload_n 1, 1) := by decide +kernel
theorem dX2_forget_36 : decode cX2_forget 36 = .ok (.bipush 8, 2) := by decide +kernel
theorem dX2_forget_38 : decode cX2_forget 38 = .ok (.if_icmp .ge 16, 3) := by decide +kernel
theorem dX2_forget_41 : decode cX2_forget 41 = .ok (.aload_n 0, 1) := by decide +kernel
theorem dX2_forget_42 : decode cX2_forget 42 = .ok (.getfield 32, 3) := by decide +kernel
theorem dX2_forget_45 : decode cX2_forget 45 = .ok (.iload_n 1, 1) := by decide +kernel
theorem dX2_forget_46 : decode cX2_forget 46 = .ok (.iconst 0, 1) := by decide +kernel
theorem dX2_forget_47 : decode cX2_forget 47 = .ok (.iastore, 1) := by decide +kernel
theorem dX2_forget_48 : decode cX2_forget 48 = .ok (.iinc 1 1, 3) := by decide +kernel
theorem dX2_forget_51 : decode cX2_forget 51 = .ok (.goto (-16), 3) := by decide +kernel
theorem dX2_forget_54 : decode cX2_forget 54 = .ok (.aload_n 0, 1) := by decide +kernel
theorem dX2_forget_55 : decode cX2_forget 55 = .ok (.iconst 0, 1) := by decide +kernel
theorem dX2_forget_56 : decode cX2_forget 56 = .ok (.putfield 35, 3) := by decide +kernel
theorem dX2_forget_59 : decode cX2_forget 59 = .ok (.aload_n 0, 1) := by decide +kernel
theorem dX2_forget_60 : decode cX2_forget 60 = .ok (.iconst 0, 1) := by decide +kernel
theorem dX2_forget_61 : decode cX2_forget 61 = .ok (.putfield 38, 3) := by decide +kernel
theorem dX2_forget_64 : decode cX2_forget 64 = .ok (.aload_n 0, 1) := by decide +kernel
theorem dX2_forget_65 : decode cX2_forget 65 = .ok (.iconst (-1), 1) := by decide +kernel
theorem dX2_forget_66 : decode cX2_forget 66 = .ok (.putfield 41, 3) := by decide +kernel
theorem dX2_forget_69 : decode cX2_forget 69 = .ok (.return_, 1) := by decide +kernel
theorem dX2_make_0 : decode cX2_make 0 = .ok (.aload_n 0, 1) := by decide +kernel
theorem dX2_make_1 : decode cX2_make 1 = .ok (.getfield 53, 3) := by decide +kernel
theorem dX2_make_4 : decode cX2_make 4 = .ok (.getfield 103, 3) := by decide +kernel
theorem dX2_make_7 : decode cX2_make 7 = .ok (.aload_n 0, 1) := by decide +kernel
theorem dX2_make_8 : decode cX2_make 8 = .ok (.getfield 53, 3) := by decide +kernel
theorem dX2_make_11 : decode cX2_make 11 = .ok (.iload_n 1, 1) := by decide +kernel
theorem dX2_make_12 : decode cX2_make 12 = .ok (.iconst 0, 1) := by decide +kernel
theorem dX2_make_13 : decode cX2_make 13 = .ok (.invokevirtual 70, 3) := by decide +kernel
theorem dX2_make_16 : decode cX2_make 16 = .ok (.iaload, 1) := by decide +kernel
theorem dX2_make_17 : decode cX2_make 17 = .ok (.iconst 1, 1) := by decide +kernel
theorem dX2_make_18 : decode cX2_make 18 = .ok (.isub, 1) := by decide +kernel
theorem dX2_make_19 : decode cX2_make 19 = .ok (.istore_n 2, 1) := by decide +kernel
theorem dX2_make_20 : decode cX2_make 20 = .ok (.iconst 0, 1) := by decide +kernel
theorem dX2_make_21 : decode cX2_make 21 = .ok (.istore_n 3, 1) := by decide +kernel
theorem dX2_make_22 : decode cX2_make 22 = .ok (.iconst 0, 1) := by decide +kernel
theorem dX2_make_23 : decode cX2_make 23 = .ok (.istore 4, 2) := by decide +kernel
theorem dX2_make_25 : decode cX2_make 25 = .ok (.iload 4, 2) := by decide +kernel
theorem dX2_make_27 : decode cX2_make 27 = .ok (.sipush 200, 3) := by decide +kernel
theorem dX2_make_30 : decode cX2_make 30 = .ok (.if_icmp .gt 125, 3) := by decide +kernel
theorem dX2_make_33 : decode cX2_make 33 = .ok (.iload_n 1, 1) := by decide +kernel
theorem dX2_make_34 : decode cX2_make 34 = .ok (.bipush 12, 2) := by decide +kernel
theorem dX2_make_36 : decode cX2_make 36 = .ok (.imul, 1) := by decide +kernel
theorem dX2_make_37 : decode cX2_make 37 = .ok (.iload_n 3, 1) := by decide +kernel
theorem dX2_make_38 : decode cX2_make 38 = .ok (.iadd, 1) := by decide +kernel
theorem dX2_make_39 : decode cX2_make 39 = .ok (.istore 5, 2) := by decide +kernel
theorem dX2_make_41 : decode cX2_make 41 = .ok (.iload 4, 2) := by decide +kernel
theorem dX2_make_43 : decode cX2_make 43 = .ok (.iload_n 3, 1) := by decide +kernel
theorem dX2_make_44 : decode cX2_make 44 = .ok (.isub, 1) := by decide +kernel
theorem dX2_make_45 : decode cX2_make 45 = .ok (.istore 6, 2) := by decide +kernel
theorem dX2_make_47 : decode cX2_make 47 = .ok (.iload_n 3, 1) := by decide +kernel
theorem dX2_make_48 : decode cX2_make 48 = .ok (.iconst 1, 1) := by decide +kernel
theorem dX2_make_49 : decode cX2_make 49 = .ok (.iadd, 1) := by decide +kernel
theorem dX2_make_50 : decode cX2_make 50 = .ok (.aload_n 0, 1) := by decide +kernel
theorem dX2_make_51 : decode cX2_make 51 = .ok (.getfield 53, 3) := by decide +kernel
theorem dX2_make_54 : decode cX2_make 54 = .ok (.getfield 74, 3) := by decide +kernel
theorem dX2_make_57 : decode cX2_make 57 = .ok (.if_icmp .ne 7, 3) := by decide +kernel
theorem dX2_make_60 : decode cX2_make 60 = .ok (.iconst 0, 1) := by decide +kernel
theorem dX2_make_61 : decode cX2_make 61 = .ok (.goto 6, 3) := by decide +kernel
theorem dX2_make_64 : decode cX2_make 64 = .ok (.iload_n 3, 1) := by decide +kernel
theorem dX2_make_65 : decode cX2_make 65 = .ok (.iconst 1, 1) := by decide +kernel
theorem dX2_make_66 : decode cX2_make 66 = .ok (.iadd, 1) := by decide +kernel
theorem dX2_make_67 : decode cX2_make 67 = .ok (.istore_n 3, 1) := by decide +kernel
theorem dX2_make_68 : decode cX2_make 68 = .ok (.aload_n 0, 1) := by decide +kernel
theorem dX2_make_69 : decode cX2_make 69 = .ok (.getfield 9, 3) := by decide +kernel
theorem dX2_make_72 : decode cX2_make 72 = .ok (.iload 5, 2) := by decide +kernel
theorem dX2_make_74 : decode cX2_make 74 = .ok (.baload, 1) := by decide +kernel
theorem dX2_make_75 : decode cX2_make 75 = .ok (.ifCond .ne 6, 3) := by decide +kernel
theorem dX2_make_78 : decode cX2_make 78 = .ok (.goto 71, 3) := by decide +kernel
theorem dX2_make_81 : decode cX2_make 81 = .ok (.aload_n 0, 1) := by decide +kernel
theorem dX2_make_82 : decode cX2_make 82 = .ok (.getfield 15, 3) := by decide +kernel
theorem dX2_make_85 : decode cX2_make 85 = .ok (.iload 5, 2) := by decide +kernel
theorem dX2_make_87 : decode cX2_make 87 = .ok (.bipush 8, 2) := by decide +kernel
theorem dX2_make_89 : decode cX2_make 89 = .ok (.imul, 1) := by decide +kernel
theorem dX2_make_90 : decode cX2_make 90 = .ok (.iload_n 2, 1) := by decide +kernel
theorem dX2_make_91 : decode cX2_make 91 = .ok (.iadd, 1) := by decide +kernel
theorem dX2_make_92 : decode cX2_make 92 = .ok (.iaload, 1) := by decide +kernel
theorem dX2_make_93 : decode cX2_make 93 = .ok (.iload 6, 2) := by decide +kernel
theorem dX2_make_95 : decode cX2_make 95 = .ok (.iadd, 1) := by decide +kernel
theorem dX2_make_96 : decode cX2_make 96 = .ok (.istore 7, 2) := by decide +kernel
theorem dX2_make_98 : decode cX2_make 98 = .ok (.iload 7, 2) := by decide +kernel
theorem dX2_make_100 : decode cX2_make 100 = .ok (.sipush 399, 3) := by decide +kernel
theorem dX2_make_103 : decode cX2_make 103 = .ok (.if_icmp .gt 46, 3) := by decide +kernel
theorem dX2_make_106 : decode cX2_make 106 = .ok (.aload_n 0, 1) := by decide +kernel
theorem dX2_make_107 : decode cX2_make 107 = .ok (.iload_n 1, 1) := by decide +kernel
theorem dX2_make_108 : decode cX2_make 108 = .ok (.iload 5, 2) := by decide +kernel
theorem dX2_make_110 : decode cX2_make 110 = .ok (.iload 6, 2) := by decide +kernel
theorem dX2_make_112 : decode cX2_make 112 = .ok (.invokevirtual 106, 3) := by decide +kernel
theorem dX2_make_115 : decode cX2_make 115 = .ok (.ifCond .ne 6, 3) := by decide +kernel
theorem dX2_make_118 : decode cX2_make 118 = .ok (.goto 31, 3) := by decide +kernel
theorem dX2_make_121 : decode cX2_make 121 = .ok (.iload 7, 2) := by decide +kernel
theorem dX2_make_123 : decode cX2_make 123 = .ok (.aload_n 0, 1) := by decide +kernel
theorem dX2_make_124 : decode cX2_make 124 = .ok (.getfield 53, 3) := by decide +kernel
theorem dX2_make_127 : decode cX2_make 127 = .ok (.iload_n 1, 1) := by decide +kernel
theorem dX2_make_128 : decode cX2_make 128 = .ok (.iconst 1, 1) := by decide +kernel
theorem dX2_make_129 : decode cX2_make 129 = .ok (.invokevirtual 70, 3) := by decide +kernel
theorem dX2_make_132 : decode cX2_make 132 = .ok (.if_icmp .le 5, 3) := by decide +kernel
theorem dX2_make_135 : decode cX2_make 135 = .ok (.iconst (-1), 1) := by decide +kernel
theorem dX2_make_136 : decode cX2_make 136 = .ok (.ireturn, 1) := by decide +kernel
theorem dX2_make_137 : decode cX2_make 137 = .ok (.aload_n 0, 1) := by decide +kernel
theorem dX2_make_138 : decode cX2_make 138 = .ok (.iload_n 1, 1) := by decide +kernel
theorem dX2_make_139 : decode cX2_make 139 = .ok (.iload 5, 2) := by decide +kernel
theorem dX2_make_141 : decode cX2_make 141 = .ok (.iload 6, 2) := by decide +kernel
theorem dX2_make_143 : decode cX2_make 143 = .ok (.invokevirtual 109, 3) := by decide +kernel
theorem dX2_make_146 : decode cX2_make 146 = .ok (.iload 7, 2) := by decide +kernel
theorem dX2_make_148 : decode cX2_make 148 = .ok (.ireturn, 1) := by decide +kernel
theorem dX2_make_149 : decode cX2_make 149 = .ok (.iinc 4 1, 3) := by decide +kernel
theorem dX2_make_152 : decode cX2_make 152 = .ok (.goto (-127), 3) := by decide +kernel
theorem dX2_make_155 : decode cX2_make 155 = .ok (.iconst (-1), 1) := by decide +kernel
theorem dX2_make_156 : decode cX2_make 156 = .ok (.ireturn, 1) := by decide +kernel
theorem dX2_hasHours_0 : decode cX2_hasHours 0 = .ok (.aload_n 0, 1) := by decide +kernel
theorem dX2_hasHours_1 : decode cX2_hasHours 1 = .ok (.getfield 53, 3) := by decide +kernel
theorem dX2_hasHours_4 : decode cX2_hasHours 4 = .ok (.iload_n 1, 1) := by decide +kernel
theorem dX2_hasHours_5 : decode cX2_hasHours 5 = .ok (.iconst 0, 1) := by decide +kernel
theorem dX2_hasHours_6 : decode cX2_hasHours 6 = .ok (.invokevirtual 70, 3) := by decide +kernel
theorem dX2_hasHours_9 : decode cX2_hasHours 9 = .ok (.istore 4, 2) := by decide +kernel
theorem dX2_hasHours_11 : decode cX2_hasHours 11 = .ok (.iconst 0, 1) := by decide +kernel
theorem dX2_hasHours_12 : decode cX2_hasHours 12 = .ok (.istore 5, 2) := by decide +kernel
theorem dX2_hasHours_14 : decode cX2_hasHours 14 = .ok (.iload 5, 2) := by decide +kernel
theorem dX2_hasHours_16 : decode cX2_hasHours 16 = .ok (.aload_n 0, 1) := by decide +kernel
theorem dX2_hasHours_17 : decode cX2_hasHours 17 = .ok (.getfield 53, 3) := by decide +kernel
theorem dX2_hasHours_20 : decode cX2_hasHours 20 = .ok (.getfield 103, 3) := by decide +kernel
theorem dX2_hasHours_23 : decode cX2_hasHours 23 = .ok (.iload 4, 2) := by decide +kernel
theorem dX2_hasHours_25 : decode cX2_hasHours 25 = .ok (.iaload, 1) := by decide +kernel
theorem dX2_hasHours_26 : decode cX2_hasHours 26 = .ok (.if_icmp .ge 87, 3) := by decide +kernel
theorem dX2_hasHours_29 : decode cX2_hasHours 29 = .ok (.aload_n 0, 1) := by decide +kernel
theorem dX2_hasHours_30 : decode cX2_hasHours 30 = .ok (.iload 4, 2) := by decide +kernel
theorem dX2_hasHours_32 : decode cX2_hasHours 32 = .ok (.iload 5, 2) := by decide +kernel
theorem dX2_hasHours_34 : decode cX2_hasHours 34 = .ok (.iload_n 2, 1) := by decide +kernel
theorem dX2_hasHours_35 : decode cX2_hasHours 35 = .ok (.iload_n 3, 1) := by decide +kernel
theorem dX2_hasHours_36 : decode cX2_hasHours 36 = .ok (.invokevirtual 113, 3) := by decide +kernel
theorem dX2_hasHours_39 : decode cX2_hasHours 39 = .ok (.istore 6, 2) := by decide +kernel
theorem dX2_hasHours_41 : decode cX2_hasHours 41 = .ok (.aload_n 0, 1) := by decide +kernel
theorem dX2_hasHours_42 : decode cX2_hasHours 42 = .ok (.getfield 19, 3) := by decide +kernel
theorem dX2_hasHours_45 : decode cX2_hasHours 45 = .ok (.iload 6, 2) := by decide +kernel
theorem dX2_hasHours_47 : decode cX2_hasHours 47 = .ok (.iaload, 1) := by decide +kernel
theorem dX2_hasHours_48 : decode cX2_hasHours 48 = .ok (.istore 7, 2) := by decide +kernel
theorem dX2_hasHours_50 : decode cX2_hasHours 50 = .ok (.iconst 0, 1) := by decide +kernel
theorem dX2_hasHours_51 : decode cX2_hasHours 51 = .ok (.istore 8, 2) := by decide +kernel
theorem dX2_hasHours_53 : decode cX2_hasHours 53 = .ok (.iload 8, 2) := by decide +kernel
theorem dX2_hasHours_55 : decode cX2_hasHours 55 = .ok (.iload 5, 2) := by decide +kernel
theorem dX2_hasHours_57 : decode cX2_hasHours 57 = .ok (.if_icmp .gt 41, 3) := by decide +kernel
theorem dX2_hasHours_60 : decode cX2_hasHours 60 = .ok (.aload_n 0, 1) := by decide +kernel
theorem dX2_hasHours_61 : decode cX2_hasHours 61 = .ok (.iload 4, 2) := by decide +kernel
theorem dX2_hasHours_63 : decode cX2_hasHours 63 = .ok (.iload 8, 2) := by decide +kernel
theorem dX2_hasHours_65 : decode cX2_hasHours 65 = .ok (.iload_n 2, 1) := by decide +kernel
theorem dX2_hasHours_66 : decode cX2_hasHours 66 = .ok (.iload_n 3, 1) := by decide +kernel
theorem dX2_hasHours_67 : decode cX2_hasHours 67 = .ok (.invokevirtual 113, 3) := by decide +kernel
theorem dX2_hasHours_70 : decode cX2_hasHours 70 = .ok (.iload 6, 2) := by decide +kernel
theorem dX2_hasHours_72 : decode cX2_hasHours 72 = .ok (.if_icmp .ne 20, 3) := by decide +kernel
theorem dX2_hasHours_75 : decode cX2_hasHours 75 = .ok (.iload 7, 2) := by decide +kernel
theorem dX2_hasHours_77 : decode cX2_hasHours 77 = .ok (.aload_n 0, 1) := by decide +kernel
theorem dX2_hasHours_78 : decode cX2_hasHours 78 = .ok (.getfield 53, 3) := by decide +kernel
theorem dX2_hasHours_81 : decode cX2_hasHours 81 = .ok (.iload 4, 2) := by decide +kernel
theorem dX2_hasHours_83 : decode cX2_hasHours 83 = .ok (.iload 8, 2) := by decide +kernel
theorem dX2_hasHours_85 : decode cX2_hasHours 85 = .ok (.iconst 1, 1) := by decide +kernel
theorem dX2_hasHours_86 : decode cX2_hasHours 86 = .ok (.invokevirtual 117, 3) := by decide +kernel
theorem dX2_hasHours_89 : decode cX2_hasHours 89 = .ok (.iadd, 1) := by decide +kernel
theorem dX2_hasHours_90 : decode cX2_hasHours 90 = .ok (.istore 7, 2) := by decide +kernel
theorem dX2_hasHours_92 : decode cX2_hasHours 92 = .ok (.iinc 8 1, 3) := by decide +kernel
theorem dX2_hasHours_95 : decode cX2_hasHours 95 = .ok (.goto (-42), 3) := by decide +kernel
theorem dX2_hasHours_98 : decode cX2_hasHours 98 = .ok (.iload 7, 2) := by decide +kernel
theorem dX2_hasHours_100 : decode cX2_hasHours 100 = .ok (.bipush 8, 2) := by decide +kernel
theorem dX2_hasHours_102 : decode cX2_hasHours 102 = .ok (.if_icmp .le 5, 3) := by decide +kernel
theorem dX2_hasHours_105 : decode cX2_hasHours 105 = .ok (.iconst 0, 1) := by decide +kernel
theorem dX2_hasHours_106 : decode cX2_hasHours 106 = .ok (.ireturn, 1) := by decide +kernel
theorem dX2_hasHours_107 : decode cX2_hasHours 107 = .ok (.iinc 5 1, 3) := by decide +kernel
theorem dX2_hasHours_110 : decode cX2_hasHours 110 = .ok (.goto (-96), 3) := by decide +kernel
theorem dX2_hasHours_113 : decode cX2_hasHours 113 = .ok (.iconst 1, 1) := by decide +kernel
theorem dX2_hasHours_114 : decode cX2_hasHours 114 = .ok (.ireturn, 1) := by decide +kernel
theorem dX2_takeHours_0 : decode cX2_takeHours 0 = .ok (.aload_n 0, 1) := by decide +kernel
theorem dX2_takeHours_1 : decode cX2_takeHours 1 = .ok (.getfield 53, 3) := by decide +kernel
theorem dX2_takeHours_4 : decode cX2_takeHours 4 = .ok (.iload_n 1, 1) := by decide +kernel
theorem dX2_takeHours_5 : decode cX2_takeHours 5 = .ok (.iconst 0, 1) := by decide +kernel
theorem dX2_takeHours_6 : decode cX2_takeHours 6 = .ok (.invokevirtual 70, 3) := by decide +kernel
theorem dX2_takeHours_9 : decode cX2_takeHours 9 = .ok (.istore 4, 2) := by decide +kernel
theorem dX2_takeHours_11 : decode cX2_takeHours 11 = .ok (.iconst 0, 1) := by decide +kernel
theorem dX2_takeHours_12 : decode cX2_takeHours 12 = .ok (.istore 5, 2) := by decide +kernel
theorem dX2_takeHours_14 : decode cX2_takeHours 14 = .ok (.iload 5, 2) := by decide +kernel
theorem dX2_takeHours_16 : decode cX2_takeHours 16 = .ok (.aload_n 0, 1) := by decide +kernel
theorem dX2_takeHours_17 : decode cX2_takeHours 17 = .ok (.getfield 53, 3) := by decide +kernel
theorem dX2_takeHours_20 : decode cX2_takeHours 20 = .ok (.getfield 103, 3) := by decide +kernel
theorem dX2_takeHours_23 : decode cX2_takeHours 23 = .ok (.iload 4, 2) := by decide +kernel
theorem dX2_takeHours_25 : decode cX2_takeHours 25 = .ok (.iaload, 1) := by decide +kernel
theorem dX2_takeHours_26 : decode cX2_takeHours 26 = .ok (.if_icmp .ge 90, 3) := by decide +kernel
theorem dX2_takeHours_29 : decode cX2_takeHours 29 = .ok (.aload_n 0, 1) := by decide +kernel
theorem dX2_takeHours_30 : decode cX2_takeHours 30 = .ok (.iload 4, 2) := by decide +kernel
theorem dX2_takeHours_32 : decode cX2_takeHours 32 = .ok (.iload 5, 2) := by decide +kernel
theorem dX2_takeHours_34 : decode cX2_takeHours 34 = .ok (.iload_n 2, 1) := by decide +kernel
theorem dX2_takeHours_35 : decode cX2_takeHours 35 = .ok (.iload_n 3, 1) := by decide +kernel
theorem dX2_takeHours_36 : decode cX2_takeHours 36 = .ok (.invokevirtual 113, 3) := by decide +kernel
theorem dX2_takeHours_39 : decode cX2_takeHours 39 = .ok (.istore 6, 2) := by decide +kernel
theorem dX2_takeHours_41 : decode cX2_takeHours 41 = .ok (.aload_n 0, 1) := by decide +kernel
theorem dX2_takeHours_42 : decode cX2_takeHours 42 = .ok (.getfield 53, 3) := by decide +kernel
theorem dX2_takeHours_45 : decode cX2_takeHours 45 = .ok (.iload 4, 2) := by decide +kernel
theorem dX2_takeHours_47 : decode cX2_takeHours 47 = .ok (.iload 5, 2) := by decide +kernel
theorem dX2_takeHours_49 : decode cX2_takeHours 49 = .ok (.iconst 1, 1) := by decide +kernel
theorem dX2_takeHours_50 : decode cX2_takeHours 50 = .ok (.invokevirtual 117, 3) := by decide +kernel
theorem dX2_takeHours_53 : decode cX2_takeHours 53 = .ok (.istore 7, 2) := by decide +kernel
theorem dX2_takeHours_55 : decode cX2_takeHours 55 = .ok (.aload_n 0, 1) := by decide +kernel
theorem dX2_takeHours_56 : decode cX2_takeHours 56 = .ok (.getfield 19, 3) := by decide +kernel
theorem dX2_takeHours_59 : decode cX2_takeHours 59 = .ok (.iload 6, 2) := by decide +kernel
theorem dX2_takeHours_61 : decode cX2_takeHours 61 = .ok (.dup2, 1) := by decide +kernel
theorem dX2_takeHours_62 : decode cX2_takeHours 62 = .ok (.iaload, 1) := by decide +kernel
theorem dX2_takeHours_63 : decode cX2_takeHours 63 = .ok (.iload 7, 2) := by decide +kernel
theorem dX2_takeHours_65 : decode cX2_takeHours 65 = .ok (.iadd, 1) := by decide +kernel
theorem dX2_takeHours_66 : decode cX2_takeHours 66 = .ok (.iastore, 1) := by decide +kernel
theorem dX2_takeHours_67 : decode cX2_takeHours 67 = .ok (.aload_n 0, 1) := by decide +kernel
theorem dX2_takeHours_68 : decode cX2_takeHours 68 = .ok (.getfield 32, 3) := by decide +kernel
theorem dX2_takeHours_71 : decode cX2_takeHours 71 = .ok (.aload_n 0, 1) := by decide +kernel
theorem dX2_takeHours_72 : decode cX2_takeHours 72 = .ok (.getfield 53, 3) := by decide +kernel
theorem dX2_takeHours_75 : decode cX2_takeHours 75 = .ok (.iload 4, 2) := by decide +kernel
theorem dX2_takeHours_77 : decode cX2_takeHours 77 = .ok (.iload 5, 2) := by decide +kernel
theorem dX2_takeHours_79 : decode cX2_takeHours 79 = .ok (.iconst 0, 1) := by decide +kernel
theorem dX2_takeHours_80 : decode cX2_takeHours 80 = .ok (.invokevirtual 117, 3) := by decide +kernel
theorem dX2_takeHours_83 : decode cX2_takeHours 83 = .ok (.dup2, 1) := by decide +kernel
theorem dX2_takeHours_84 : decode cX2_takeHours 84 = .ok (.iaload, 1) := by decide +kernel
theorem dX2_takeHours_85 : decode cX2_takeHours 85 = .ok (.iload 7, 2) := by decide +kernel
theorem dX2_takeHours_87 : decode cX2_takeHours 87 = .ok (.iadd, 1) := by decide +kernel
theorem dX2_takeHours_88 : decode cX2_takeHours 88 = .ok (.iastore, 1) := by decide +kernel
theorem dX2_takeHours_89 : decode cX2_takeHours 89 = .ok (.aload_n 0, 1) := by decide +kernel
theorem dX2_takeHours_90 : decode cX2_takeHours 90 = .ok (.getfield 22, 3) := by decide +kernel
theorem dX2_takeHours_93 : decode cX2_takeHours 93 = .ok (.aload_n 0, 1) := by decide +kernel
theorem dX2_takeHours_94 : decode cX2_takeHours 94 = .ok (.getfield 25, 3) := by decide +kernel
theorem dX2_takeHours_97 : decode cX2_takeHours 97 = .ok (.iload 6, 2) := by decide +kernel
theorem dX2_takeHours_99 : decode cX2_takeHours 99 = .ok (.iastore, 1) := by decide +kernel
theorem dX2_takeHours_100 : decode cX2_takeHours 100 = .ok (.aload_n 0, 1) := by decide +kernel
theorem dX2_takeHours_101 : decode cX2_takeHours 101 = .ok (.dup, 1) := by decide +kernel
theorem dX2_takeHours_102 : decode cX2_takeHours 102 = .ok (.getfield 25, 3) := by decide +kernel
theorem dX2_takeHours_105 : decode cX2_takeHours 105 = .ok (.iconst 1, 1) := by decide +kernel
theorem dX2_takeHours_106 : decode cX2_takeHours 106 = .ok (.iadd, 1) := by decide +kernel
theorem dX2_takeHours_107 : decode cX2_takeHours 107 = .ok (.putfield 25, 3) := by decide +kernel
theorem dX2_takeHours_110 : decode cX2_takeHours 110 = .ok (.iinc 5 1, 3) := by decide +kernel
theorem dX2_takeHours_113 : decode cX2_takeHours 113 = .ok (.goto (-99), 3) := by decide +kernel
theorem dX2_takeHours_116 : decode cX2_takeHours 116 = .ok (.return_, 1) := by decide +kernel
theorem dX2_placeOf_0 : decode cX2_placeOf 0 = .ok (.aload_n 0, 1) := by decide +kernel
theorem dX2_placeOf_1 : decode cX2_placeOf 1 = .ok (.getfield 53, 3) := by decide +kernel
theorem dX2_placeOf_4 : decode cX2_placeOf 4 = .ok (.iload_n 1, 1) := by decide +kernel
theorem dX2_placeOf_5 : decode cX2_placeOf 5 = .ok (.iload_n 2, 1) := by decide +kernel
theorem dX2_placeOf_6 : decode cX2_placeOf 6 = .ok (.iconst 0, 1) := by decide +kernel
theorem dX2_placeOf_7 : decode cX2_placeOf 7 = .ok (.invokevirtual 117, 3) := by decide +kernel
theorem dX2_placeOf_10 : decode cX2_placeOf 10 = .ok (.sipush 400, 3) := by decide +kernel
theorem dX2_placeOf_13 : decode cX2_placeOf 13 = .ok (.imul, 1) := by decide +kernel
theorem dX2_placeOf_14 : decode cX2_placeOf 14 = .ok (.aload_n 0, 1) := by decide +kernel
theorem dX2_placeOf_15 : decode cX2_placeOf 15 = .ok (.getfield 15, 3) := by decide +kernel
theorem dX2_placeOf_18 : decode cX2_placeOf 18 = .ok (.iload_n 3, 1) := by decide +kernel
theorem dX2_placeOf_19 : decode cX2_placeOf 19 = .ok (.bipush 8, 2) := by decide +kernel
theorem dX2_placeOf_21 : decode cX2_placeOf 21 = .ok (.imul, 1) := by decide +kernel
theorem dX2_placeOf_22 : decode cX2_placeOf 22 = .ok (.iload_n 2, 1) := by decide +kernel
theorem dX2_placeOf_23 : decode cX2_placeOf 23 = .ok (.iadd, 1) := by decide +kernel
theorem dX2_placeOf_24 : decode cX2_placeOf 24 = .ok (.iaload, 1) := by decide +kernel
theorem dX2_placeOf_25 : decode cX2_placeOf 25 = .ok (.iadd, 1) := by decide +kernel
theorem dX2_placeOf_26 : decode cX2_placeOf 26 = .ok (.iload 4, 2) := by decide +kernel
theorem dX2_placeOf_28 : decode cX2_placeOf 28 = .ok (.iadd, 1) := by decide +kernel
theorem dX2_placeOf_29 : decode cX2_placeOf 29 = .ok (.ireturn, 1) := by decide +kernel
theorem dX2_findBest_0 : decode cX2_findBest 0 = .ok (.iconst 0, 1) := by decide +kernel
theorem dX2_findBest_1 : decode cX2_findBest 1 = .ok (.istore_n 1, 1) := by decide +kernel
theorem dX2_findBest_2 : decode cX2_findBest 2 = .ok (.iload_n 1, 1) := by decide +kernel
theorem dX2_findBest_3 : decode cX2_findBest 3 = .ok (.aload_n 0, 1) := by decide +kernel
theorem dX2_findBest_4 : decode cX2_findBest 4 = .ok (.getfield 53, 3) := by decide +kernel
theorem dX2_findBest_7 : decode cX2_findBest 7 = .ok (.getfield 65, 3) := by decide +kernel
theorem dX2_findBest_10 : decode cX2_findBest 10 = .ok (.if_icmp .ge 16, 3) := by decide +kernel
theorem dX2_findBest_13 : decode cX2_findBest 13 = .ok (.aload_n 0, 1) := by decide +kernel
theorem dX2_findBest_14 : decode cX2_findBest 14 = .ok (.getfield 29, 3) := by decide +kernel
theorem dX2_findBest_17 : decode cX2_findBest 17 = .ok (.iload_n 1, 1) := by decide +kernel
theorem dX2_findBest_18 : decode cX2_findBest 18 = .ok (.iload_n 1, 1) := by decide +kernel
theorem dX2_findBest_19 : decode cX2_findBest 19 = .ok (.iastore, 1) := by decide +kernel
theorem dX2_findBest_20 : decode cX2_findBest 20 = .ok (.iinc 1 1, 3) := by decide +kernel
theorem dX2_findBest_23 : decode cX2_findBest 23 = .ok (.goto (-21), 3) := by decide +kernel
theorem dX2_findBest_26 : decode cX2_findBest 26 = .ok (.aload_n 0, 1) := by decide +kernel
theorem dX2_findBest_27 : decode cX2_findBest 27 = .ok (.iconst (-1), 1) := by decide +kernel
theorem dX2_findBest_28 : decode cX2_findBest 28 = .ok (.putfield 44, 3) := by decide +kernel
theorem dX2_findBest_31 : decode cX2_findBest 31 = .ok (.aload_n 0, 1) := by decide +kernel
theorem dX2_findBest_32 : decode cX2_findBest 32 = .ok (.invokevirtual 121, 3) := by decide +kernel
theorem dX2_findBest_35 : decode cX2_findBest 35 = .ok (.istore_n 1, 1) := by decide +kernel
theorem dX2_findBest_36 : decode cX2_findBest 36 = .ok (.iconst 0, 1) := by decide +kernel
theorem dX2_findBest_37 : decode cX2_findBest 37 = .ok (.istore_n 2, 1) := by decide +kernel
theorem dX2_findBest_38 : decode cX2_findBest 38 = .ok (.iload_n 2, 1) := by decide +kernel
theorem dX2_findBest_39 : decode cX2_findBest 39 = .ok (.bipush 120, 2) := by decide +kernel
theorem dX2_findBest_41 : decode cX2_findBest 41 = .ok (.if_icmp .ge 73, 3) := by decide +kernel
theorem dX2_findBest_44 : decode cX2_findBest 44 = .ok (.aload_n 0, 1) := by decide +kernel
theorem dX2_findBest_45 : decode cX2_findBest 45 = .ok (.aload_n 0, 1) := by decide +kernel
theorem dX2_findBest_46 : decode cX2_findBest 46 = .ok (.getfield 53, 3) := by decide +kernel
theorem dX2_findBest_49 : decode cX2_findBest 49 = .ok (.getfield 65, 3) := by decide +kernel
theorem dX2_findBest_52 : decode cX2_findBest 52 = .ok (.invokevirtual 125, 3) := by decide +kernel
theorem dX2_findBest_55 : decode cX2_findBest 55 = .ok (.aload_n 0, 1) := by decide +kernel
theorem dX2_findBest_56 : decode cX2_findBest 56 = .ok (.getfield 35, 3) := by decide +kernel
theorem dX2_findBest_59 : decode cX2_findBest 59 = .ok (.aload_n 0, 1) := by decide +kernel
theorem dX2_findBest_60 : decode cX2_findBest 60 = .ok (.getfield 44, 3) := by decide +kernel
theorem dX2_findBest_63 : decode cX2_findBest 63 = .ok (.if_icmp .le 27, 3) := by decide +kernel
theorem dX2_findBest_66 : decode cX2_findBest 66 = .ok (.aload_n 0, 1) := by decide +kernel
theorem dX2_findBest_67 : decode cX2_findBest 67 = .ok (.aload_n 0, 1) := by decide +kernel
theorem dX2_findBest_68 : decode cX2_findBest 68 = .ok (.getfield 35, 3) := by decide +kernel
theorem dX2_findBest_71 : decode cX2_findBest 71 = .ok (.putfield 44, 3) := by decide +kernel
theorem dX2_findBest_74 : decode cX2_findBest 74 = .ok (.aload_n 0, 1) := by decide +kernel
theorem dX2_findBest_75 : decode cX2_findBest 75 = .ok (.aload_n 0, 1) := by decide +kernel
theorem dX2_findBest_76 : decode cX2_findBest 76 = .ok (.getfield 38, 3) := by decide +kernel
theorem dX2_findBest_79 : decode cX2_findBest 79 = .ok (.putfield 47, 3) := by decide +kernel
theorem dX2_findBest_82 : decode cX2_findBest 82 = .ok (.aload_n 0, 1) := by decide +kernel
theorem dX2_findBest_83 : decode cX2_findBest 83 = .ok (.aload_n 0, 1) := by decide +kernel
theorem dX2_findBest_84 : decode cX2_findBest 84 = .ok (.invokevirtual 129, 3) := by decide +kernel
theorem dX2_findBest_87 : decode cX2_findBest 87 = .ok (.putfield 50, 3) := by decide +kernel
theorem dX2_findBest_90 : decode cX2_findBest 90 = .ok (.aload_n 0, 1) := by decide +kernel
theorem dX2_findBest_91 : decode cX2_findBest 91 = .ok (.getfield 44, 3) := by decide +kernel
theorem dX2_findBest_94 : decode cX2_findBest 94 = .ok (.iload_n 1, 1) := by decide +kernel
theorem dX2_findBest_95 : decode cX2_findBest 95 = .ok (.if_icmp .eq 19, 3) := by decide +kernel
theorem dX2_findBest_98 : decode cX2_findBest 98 = .ok (.aload_n 0, 1) := by decide +kernel
theorem dX2_findBest_99 : decode cX2_findBest 99 = .ok (.invokevirtual 132, 3) := by decide +kernel
theorem dX2_findBest_102 : decode cX2_findBest 102 = .ok (.ifCond .ne 6, 3) := by decide +kernel
theorem dX2_findBest_105 : decode cX2_findBest 105 = .ok (.goto 9, 3) := by decide +kernel
theorem dX2_findBest_108 : decode cX2_findBest 108 = .ok (.iinc 2 1, 3) := by decide +kernel
theorem dX2_findBest_111 : decode cX2_findBest 111 = .ok (.goto (-73), 3) := by decide +kernel
theorem dX2_findBest_114 : decode cX2_findBest 114 = .ok (.return_, 1) := by decide +kernel
theorem dX2_allWorths_0 : decode cX2_allWorths 0 = .ok (.iconst 0, 1) := by decide +kernel
theorem dX2_allWorths_1 : decode cX2_allWorths 1 = .ok (.istore_n 1, 1) := by decide +kernel
theorem dX2_allWorths_2 : decode cX2_allWorths 2 = .ok (.iconst 0, 1) := by decide +kernel
theorem dX2_allWorths_3 : decode cX2_allWorths 3 = .ok (.istore_n 2, 1) := by decide +kernel
theorem dX2_allWorths_4 : decode cX2_allWorths 4 = .ok (.iload_n 2, 1) := by decide +kernel
theorem dX2_allWorths_5 : decode cX2_allWorths 5 = .ok (.aload_n 0, 1) := by decide +kernel
theorem dX2_allWorths_6 : decode cX2_allWorths 6 = .ok (.getfield 53, 3) := by decide +kernel
theorem dX2_allWorths_9 : decode cX2_allWorths 9 = .ok (.getfield 65, 3) := by decide +kernel
theorem dX2_allWorths_12 : decode cX2_allWorths 12 = .ok (.if_icmp .ge 21, 3) := by decide +kernel
theorem dX2_allWorths_15 : decode cX2_allWorths 15 = .ok (.iload_n 1, 1) := by decide +kernel
theorem dX2_allWorths_16 : decode cX2_allWorths 16 = .ok (.aload_n 0, 1) := by decide +kernel
theorem dX2_allWorths_17 : decode cX2_allWorths 17 = .ok (.getfield 53, 3) := by decide +kernel
theorem dX2_allWorths_20 : decode cX2_allWorths 20 = .ok (.iload_n 2, 1) := by decide +kernel
theorem dX2_allWorths_21 : decode cX2_allWorths 21 = .ok (.iconst 2, 1) := by decide +kernel
theorem dX2_allWorths_22 : decode cX2_allWorths 22 = .ok (.invokevirtual 70, 3) := by decide +kernel
theorem dX2_allWorths_25 : decode cX2_allWorths 25 = .ok (.iadd, 1) := by decide +kernel
theorem dX2_allWorths_26 : decode cX2_allWorths 26 = .ok (.istore_n 1, 1) := by decide +kernel
theorem dX2_allWorths_27 : decode cX2_allWorths 27 = .ok (.iinc 2 1, 3) := by decide +kernel
theorem dX2_allWorths_30 : decode cX2_allWorths 30 = .ok (.goto (-26), 3) := by decide +kernel
theorem dX2_allWorths_33 : decode cX2_allWorths 33 = .ok (.iload_n 1, 1) := by decide +kernel
theorem dX2_allWorths_34 : decode cX2_allWorths 34 = .ok (.ireturn, 1) := by decide +kernel
theorem dX2_sequenceDigits_0 : decode cX2_sequenceDigits 0 = .ok (.iconst 0, 1) := by decide +kernel
theorem dX2_sequenceDigits_1 : decode cX2_sequenceDigits 1 = .ok (.istore_n 1, 1) := by decide +kernel
theorem dX2_sequenceDigits_2 : decode cX2_sequenceDigits 2 = .ok (.iconst 0, 1) := by decide +kernel
theorem dX2_sequenceDigits_3 : decode cX2_sequenceDigits 3 = .ok (.istore_n 2, 1) := by decide +kernel
theorem dX2_sequenceDigits_4 : decode cX2_sequenceDigits 4 = .ok (.iload_n 2, 1) := by decide +kernel
theorem dX2_sequenceDigits_5 : decode cX2_sequenceDigits 5 = .ok (.aload_n 0, 1) := by decide +kernel
theorem dX2_sequenceDigits_6 : decode cX2_sequenceDigits 6 = .ok (.getfield 53, 3) := by decide +kernel
theorem dX2_sequenceDigits_9 : decode cX2_sequenceDigits 9 = .ok (.getfield 65, 3) := by decide +kernel
theorem dX2_sequenceDigits_12 : decode cX2_sequenceDigits 12 = .ok (.if_icmp .ge 21, 3) := by decide +kernel
theorem dX2_sequenceDigits_15 : decode cX2_sequenceDigits 15 = .ok (.iload_n 1, 1) := by decide +kernel
theorem dX2_sequenceDigits_16 : decode cX2_sequenceDigits 16 = .ok (.bipush 10, 2) := by decide +kernel
theorem dX2_sequenceDigits_18 : decode cX2_sequenceDigits 18 = .ok (.imul, 1) := by decide +kernel
theorem dX2_sequenceDigits_19 : decode cX2_sequenceDigits 19 = .ok (.aload_n 0, 1) := by decide +kernel
theorem dX2_sequenceDigits_20 : decode cX2_sequenceDigits 20 = .ok (.getfield 29, 3) := by decide +kernel
theorem dX2_sequenceDigits_23 : decode cX2_sequenceDigits 23 = .ok (.iload_n 2, 1) := by decide +kernel
theorem dX2_sequenceDigits_24 : decode cX2_sequenceDigits 24 = .ok (.iaload, 1) := by decide +kernel
theorem dX2_sequenceDigits_25 : decode cX2_sequenceDigits 25 = .ok (.iadd, 1) := by decide +kernel
theorem dX2_sequenceDigits_26 : decode cX2_sequenceDigits 26 = .ok (.istore_n 1, 1) := by decide +kernel
theorem dX2_sequenceDigits_27 : decode cX2_sequenceDigits 27 = .ok (.iinc 2 1, 3) := by decide +kernel
theorem dX2_sequenceDigits_30 : decode cX2_sequenceDigits 30 = .ok (.goto (-26), 3) := by decide +kernel
theorem dX2_sequenceDigits_33 : decode cX2_sequenceDigits 33 = .ok (.iload_n 1, 1) := by decide +kernel
theorem dX2_sequenceDigits_34 : decode cX2_sequenceDigits 34 = .ok (.ireturn, 1) := by decide +kernel
theorem dX2_goToNextSequence_0 : decode cX2_goToNextSequence 0 = .ok (.aload_n 0, 1) := by decide +kernel
theorem dX2_goToNextSequence_1 : decode cX2_goToNextSequence 1 = .ok (.getfield 53, 3) := by decide +kernel
theorem dX2_goToNextSequence_4 : decode cX2_goToNextSequence 4 = .ok (.getfield 65, 3) := by decide +kernel
theorem dX2_goToNextSequence_7 : decode cX2_goToNextSequence 7 = .ok (.iconst 2, 1) := by decide +kernel
theorem dX2_goToNextSequence_8 : decode cX2_goToNextSequence 8 = .ok (.isub, 1) := by decide +kernel
theorem dX2_goToNextSequence_9 : decode cX2_goToNextSequence 9 = .ok (.istore_n 1, 1) := by decide +kernel
theorem dX2_goToNextSequence_10 : decode cX2_goToNextSequence 10 = .ok (.iload_n 1, 1) := by decide +kernel
theorem dX2_goToNextSequence_11 : decode cX2_goToNextSequence 11 = .ok (.ifCond .lt 26, 3) := by decide +kernel
theorem dX2_goToNextSequence_14 : decode cX2_goToNextSequence 14 = .ok (.aload_n 0, 1) := by decide +kernel
theorem dX2_goToNextSequence_15 : decode cX2_goToNextSequence 15 = .ok (.getfield 29, 3) := by decide +kernel
theorem dX2_goToNextSequence_18 : decode cX2_goToNextSequence 18 = .ok (.iload_n 1, 1) := by decide +kernel
theorem dX2_goToNextSequence_19 : decode cX2_goToNextSequence 19 = .ok (.iaload, 1) := by decide +kernel
theorem dX2_goToNextSequence_20 : decode cX2_goToNextSequence 20 = .ok (.aload_n 0, 1) := by decide +kernel
theorem dX2_goToNextSequence_21 : decode cX2_goToNextSequence 21 = .ok (.getfield 29, 3) := by decide +kernel
theorem dX2_goToNextSequence_24 : decode cX2_goToNextSequence 24 = .ok (.iload_n 1, 1) := by decide +kernel
theorem dX2_goToNextSequence_25 : decode cX2_goToNextSequence 25 = .ok (.iconst 1, 1) := by decide +kernel
theorem dX2_goToNextSequence_26 : decode cX2_goToNextSequence 26 = .ok (.iadd, 1) := by decide +kernel
theorem dX2_goToNextSequence_27 : decode cX2_goToNextSequence 27 = .ok (.iaload, 1) := by decide +kernel
theorem dX2_goToNextSequence_28 : decode cX2_goToNextSequence 28 = .ok (.if_icmp .le 9, 3) := by decide +kernel
theorem dX2_goToNextSequence_31 : decode cX2_goToNextSequence 31 = .ok (.iinc 1 (-1), 3) := by decide +kernel
theorem dX2_goToNextSequence_34 : decode cX2_goToNextSequence 34 = .ok (.goto (-24), 3) := by decide +kernel
theorem dX2_goToNextSequence_37 : decode cX2_goToNextSequence 37 = .ok (.iload_n 1, 1) := by decide +kernel
theorem dX2_goToNextSequence_38 : decode cX2_goToNextSequence 38 = .ok (.ifCond .ge 5, 3) := by decide +kernel
theorem dX2_goToNextSequence_41 : decode cX2_goToNextSequence 41 = .ok (.iconst 0, 1) := by decide +kernel
theorem dX2_goToNextSequence_42 : decode cX2_goToNextSequence 42 = .ok (.ireturn, 1) := by decide +kernel
theorem dX2_goToNextSequence_43 : decode cX2_goToNextSequence 43 = .ok (.aload_n 0, 1) := by decide +kernel
theorem dX2_goToNextSequence_44 : decode cX2_goToNextSequence 44 = .ok (.getfield 53, 3) := by decide +kernel
theorem dX2_goToNextSequence_47 : decode cX2_goToNextSequence 47 = .ok (.getfield 65, 3) := by decide +kernel
theorem dX2_goToNextSequence_50 : decode cX2_goToNextSequence 50 = .ok (.iconst 1, 1) := by decide +kernel
theorem dX2_goToNextSequence_51 : decode cX2_goToNextSequence 51 = .ok (.isub, 1) := by decide +kernel
theorem dX2_goToNextSequence_52 : decode cX2_goToNextSequence 52 = .ok (.istore_n 2, 1) := by decide +kernel
theorem dX2_goToNextSequence_53 : decode cX2_goToNextSequence 53 = .ok (.iload_n 2, 1) := by decide +kernel
theorem dX2_goToNextSequence_54 : decode cX2_goToNextSequence 54 = .ok (.iload_n 1, 1) := by decide +kernel
theorem dX2_goToNextSequence_55 : decode cX2_goToNextSequence 55 = .ok (.if_icmp .le 24, 3) := by decide +kernel
theorem dX2_goToNextSequence_58 : decode cX2_goToNextSequence 58 = .ok (.aload_n 0, 1) := by decide +kernel
theorem dX2_goToNextSequence_59 : decode cX2_goToNextSequence 59 = .ok (.getfield 29, 3) := by decide +kernel
theorem dX2_goToNextSequence_62 : decode cX2_goToNextSequence 62 = .ok (.iload_n 2, 1) := by decide +kernel
theorem dX2_goToNextSequence_63 : decode cX2_goToNextSequence 63 = .ok (.iaload, 1) := by decide +kernel
theorem dX2_goToNextSequence_64 : decode cX2_goToNextSequence 64 = .ok (.aload_n 0, 1) := by decide +kernel
theorem dX2_goToNextSequence_65 : decode cX2_goToNextSequence 65 = .ok (.getfield 29, 3) := by decide +kernel
theorem dX2_goToNextSequence_68 : decode cX2_goToNextSequence 68 = .ok (.iload_n 1, 1) := by decide +kernel
theorem dX2_goToNextSequence_69 : decode cX2_goToNextSequence 69 = .ok (.iaload, 1) := by decide +kernel
theorem dX2_goToNextSequence_70 : decode cX2_goToNextSequence 70 = .ok (.if_icmp .ge 9, 3) := by decide +kernel
theorem dX2_goToNextSequence_73 : decode cX2_goToNextSequence 73 = .ok (.iinc 2 (-1), 3) := by decide +kernel
theorem dX2_goToNextSequence_76 : decode cX2_goToNextSequence 76 = .ok (.goto (-23), 3) := by decide +kernel
theorem dX2_goToNextSequence_79 : decode cX2_goToNextSequence 79 = .ok (.aload_n 0, 1) := by decide +kernel
theorem dX2_goToNextSequence_80 : decode cX2_goToNextSequence 80 = .ok (.iload_n 1, 1) := by decide +kernel
theorem dX2_goToNextSequence_81 : decode cX2_goToNextSequence 81 = .ok (.iload_n 2, 1) := by decide +kernel
theorem dX2_goToNextSequence_82 : decode cX2_goToNextSequence 82 = .ok (.invokevirtual 136, 3) := by decide +kernel
theorem dX2_goToNextSequence_85 : decode cX2_goToNextSequence 85 = .ok (.iload_n 1, 1) := by decide +kernel
theorem dX2_goToNextSequence_86 : decode cX2_goToNextSequence 86 = .ok (.iconst 1, 1) := by decide +kernel
theorem dX2_goToNextSequence_87 : decode cX2_goToNextSequence 87 = .ok (.iadd, 1) := by decide +kernel
theorem dX2_goToNextSequence_88 : decode cX2_goToNextSequence 88 = .ok (.istore_n 3, 1) := by decide +kernel
theorem dX2_goToNextSequence_89 : decode cX2_goToNextSequence 89 = .ok (.aload_n 0, 1) := by decide +kernel
theorem dX2_goToNextSequence_90 : decode cX2_goToNextSequence 90 = .ok (.getfield 53, 3) := by decide +kernel
theorem dX2_goToNextSequence_93 : decode cX2_goToNextSequence 93 = .ok (.getfield 65, 3) := by decide +kernel
theorem dX2_goToNextSequence_96 : decode cX2_goToNextSequence 96 = .ok (.iconst 1, 1) := by decide +kernel
theorem dX2_goToNextSequence_97 : decode cX2_goToNextSequence 97 = .ok (.isub, 1) := by decide +kernel
theorem dX2_goToNextSequence_98 : decode cX2_goToNextSequence 98 = .ok (.istore 4, 2) := by decide +kernel
theorem dX2_goToNextSequence_100 : decode cX2_goToNextSequence 100 = .ok (.iload_n 3, 1) := by decide +kernel
theorem dX2_goToNextSequence_101 : decode cX2_goToNextSequence 101 = .ok (.iload 4, 2) := by decide +kernel
theorem dX2_goToNextSequence_103 : decode cX2_goToNextSequence 103 = .ok (.if_icmp .ge 19, 3) := by decide +kernel
theorem dX2_goToNextSequence_106 : decode cX2_goToNextSequence 106 = .ok (.aload_n 0, 1) := by decide +kernel
theorem dX2_goToNextSequence_107 : decode cX2_goToNextSequence 107 = .ok (.iload_n 3, 1) := by decide +kernel
theorem dX2_goToNextSequence_108 : decode cX2_goToNextSequence 108 = .ok (.iload 4, 2) := by decide +kernel
theorem dX2_goToNextSequence_110 : decode cX2_goToNextSequence 110 = .ok (.invokevirtual 136, 3) := by decide +kernel
theorem dX2_goToNextSequence_113 : decode cX2_goToNextSequence 113 = .ok (.iinc 3 1, 3) := by decide +kernel
theorem dX2_goToNextSequence_116 : decode cX2_goToNextSequence 116 = .ok (.iinc 4 (-1), 3) := by decide +kernel
theorem dX2_goToNextSequence_119 : decode cX2_goToNextSequence 119 = .ok (.goto (-19), 3) := by decide +kernel
theorem dX2_goToNextSequence_122 : decode cX2_goToNextSequence 122 = .ok (.iconst 1, 1) := by decide +kernel
theorem dX2_goToNextSequence_123 : decode cX2_goToNextSequence 123 = .ok (.ireturn, 1) := by decide +kernel
theorem dX2_swap_0 : decode cX2_swap 0 = .ok (.aload_n 0, 1) := by decide +kernel
theorem dX2_swap_1 : decode cX2_swap 1 = .ok (.getfield 29, 3) := by decide +kernel
theorem dX2_swap_4 : decode cX2_swap 4 = .ok (.iload_n 1, 1) := by decide +kernel
theorem dX2_swap_5 : decode cX2_swap 5 = .ok (.iaload, 1) := by decide +kernel
theorem dX2_swap_6 : decode cX2_swap 6 = .ok (.istore_n 3, 1) := by decide +kernel
theorem dX2_swap_7 : decode cX2_swap 7 = .ok (.aload_n 0, 1) := by decide +kernel
theorem dX2_swap_8 : decode cX2_swap 8 = .ok (.getfield 29, 3) := by decide +kernel
theorem dX2_swap_11 : decode cX2_swap 11 = .ok (.iload_n 1, 1) := by decide +kernel
theorem dX2_swap_12 : decode cX2_swap 12 = .ok (.aload_n 0, 1) := by decide +kernel
theorem dX2_swap_13 : decode cX2_swap 13 = .ok (.getfield 29, 3) := by decide +kernel
theorem dX2_swap_16 : decode cX2_swap 16 = .ok (.iload_n 2, 1) := by decide +kernel
theorem dX2_swap_17 : decode cX2_swap 17 = .ok (.iaload, 1) := by decide +kernel
theorem dX2_swap_18 : decode cX2_swap 18 = .ok (.iastore, 1) := by decide +kernel
theorem dX2_swap_19 : decode cX2_swap 19 = .ok (.aload_n 0, 1) := by decide +kernel
theorem dX2_swap_20 : decode cX2_swap 20 = .ok (.getfield 29, 3) := by decide +kernel
theorem dX2_swap_23 : decode cX2_swap 23 = .ok (.iload_n 2, 1) := by decide +kernel
theorem dX2_swap_24 : decode cX2_swap 24 = .ok (.iload_n 3, 1) := by decide +kernel
theorem dX2_swap_25 : decode cX2_swap 25 = .ok (.iastore, 1) := by decide +kernel
theorem dX2_swap_26 : decode cX2_swap 26 = .ok (.return_, 1) := by decide +kernel
theorem dX3_init_0 : decode cX3_init 0 = .ok (.aload_n 0, 1) := by decide +kernel
theorem dX3_init_1 : decode cX3_init 1 = .ok (.invokespecial 3, 3) := by decide +kernel
theorem dX3_init_4 : decode cX3_init 4 = .ok (.aload_n 0, 1) := by decide +kernel
theorem dX3_init_5 : decode cX3_init 5 = .ok (.bipush 120, 2) := by decide +kernel
theorem dX3_init_7 : decode cX3_init 7 = .ok (.newarray .int, 2) := by decide +kernel
theorem dX3_init_9 : decode cX3_init 9 = .ok (.putfield 9, 3) := by decide +kernel
theorem dX3_init_12 : decode cX3_init 12 = .ok (.aload_n 0, 1) := by decide +kernel
theorem dX3_init_13 : decode cX3_init 13 = .ok (.iconst 0, 1) := by decide +kernel
theorem dX3_init_14 : decode cX3_init 14 = .ok (.putfield 15, 3) := by decide +kernel
theorem dX3_init_17 : decode cX3_init 17 = .ok (.return_, 1) := by decide +kernel
theorem dX3_append_0 : decode cX3_append 0 = .ok (.iload_n 2, 1) := by decide +kernel
theorem dX3_append_1 : decode cX3_append 1 = .ok (.iconst 1, 1) := by decide +kernel
theorem dX3_append_2 : decode cX3_append 2 = .ok (.isub, 1) := by decide +kernel
theorem dX3_append_3 : decode cX3_append 3 = .ok (.istore_n 3, 1) := by decide +kernel
theorem dX3_append_4 : decode cX3_append 4 = .ok (.iload_n 3, 1) := by decide +kernel
theorem dX3_append_5 : decode cX3_append 5 = .ok (.ifCond .lt 47, 3) := by decide +kernel
theorem dX3_append_8 : decode cX3_append 8 = .ok (.aload_n 0, 1) := by decide +kernel
theorem dX3_append_9 : decode cX3_append 9 = .ok (.getfield 15, 3) := by decide +kernel
theorem dX3_append_12 : decode cX3_append 12 = .ok (.bipush 120, 2) := by decide +kernel
theorem dX3_append_14 : decode cX3_append 14 = .ok (.if_icmp .ge 38, 3) := by decide +kernel
theorem dX3_append_17 : decode cX3_append 17 = .ok (.aload_n 0, 1) := by decide +kernel
theorem dX3_append_18 : decode cX3_append 18 = .ok (.getfield 9, 3) := by decide +kernel
theorem dX3_append_21 : decode cX3_append 21 = .ok (.aload_n 0, 1) := by decide +kernel
theorem dX3_append_22 : decode cX3_append 22 = .ok (.getfield 15, 3) := by decide +kernel
theorem dX3_append_25 : decode cX3_append 25 = .ok (.iload_n 1, 1) := by decide +kernel
theorem dX3_append_26 : decode cX3_append 26 = .ok (.bipush 8, 2) := by decide +kernel
theorem dX3_append_28 : decode cX3_append 28 = .ok (.iload_n 3, 1) := by decide +kernel
theorem dX3_append_29 : decode cX3_append 29 = .ok (.imul, 1) := by decide +kernel
theorem dX3_append_30 : decode cX3_append 30 = .ok (.iushr, 1) := by decide +kernel
theorem dX3_append_31 : decode cX3_append 31 = .ok (.sipush 255, 3) := by decide +kernel
theorem dX3_append_34 : decode cX3_append 34 = .ok (.iand, 1) := by decide +kernel
theorem dX3_append_35 : decode cX3_append 35 = .ok (.iastore, 1) := by decide +kernel
theorem dX3_append_36 : decode cX3_append 36 = .ok (.aload_n 0, 1) := by decide +kernel
theorem dX3_append_37 : decode cX3_append 37 = .ok (.dup, 1) := by decide +kernel
theorem dX3_append_38 : decode cX3_append 38 = .ok (.getfield 15, 3) := by decide +kernel
theorem dX3_append_41 : decode cX3_append 41 = .ok (.iconst 1, 1) := by decide +kernel
theorem dX3_append_42 : decode cX3_append 42 = .ok (.iadd, 1) := by decide +kernel
theorem dX3_append_43 : decode cX3_append 43 = .ok (.putfield 15, 3) := by decide +kernel
theorem dX3_append_46 : decode cX3_append 46 = .ok (.iinc 3 (-1), 3) := by decide +kernel
theorem dX3_append_49 : decode cX3_append 49 = .ok (.goto (-45), 3) := by decide +kernel
theorem dX3_append_52 : decode cX3_append 52 = .ok (.return_, 1) := by decide +kernel
theorem dX4_init_0 : decode cX4_init 0 = .ok (.aload_n 0, 1) := by decide +kernel
theorem dX4_init_1 : decode cX4_init 1 = .ok (.invokespecial 3, 3) := by decide +kernel
theorem dX4_init_4 : decode cX4_init 4 = .ok (.aload_n 0, 1) := by decide +kernel
theorem dX4_init_5 : decode cX4_init 5 = .ok (.iconst 0, 1) := by decide +kernel
theorem dX4_init_6 : decode cX4_init 6 = .ok (.putfield 11, 3) := by decide +kernel
theorem dX4_init_9 : decode cX4_init 9 = .ok (.aload_n 0, 1) := by decide +kernel
theorem dX4_init_10 : decode cX4_init 10 = .ok (.iconst 0, 1) := by decide +kernel
theorem dX4_init_11 : decode cX4_init 11 = .ok (.putfield 15, 3) := by decide +kernel
theorem dX4_init_14 : decode cX4_init 14 = .ok (.aload_n 0, 1) := by decide +kernel
theorem dX4_init_15 : decode cX4_init 15 = .ok (.iconst 0, 1) := by decide +kernel
theorem dX4_init_16 : decode cX4_init 16 = .ok (.putfield 18, 3) := by decide +kernel
theorem dX4_init_19 : decode cX4_init 19 = .ok (.aload_n 0, 1) := by decide +kernel
theorem dX4_init_20 : decode cX4_init 20 = .ok (.iconst 0, 1) := by decide +kernel
theorem dX4_init_21 : decode cX4_init 21 = .ok (.putfield 21, 3) := by decide +kernel
theorem dX4_init_24 : decode cX4_init 24 = .ok (.aload_n 0, 1) := by decide +kernel
theorem dX4_init_25 : decode cX4_init 25 = .ok (.aload_n 1, 1) := by decide +kernel
theorem dX4_init_26 : decode cX4_init 26 = .ok (.putfield 24, 3) := by decide +kernel
theorem dX4_init_29 : decode cX4_init 29 = .ok (.aload_n 0, 1) := by decide +kernel
theorem dX4_init_30 : decode cX4_init 30 = .ok (.aload_n 2, 1) := by decide +kernel
theorem dX4_init_31 : decode cX4_init 31 = .ok (.putfield 28, 3) := by decide +kernel
theorem dX4_init_34 : decode cX4_init 34 = .ok (.return_, 1) := by decide +kernel
theorem dX4_readText_0 : decode cX4_readText 0 = .ok (.aload_n 0, 1) := by decide +kernel
theorem dX4_readText_1 : decode cX4_readText 1 = .ok (.iconst 0, 1) := by decide +kernel
theorem dX4_readText_2 : decode cX4_readText 2 = .ok (.putfield 18, 3) := by decide +kernel
theorem dX4_readText_5 : decode cX4_readText 5 = .ok (.iconst 0, 1) := by decide +kernel
theorem dX4_readText_6 : decode cX4_readText 6 = .ok (.istore_n 1, 1) := by decide +kernel
theorem dX4_readText_7 : decode cX4_readText 7 = .ok (.iconst 0, 1) := by decide +kernel
theorem dX4_readText_8 : decode cX4_readText 8 = .ok (.istore_n 2, 1) := by decide +kernel
theorem dX4_readText_9 : decode cX4_readText 9 = .ok (.iload_n 2, 1) := by decide +kernel
theorem dX4_readText_10 : decode cX4_readText 10 = .ok (.bipush 120, 2) := by decide +kernel
theorem dX4_readText_12 : decode cX4_readText 12 = .ok (.if_icmp .gt 54, 3) := by decide +kernel
theorem dX4_readText_15 : decode cX4_readText 15 = .ok (.aload_n 0, 1) := by decide +kernel
theorem dX4_readText_16 : decode cX4_readText 16 = .ok (.invokevirtual 32, 3) := by decide +kernel
theorem dX4_readText_19 : decode cX4_readText 19 = .ok (.aload_n 0, 1) := by decide +kernel
theorem dX4_readText_20 : decode cX4_readText 20 = .ok (.invokevirtual 35, 3) := by decide +kernel
theorem dX4_readText_23 : decode cX4_readText 23 = .ok (.ifCond .ne 10, 3) := by decide +kernel
theorem dX4_readText_26 : decode cX4_readText 26 = .ok (.iconst (-1), 1) := by decide +kernel
theorem dX4_readText_27 : decode cX4_readText 27 = .ok (.aload_n 0, 1) := by decide +kernel
theorem dX4_readText_28 : decode cX4_readText 28 = .ok (.getfield 15, 3) := by decide +kernel
theorem dX4_readText_31 : decode cX4_readText 31 = .ok (.isub, 1) := by decide +kernel
theorem dX4_readText_32 : decode cX4_readText 32 = .ok (.ireturn, 1) := by decide +kernel
theorem dX4_readText_33 : decode cX4_readText 33 = .ok (.iinc 1 1, 3) := by decide +kernel
theorem dX4_readText_36 : decode cX4_readText 36 = .ok (.aload_n 0, 1) := by decide +kernel
theorem dX4_readText_37 : decode cX4_readText 37 = .ok (.getfield 11, 3) := by decide +kernel
theorem dX4_readText_40 : decode cX4_readText 40 = .ok (.ifCond .ne 5, 3) := by decide +kernel
theorem dX4_readText_43 : decode cX4_readText 43 = .ok (.iload_n 1, 1) := by decide +kernel
theorem dX4_readText_44 : decode cX4_readText 44 = .ok (.ireturn, 1) := by decide +kernel
theorem dX4_readText_45 : decode cX4_readText 45 = .ok (.aload_n 0, 1) := by decide +kernel
theorem dX4_readText_46 : decode cX4_readText 46 = .ok (.getfield 11, 3) := by decide +kernel
theorem dX4_readText_49 : decode cX4_readText 49 = .ok (.iconst 3, 1) := by decide +kernel
theorem dX4_readText_50 : decode cX4_readText 50 = .ok (.if_icmp .eq 10, 3) := by decide +kernel
theorem dX4_readText_53 : decode cX4_readText 53 = .ok (.iconst (-1), 1) := by decide +kernel
theorem dX4_readText_54 : decode cX4_readText 54 = .ok (.aload_n 0, 1) := by decide +kernel
theorem dX4_readText_55 : decode cX4_readText 55 = .ok (.getfield 15, 3) := by decide +kernel
theorem dX4_readText_58 : decode cX4_readText 58 = .ok (.isub, 1) := by decide +kernel
theorem dX4_readText_59 : decode cX4_readText 59 = .ok (.ireturn, 1) := by decide +kernel
theorem dX4_readText_60 : decode cX4_readText 60 = .ok (.iinc 2 1, 3) := by decide +kernel
theorem dX4_readText_63 : decode cX4_readText 63 = .ok (.goto (-54), 3) := by decide +kernel
theorem dX4_readText_66 : decode cX4_readText 66 = .ok (.iconst (-1), 1) := by decide +kernel
theorem dX4_readText_67 : decode cX4_readText 67 = .ok (.aload_n 0, 1) := by decide +kernel
theorem dX4_readText_68 : decode cX4_readText 68 = .ok (.getfield 15, 3) := by decide +kernel
theorem dX4_readText_71 : decode cX4_readText 71 = .ok (.isub, 1) := by decide +kernel
theorem dX4_readText_72 : decode cX4_readText 72 = .ok (.ireturn, 1) := by decide +kernel
theorem dX4_readItem_0 : decode cX4_readItem 0 = .ok (.aload_n 0, 1) := by decide +kernel
theorem dX4_readItem_1 : decode cX4_readItem 1 = .ok (.getfield 11, 3) := by decide +kernel
theorem dX4_readItem_4 : decode cX4_readItem 4 = .ok (.iconst 1, 1) := by decide +kernel
theorem dX4_readItem_5 : decode cX4_readItem 5 = .ok (.if_icmp .eq 5, 3) := by decide +kernel
theorem dX4_readItem_8 : decode cX4_readItem 8 = .ok (.iconst 0, 1) := by decide +kernel
theorem dX4_readItem_9 : decode cX4_readItem 9 = .ok (.ireturn, 1) := by decide +kernel
theorem dX4_readItem_10 : decode cX4_readItem 10 = .ok (.aload_n 0, 1) := by decide +kernel
theorem dX4_readItem_11 : decode cX4_readItem 11 = .ok (.ldc 39, 2) := by decide +kernel
theorem dX4_readItem_13 : decode cX4_readItem 13 = .ok (.invokevirtual 41, 3) := by decide +kernel
theorem dX4_readItem_16 : decode cX4_readItem 16 = .ok (.ifCond .eq 8, 3) := by decide +kernel
theorem dX4_readItem_19 : decode cX4_readItem 19 = .ok (.aload_n 0, 1) := by decide +kernel
theorem dX4_readItem_20 : decode cX4_readItem 20 = .ok (.invokevirtual 45, 3) := by decide +kernel
theorem dX4_readItem_23 : decode cX4_readItem 23 = .ok (.ireturn, 1) := by decide +kernel
theorem dX4_readItem_24 : decode cX4_readItem 24 = .ok (.aload_n 0, 1) := by decide +kernel
theorem dX4_readItem_25 : decode cX4_readItem 25 = .ok (.ldc 48, 2) := by decide +kernel
theorem dX4_readItem_27 : decode cX4_readItem 27 = .ok (.invokevirtual 41, 3) := by decide +kernel
theorem dX4_readItem_30 : decode cX4_readItem 30 = .ok (.ifCond .eq 8, 3) := by decide +kernel
theorem dX4_readItem_33 : decode cX4_readItem 33 = .ok (.aload_n 0, 1) := by decide +kernel
theorem dX4_readItem_34 : decode cX4_readItem 34 = .ok (.invokevirtual 50, 3) := by decide +kernel
theorem dX4_readItem_37 : decode cX4_readItem 37 = .ok (.ireturn, 1) := by decide +kernel
theorem dX4_readItem_38 : decode cX4_readItem 38 = .ok (.aload_n 0, 1) := by decide +kernel
theorem dX4_readItem_39 : decode cX4_readItem 39 = .ok (.ldc 53, 2) := by decide +kernel
theorem dX4_readItem_41 : decode cX4_readItem 41 = .ok (.invokevirtual 41, 3) := by decide +kernel
theorem dX4_readItem_44 : decode cX4_readItem 44 = .ok (.ifCond .eq 8, 3) := by decide +kernel
theorem dX4_readItem_47 : decode cX4_readItem 47 = .ok (.aload_n 0, 1) := by decide +kernel
theorem dX4_readItem_48 : decode cX4_readItem 48 = .ok (.invokevirtual 55, 3) := by decide +kernel
theorem dX4_readItem_51 : decode cX4_readItem 51 = .ok (.ireturn, 1) := by decide +kernel
theorem dX4_readItem_52 : decode cX4_readItem 52 = .ok (.aload_n 0, 1) := by decide +kernel
theorem dX4_readItem_53 : decode cX4_readItem 53 = .ok (.ldc 58, 2) := by decide +kernel
theorem dX4_readItem_55 : decode cX4_readItem 55 = .ok (.invokevirtual 41, 3) := by decide +kernel
theorem dX4_readItem_58 : decode cX4_readItem 58 = .ok (.ifCond .eq 8, 3) := by decide +kernel
theorem dX4_readItem_61 : decode cX4_readItem 61 = .ok (.aload_n 0, 1) := by decide +kernel
theorem dX4_readItem_62 : decode cX4_readItem 62 = .ok (.invokevirtual 60, 3) := by decide +kernel
theorem dX4_readItem_65 : decode cX4_readItem 65 = .ok (.ireturn, 1) := by decide +kernel
theorem dX4_readItem_66 : decode cX4_readItem 66 = .ok (.aload_n 0, 1) := by decide +kernel
theorem dX4_readItem_67 : decode cX4_readItem 67 = .ok (.aload_n 0, 1) := by decide +kernel
theorem dX4_readItem_68 : decode cX4_readItem 68 = .ok (.invokevirtual 63, 3) := by decide +kernel
theorem dX4_readItem_71 : decode cX4_readItem 71 = .ok (.invokevirtual 67, 3) := by decide +kernel
theorem dX4_readItem_74 : decode cX4_readItem 74 = .ok (.ireturn, 1) := by decide +kernel
theorem dX4_readRound_0 : decode cX4_readRound 0 = .ok (.aload_n 0, 1) := by decide +kernel
theorem dX4_readRound_1 : decode cX4_readRound 1 = .ok (.invokevirtual 32, 3) := by decide +kernel
theorem dX4_readRound_4 : decode cX4_readRound 4 = .ok (.aload_n 0, 1) := by decide +kernel
theorem dX4_readRound_5 : decode cX4_readRound 5 = .ok (.iconst 1, 1) := by decide +kernel
theorem dX4_readRound_6 : decode cX4_readRound 6 = .ok (.bipush 12, 2) := by decide +kernel
theorem dX4_readRound_8 : decode cX4_readRound 8 = .ok (.invokevirtual 71, 3) := by decide +kernel
theorem dX4_readRound_11 : decode cX4_readRound 11 = .ok (.ifCond .ne 5, 3) := by decide +kernel
theorem dX4_readRound_14 : decode cX4_readRound 14 = .ok (.iconst 0, 1) := by decide +kernel
theorem dX4_readRound_15 : decode cX4_readRound 15 = .ok (.ireturn, 1) := by decide +kernel
theorem dX4_readRound_16 : decode cX4_readRound 16 = .ok (.aload_n 0, 1) := by decide +kernel
theorem dX4_readRound_17 : decode cX4_readRound 17 = .ok (.getfield 28, 3) := by decide +kernel
theorem dX4_readRound_20 : decode cX4_readRound 20 = .ok (.aload_n 0, 1) := by decide +kernel
theorem dX4_readRound_21 : decode cX4_readRound 21 = .ok (.getfield 21, 3) := by decide +kernel
theorem dX4_readRound_24 : decode cX4_readRound 24 = .ok (.putfield 75, 3) := by decide +kernel
theorem dX4_readRound_27 : decode cX4_readRound 27 = .ok (.aload_n 0, 1) := by decide +kernel
theorem dX4_readRound_28 : decode cX4_readRound 28 = .ok (.invokevirtual 32, 3) := by decide +kernel
theorem dX4_readRound_31 : decode cX4_readRound 31 = .ok (.iconst 1, 1) := by decide +kernel
theorem dX4_readRound_32 : decode cX4_readRound 32 = .ok (.ireturn, 1) := by decide +kernel
theorem dX4_readNear_0 : decode cX4_readNear 0 = .ok (.aload_n 0, 1) := by decide +kernel
theorem dX4_readNear_1 : decode cX4_readNear 1 = .ok (.invokevirtual 32, 3) := by decide +kernel
theorem dX4_readNear_4 : decode cX4_readNear 4 = .ok (.aload_n 0, 1) := by decide +kernel
theorem dX4_readNear_5 : decode cX4_readNear 5 = .ok (.iconst 0, 1) := by decide +kernel
theorem dX4_readNear_6 : decode cX4_readNear 6 = .ok (.bipush 11, 2) := by decide +kernel
theorem dX4_readNear_8 : decode cX4_readNear 8 = .ok (.invokevirtual 71, 3) := by decide +kernel
theorem dX4_readNear_11 : decode cX4_readNear 11 = .ok (.ifCond .ne 5, 3) := by decide +kernel
theorem dX4_readNear_14 : decode cX4_readNear 14 = .ok (.iconst 0, 1) := by decide +kernel
theorem dX4_readNear_15 : decode cX4_readNear 15 = .ok (.ireturn, 1) := by decide +kernel
theorem dX4_readNear_16 : decode cX4_readNear 16 = .ok (.aload_n 0, 1) := by decide +kernel
theorem dX4_readNear_17 : decode cX4_readNear 17 = .ok (.getfield 28, 3) := by decide +kernel
theorem dX4_readNear_20 : decode cX4_readNear 20 = .ok (.aload_n 0, 1) := by decide +kernel
theorem dX4_readNear_21 : decode cX4_readNear 21 = .ok (.getfield 21, 3) := by decide +kernel
theorem dX4_readNear_24 : decode cX4_readNear 24 = .ok (.putfield 79, 3) := by decide +kernel
theorem dX4_readNear_27 : decode cX4_readNear 27 = .ok (.aload_n 0, 1) := by decide +kernel
theorem dX4_readNear_28 : decode cX4_readNear 28 = .ok (.invokevirtual 32, 3) := by decide +kernel
theorem dX4_readNear_31 : decode cX4_readNear 31 = .ok (.iconst 1, 1) := by decide +kernel
theorem dX4_readNear_32 : decode cX4_readNear 32 = .ok (.ireturn, 1) := by decide +kernel
theorem dX4_readTool_0 : decode cX4_readTool 0 = .ok (.aload_n 0, 1) := by decide +kernel
theorem dX4_readTool_1 : decode cX4_readTool 1 = .ok (.getfield 28, 3) := by decide +kernel
theorem dX4_readTool_4 : decode cX4_readTool 4 = .ok (.getfield 81, 3) := by decide +kernel
theorem dX4_readTool_7 : decode cX4_readTool 7 = .ok (.bipush 8, 2) := by decide +kernel
theorem dX4_readTool_9 : decode cX4_readTool 9 = .ok (.if_icmp .lt 5, 3) := by decide +kernel
theorem dX4_readTool_12 : decode cX4_readTool 12 = .ok (.iconst 0, 1) := by decide +kernel
theorem dX4_readTool_13 : decode cX4_readTool 13 = .ok (.ireturn, 1) := by decide +kernel
theorem dX4_readTool_14 : decode cX4_readTool 14 = .ok (.aload_n 0, 1) := by decide +kernel
theorem dX4_readTool_15 : decode cX4_readTool 15 = .ok (.invokevirtual 32, 3) := by decide +kernel
theorem dX4_readTool_18 : decode cX4_readTool 18 = .ok (.iconst 0, 1) := by decide +kernel
theorem dX4_readTool_19 : decode cX4_readTool 19 = .ok (.istore_n 1, 1) := by decide +kernel
theorem dX4_readTool_20 : decode cX4_readTool 20 = .ok (.iconst 0, 1) := by decide +kernel
theorem dX4_readTool_21 : decode cX4_readTool 21 = .ok (.istore_n 2, 1) := by decide +kernel
theorem dX4_readTool_22 : decode cX4_readTool 22 = .ok (.iconst 0, 1) := by decide +kernel
theorem dX4_readTool_23 : decode cX4_readTool 23 = .ok (.istore_n 3, 1) := by decide +kernel
theorem dX4_readTool_24 : decode cX4_readTool 24 = .ok (.iload_n 3, 1) := by decide +kernel
theorem dX4_readTool_25 : decode cX4_readTool 25 = .ok (.bipush 12, 2) := by decide +kernel
theorem dX4_readTool_27 : decode cX4_readTool 27 = .ok (.if_icmp .ge 49, 3) := by decide +kernel
theorem dX4_readTool_30 : decode cX4_readTool 30 = .ok (.aload_n 0, 1) := by decide +kernel
theorem dX4_readTool_31 : decode cX4_readTool 31 = .ok (.getfield 11, 3) := by decide +kernel
theorem dX4_readTool_34 : decode cX4_readTool 34 = .ok (.iconst 2, 1) := by decide +kernel
theorem dX4_readTool_35 : decode cX4_readTool 35 = .ok (.if_icmp .ne 41, 3) := by decide +kernel
theorem dX4_readTool_38 : decode cX4_readTool 38 = .ok (.aload_n 0, 1) := by decide +kernel
theorem dX4_readTool_39 : decode cX4_readTool 39 = .ok (.iload_n 2, 1) := by decide +kernel
theorem dX4_readTool_40 : decode cX4_readTool 40 = .ok (.bipush 11, 2) := by decide +kernel
theorem dX4_readTool_42 : decode cX4_readTool 42 = .ok (.invokevirtual 71, 3) := by decide +kernel
theorem dX4_readTool_45 : decode cX4_readTool 45 = .ok (.ifCond .ne 5, 3) := by decide +kernel
theorem dX4_readTool_48 : decode cX4_readTool 48 = .ok (.iconst 0, 1) := by decide +kernel
theorem dX4_readTool_49 : decode cX4_readTool 49 = .ok (.ireturn, 1) := by decide +kernel
theorem dX4_readTool_50 : decode cX4_readTool 50 = .ok (.iload_n 1, 1) := by decide +kernel
theorem dX4_readTool_51 : decode cX4_readTool 51 = .ok (.iconst 1, 1) := by decide +kernel
theorem dX4_readTool_52 : decode cX4_readTool 52 = .ok (.aload_n 0, 1) := by decide +kernel
theorem dX4_readTool_53 : decode cX4_readTool 53 = .ok (.getfield 21, 3) := by decide +kernel
theorem dX4_readTool_56 : decode cX4_readTool 56 = .ok (.ishl, 1) := by decide +kernel
theorem dX4_readTool_57 : decode cX4_readTool 57 = .ok (.ior, 1) := by decide +kernel
theorem dX4_readTool_58 : decode cX4_readTool 58 = .ok (.istore_n 1, 1) := by decide +kernel
theorem dX4_readTool_59 : decode cX4_readTool 59 = .ok (.aload_n 0, 1) := by decide +kernel
theorem dX4_readTool_60 : decode cX4_readTool 60 = .ok (.getfield 21, 3) := by decide +kernel
theorem dX4_readTool_63 : decode cX4_readTool 63 = .ok (.iconst 1, 1) := by decide +kernel
theorem dX4_readTool_64 : decode cX4_readTool 64 = .ok (.iadd, 1) := by decide +kernel
theorem dX4_readTool_65 : decode cX4_readTool 65 = .ok (.istore_n 2, 1) := by decide +kernel
theorem dX4_readTool_66 : decode cX4_readTool 66 = .ok (.aload_n 0, 1) := by decide +kernel
theorem dX4_readTool_67 : decode cX4_readTool 67 = .ok (.invokevirtual 32, 3) := by decide +kernel
theorem dX4_readTool_70 : decode cX4_readTool 70 = .ok (.iinc 3 1, 3) := by decide +kernel
theorem dX4_readTool_73 : decode cX4_readTool 73 = .ok (.goto (-49), 3) := by decide +kernel
theorem dX4_readTool_76 : decode cX4_readTool 76 = .ok (.aload_n 0, 1) := by decide +kernel
theorem dX4_readTool_77 : decode cX4_readTool 77 = .ok (.getfield 28, 3) := by decide +kernel
theorem dX4_readTool_80 : decode cX4_readTool 80 = .ok (.iload_n 1, 1) := by decide +kernel
theorem dX4_readTool_81 : decode cX4_readTool 81 = .ok (.invokevirtual 84, 3) := by decide +kernel
theorem dX4_readTool_84 : decode cX4_readTool 84 = .ok (.pop, 1) := by decide +kernel
theorem dX4_readTool_85 : decode cX4_readTool 85 = .ok (.iconst 1, 1) := by decide +kernel
theorem dX4_readTool_86 : decode cX4_readTool 86 = .ok (.ireturn, 1) := by decide +kernel
theorem dX4_readThing_0 : decode cX4_readThing 0 = .ok (.iload_n 1, 1) := by decide +kernel
theorem dX4_readThing_1 : decode cX4_readThing 1 = .ok (.ifCond .lt 15, 3) := by decide +kernel
theorem dX4_readThing_4 : decode cX4_readThing 4 = .ok (.aload_n 0, 1) := by decide +kernel
theorem dX4_readThing_5 : decode cX4_readThing 5 = .ok (.getfield 28, 3) := by decide +kernel
theorem dX4_readThing_8 : decode cX4_readThing 8 = .ok (.getfield 88, 3) := by decide +kernel
theorem dX4_readThing_11 : decode cX4_readThing 11 = .ok (.bipush 8, 2) := by decide +kernel
theorem dX4_readThing_13 : decode cX4_readThing 13 = .ok (.if_icmp .lt 5, 3) := by decide +kernel
theorem dX4_readThing_16 : decode cX4_readThing 16 = .ok (.iconst 0, 1) := by decide +kernel
theorem dX4_readThing_17 : decode cX4_readThing 17 = .ok (.ireturn, 1) := by decide +kernel
theorem dX4_readThing_18 : decode cX4_readThing 18 = .ok (.aload_n 0, 1) := by decide +kernel
theorem dX4_readThing_19 : decode cX4_readThing 19 = .ok (.getfield 28, 3) := by decide +kernel
theorem dX4_readThing_22 : decode cX4_readThing 22 = .ok (.iload_n 1, 1) := by decide +kernel
theorem dX4_readThing_23 : decode cX4_readThing 23 = .ok (.invokevirtual 91, 3) := by decide +kernel
theorem dX4_readThing_26 : decode cX4_readThing 26 = .ok (.istore_n 2, 1) := by decide +kernel
theorem dX4_readThing_27 : decode cX4_readThing 27 = .ok (.iconst 0, 1) := by decide +kernel
theorem dX4_readThing_28 : decode cX4_readThing 28 = .ok (.istore_n 3, 1) := by decide +kernel
theorem dX4_readThing_29 : decode cX4_readThing 29 = .ok (.iload_n 3, 1) := by decide +kernel
theorem dX4_readThing_30 : decode cX4_readThing 30 = .ok (.bipush 8, 2) := by decide +kernel
theorem dX4_readThing_32 : decode cX4_readThing 32 = .ok (.if_icmp .ge 33, 3) := by decide +kernel
theorem dX4_readThing_35 : decode cX4_readThing 35 = .ok (.aload_n 0, 1) := by decide +kernel
theorem dX4_readThing_36 : decode cX4_readThing 36 = .ok (.invokevirtual 32, 3) := by decide +kernel
theorem dX4_readThing_39 : decode cX4_readThing 39 = .ok (.aload_n 0, 1) := by decide +kernel
theorem dX4_readThing_40 : decode cX4_readThing 40 = .ok (.iload_n 2, 1) := by decide +kernel
theorem dX4_readThing_41 : decode cX4_readThing 41 = .ok (.invokevirtual 94, 3) := by decide +kernel
theorem dX4_readThing_44 : decode cX4_readThing 44 = .ok (.ifCond .ne 5, 3) := by decide +kernel
theorem dX4_readThing_47 : decode cX4_readThing 47 = .ok (.iconst 0, 1) := by decide +kernel
theorem dX4_readThing_48 : decode cX4_readThing 48 = .ok (.ireturn, 1) := by decide +kernel
theorem dX4_readThing_49 : decode cX4_readThing 49 = .ok (.aload_n 0, 1) := by decide +kernel
theorem dX4_readThing_50 : decode cX4_readThing 50 = .ok (.getfield 11, 3) := by decide +kernel
theorem dX4_readThing_53 : decode cX4_readThing 53 = .ok (.iconst 4, 1) := by decide +kernel
theorem dX4_readThing_54 : decode cX4_readThing 54 = .ok (.if_icmp .eq 5, 3) := by decide +kernel
theorem dX4_readThing_57 : decode cX4_readThing 57 = .ok (.iconst 1, 1) := by decide +kernel
theorem dX4_readThing_58 : decode cX4_readThing 58 = .ok (.ireturn, 1) := by decide +kernel
theorem dX4_readThing_59 : decode cX4_readThing 59 = .ok (.iinc 3 1, 3) := by decide +kernel
theorem dX4_readThing_62 : decode cX4_readThing 62 = .ok (.goto (-33), 3) := by decide +kernel
theorem dX4_readThing_65 : decode cX4_readThing 65 = .ok (.iconst 0, 1) := by decide +kernel
theorem dX4_readThing_66 : decode cX4_readThing 66 = .ok (.ireturn, 1) := by decide +kernel
theorem dX4_readStep_0 : decode cX4_readStep 0 = .ok (.aload_n 0, 1) := by decide +kernel
theorem dX4_readStep_1 : decode cX4_readStep 1 = .ok (.iconst 0, 1) := by decide +kernel
theorem dX4_readStep_2 : decode cX4_readStep 2 = .ok (.aload_n 0, 1) := by decide +kernel
theorem dX4_readStep_3 : decode cX4_readStep 3 = .ok (.getfield 28, 3) := by decide +kernel
theorem dX4_readStep_6 : decode cX4_readStep 6 = .ok (.getfield 81, 3) := by decide +kernel
theorem dX4_readStep_9 : decode cX4_readStep 9 = .ok (.iconst 1, 1) := by decide +kernel
theorem dX4_readStep_10 : decode cX4_readStep 10 = .ok (.isub, 1) := by decide +kernel
theorem dX4_readStep_11 : decode cX4_readStep 11 = .ok (.invokevirtual 71, 3) := by decide +kernel
theorem dX4_readStep_14 : decode cX4_readStep 14 = .ok (.ifCond .ne 5, 3) := by decide +kernel
theorem dX4_readStep_17 : decode cX4_readStep 17 = .ok (.iconst 0, 1) := by decide +kernel
theorem dX4_readStep_18 : decode cX4_readStep 18 = .ok (.ireturn, 1) := by decide +kernel
theorem dX4_readStep_19 : decode cX4_readStep 19 = .ok (.aload_n 0, 1) := by decide +kernel
theorem dX4_readStep_20 : decode cX4_readStep 20 = .ok (.getfield 21, 3) := by decide +kernel
theorem dX4_readStep_23 : decode cX4_readStep 23 = .ok (.istore_n 2, 1) := by decide +kernel
theorem dX4_readStep_24 : decode cX4_readStep 24 = .ok (.aload_n 0, 1) := by decide +kernel
theorem dX4_readStep_25 : decode cX4_readStep 25 = .ok (.invokevirtual 32, 3) := by decide +kernel
theorem dX4_readStep_28 : decode cX4_readStep 28 = .ok (.aload_n 0, 1) := by decide +kernel
theorem dX4_readStep_29 : decode cX4_readStep 29 = .ok (.iconst 1, 1) := by decide +kernel
theorem dX4_readStep_30 : decode cX4_readStep 30 = .ok (.bipush 8, 2) := by decide +kernel
theorem dX4_readStep_32 : decode cX4_readStep 32 = .ok (.invokevirtual 71, 3) := by decide +kernel
theorem dX4_readStep_35 : decode cX4_readStep 35 = .ok (.ifCond .ne 5, 3) := by decide +kernel
theorem dX4_readStep_38 : decode cX4_readStep 38 = .ok (.iconst 0, 1) := by decide +kernel
theorem dX4_readStep_39 : decode cX4_readStep 39 = .ok (.ireturn, 1) := by decide +kernel
theorem dX4_readStep_40 : decode cX4_readStep 40 = .ok (.aload_n 0, 1) := by decide +kernel
theorem dX4_readStep_41 : decode cX4_readStep 41 = .ok (.getfield 21, 3) := by decide +kernel
theorem dX4_readStep_44 : decode cX4_readStep 44 = .ok (.istore_n 3, 1) := by decide +kernel
theorem dX4_readStep_45 : decode cX4_readStep 45 = .ok (.aload_n 0, 1) := by decide +kernel
theorem dX4_readStep_46 : decode cX4_readStep 46 = .ok (.invokevirtual 32, 3) := by decide +kernel
theorem dX4_readStep_49 : decode cX4_readStep 49 = .ok (.bipush 99, 2) := by decide +kernel
theorem dX4_readStep_51 : decode cX4_readStep 51 = .ok (.istore 4, 2) := by decide +kernel
theorem dX4_readStep_53 : decode cX4_readStep 53 = .ok (.aload_n 0, 1) := by decide +kernel
theorem dX4_readStep_54 : decode cX4_readStep 54 = .ok (.ldc 97, 2) := by decide +kernel
theorem dX4_readStep_56 : decode cX4_readStep 56 = .ok (.invokevirtual 41, 3) := by decide +kernel
theorem dX4_readStep_59 : decode cX4_readStep 59 = .ok (.ifCond .eq 29, 3) := by decide +kernel
theorem dX4_readStep_62 : decode cX4_readStep 62 = .ok (.aload_n 0, 1) := by decide +kernel
theorem dX4_readStep_63 : decode cX4_readStep 63 = .ok (.invokevirtual 32, 3) := by decide +kernel
theorem dX4_readStep_66 : decode cX4_readStep 66 = .ok (.aload_n 0, 1) := by decide +kernel
theorem dX4_readStep_67 : decode cX4_readStep 67 = .ok (.iconst 0, 1) := by decide +kernel
theorem dX4_readStep_68 : decode cX4_readStep 68 = .ok (.bipush 99, 2) := by decide +kernel
theorem dX4_readStep_70 : decode cX4_readStep 70 = .ok (.invokevirtual 71, 3) := by decide +kernel
theorem dX4_readStep_73 : decode cX4_readStep 73 = .ok (.ifCond .ne 5, 3) := by decide +kernel
theorem dX4_readStep_76 : decode cX4_readStep 76 = .ok (.iconst 0, 1) := by decide +kernel
theorem dX4_readStep_77 : decode cX4_readStep 77 = .ok (.ireturn, 1) := by decide +kernel
theorem dX4_readStep_78 : decode cX4_readStep 78 = .ok (.aload_n 0, 1) := by decide +kernel
theorem dX4_readStep_79 : decode cX4_readStep 79 = .ok (.getfield 21, 3) := by decide +kernel
theorem dX4_readStep_82 : decode cX4_readStep 82 = .ok (.istore 4, 2) := by decide +kernel
theorem dX4_readStep_84 : decode cX4_readStep 84 = .ok (.aload_n 0, 1) := by decide +kernel
theorem dX4_readStep_85 : decode cX4_readStep 85 = .ok (.invokevirtual 32, 3) := by decide +kernel
theorem dX4_readStep_88 : decode cX4_readStep 88 = .ok (.aload_n 0, 1) := by decide +kernel
theorem dX4_readStep_89 : decode cX4_readStep 89 = .ok (.getfield 28, 3) := by decide +kernel
theorem dX4_readStep_92 : decode cX4_readStep 92 = .ok (.iload_n 1, 1) := by decide +kernel
theorem dX4_readStep_93 : decode cX4_readStep 93 = .ok (.iload_n 2, 1) := by decide +kernel
theorem dX4_readStep_94 : decode cX4_readStep 94 = .ok (.iload_n 3, 1) := by decide +kernel
theorem dX4_readStep_95 : decode cX4_readStep 95 = .ok (.iload 4, 2) := by decide +kernel
theorem dX4_readStep_97 : decode cX4_readStep 97 = .ok (.invokevirtual 99, 3) := by decide +kernel
theorem dX4_readStep_100 : decode cX4_readStep 100 = .ok (.pop, 1) := by decide +kernel
theorem dX4_readStep_101 : decode cX4_readStep 101 = .ok (.iconst 1, 1) := by decide +kernel
theorem dX4_readStep_102 : decode cX4_readStep 102 = .ok (.ireturn, 1) := by decide +kernel
theorem dX4_readOrder_0 : decode cX4_readOrder 0 = .ok (.aload_n 0, 1) := by decide +kernel
theorem dX4_readOrder_1 : decode cX4_readOrder 1 = .ok (.getfield 28, 3) := by decide +kernel
theorem dX4_readOrder_4 : decode cX4_readOrder 4 = .ok (.getfield 103, 3) := by decide +kernel
theorem dX4_readOrder_7 : decode cX4_readOrder 7 = .ok (.iconst 5, 1) := by decide +kernel
theorem dX4_readOrder_8 : decode cX4_readOrder 8 = .ok (.if_icmp .lt 5, 3) := by decide +kernel
theorem dX4_readOrder_11 : decode cX4_readOrder 11 = .ok (.iconst 0, 1) := by decide +kernel
theorem dX4_readOrder_12 : decode cX4_readOrder 12 = .ok (.ireturn, 1) := by decide +kernel
theorem dX4_readOrder_13 : decode cX4_readOrder 13 = .ok (.aload_n 0, 1) := by decide +kernel
theorem dX4_readOrder_14 : decode cX4_readOrder 14 = .ok (.invokevirtual 32, 3) := by decide +kernel
theorem dX4_readOrder_17 : decode cX4_readOrder 17 = .ok (.aload_n 0, 1) := by decide +kernel
theorem dX4_readOrder_18 : decode cX4_readOrder 18 = .ok (.iconst 0, 1) := by decide +kernel
theorem dX4_readOrder_19 : decode cX4_readOrder 19 = .ok (.aload_n 0, 1) := by decide +kernel
theorem dX4_readOrder_20 : decode cX4_readOrder 20 = .ok (.getfield 28, 3) := by decide +kernel
theorem dX4_readOrder_23 : decode cX4_readOrder 23 = .ok (.getfield 88, 3) := by decide +kernel
theorem dX4_readOrder_26 : decode cX4_readOrder 26 = .ok (.iconst 1, 1) := by decide +kernel
theorem dX4_readOrder_27 : decode cX4_readOrder 27 = .ok (.isub, 1) := by decide +kernel
theorem dX4_readOrder_28 : decode cX4_readOrder 28 = .ok (.invokevirtual 71, 3) := by decide +kernel
theorem dX4_readOrder_31 : decode cX4_readOrder 31 = .ok (.ifCond .ne 5, 3) := by decide +kernel
theorem dX4_readOrder_34 : decode cX4_readOrder 34 = .ok (.iconst 0, 1) := by decide +kernel
theorem dX4_readOrder_35 : decode cX4_readOrder 35 = .ok (.ireturn, 1) := by decide +kernel
theorem dX4_readOrder_36 : decode cX4_readOrder 36 = .ok (.aload_n 0, 1) := by decide +kernel
theorem dX4_readOrder_37 : decode cX4_readOrder 37 = .ok (.getfield 21, 3) := by decide +kernel
theorem dX4_readOrder_40 : decode cX4_readOrder 40 = .ok (.istore_n 1, 1) := by decide +kernel
theorem dX4_readOrder_41 : decode cX4_readOrder 41 = .ok (.aload_n 0, 1) := by decide +kernel
theorem dX4_readOrder_42 : decode cX4_readOrder 42 = .ok (.invokevirtual 32, 3) := by decide +kernel
theorem dX4_readOrder_45 : decode cX4_readOrder 45 = .ok (.aload_n 0, 1) := by decide +kernel
theorem dX4_readOrder_46 : decode cX4_readOrder 46 = .ok (.ldc 106, 2) := by decide +kernel
theorem dX4_readOrder_48 : decode cX4_readOrder 48 = .ok (.iconst 0, 1) := by decide +kernel
theorem dX4_readOrder_49 : decode cX4_readOrder 49 = .ok (.sipush 399, 3) := by decide +kernel
theorem dX4_readOrder_52 : decode cX4_readOrder 52 = .ok (.invokevirtual 108, 3) := by decide +kernel
theorem dX4_readOrder_55 : decode cX4_readOrder 55 = .ok (.ifCond .ne 5, 3) := by decide +kernel
theorem dX4_readOrder_58 : decode cX4_readOrder 58 = .ok (.iconst 0, 1) := by decide +kernel
theorem dX4_readOrder_59 : decode cX4_readOrder 59 = .ok (.ireturn, 1) := by decide +kernel
theorem dX4_readOrder_60 : decode cX4_readOrder 60 = .ok (.aload_n 0, 1) := by decide +kernel
theorem dX4_readOrder_61 : decode cX4_readOrder 61 = .ok (.getfield 21, 3) := by decide +kernel
theorem dX4_readOrder_64 : decode cX4_readOrder 64 = .ok (.istore_n 2, 1) := by decide +kernel
theorem dX4_readOrder_65 : decode cX4_readOrder 65 = .ok (.aload_n 0, 1) := by decide +kernel
theorem dX4_readOrder_66 : decode cX4_readOrder 66 = .ok (.invokevirtual 32, 3) := by decide +kernel
theorem dX4_readOrder_69 : decode cX4_readOrder 69 = .ok (.aload_n 0, 1) := by decide +kernel
theorem dX4_readOrder_70 : decode cX4_readOrder 70 = .ok (.ldc 112, 2) := by decide +kernel
theorem dX4_readOrder_72 : decode cX4_readOrder 72 = .ok (.iconst 1, 1) := by decide +kernel
theorem dX4_readOrder_73 : decode cX4_readOrder 73 = .ok (.bipush 99, 2) := by decide +kernel
theorem dX4_readOrder_75 : decode cX4_readOrder 75 = .ok (.invokevirtual 108, 3) := by decide +kernel
theorem dX4_readOrder_78 : decode cX4_readOrder 78 = .ok (.ifCond .ne 5, 3) := by decide +kernel
theorem dX4_readOrder_81 : decode cX4_readOrder 81 = .ok (.iconst 0, 1) := by decide +kernel
theorem dX4_readOrder_82 : decode cX4_readOrder 82 = .ok (.ireturn, 1) := by decide +kernel
theorem dX4_readOrder_83 : decode cX4_readOrder 83 = .ok (.aload_n 0, 1) := by decide +kernel
theorem dX4_readOrder_84 : decode cX4_readOrder 84 = .ok (.getfield 28, 3) := by decide +kernel
theorem dX4_readOrder_87 : decode cX4_readOrder 87 = .ok (.iload_n 1, 1) := by decide +kernel
theorem dX4_readOrder_88 : decode cX4_readOrder 88 = .ok (.iload_n 2, 1) := by decide +kernel
theorem dX4_readOrder_89 : decode cX4_readOrder 89 = .ok (.aload_n 0, 1) := by decide +kernel
theorem dX4_readOrder_90 : decode cX4_readOrder 90 = .ok (.getfield 21, 3) := by decide +kernel
theorem dX4_readOrder_93 : decode cX4_readOrder 93 = .ok (.invokevirtual 114, 3) := by decide +kernel
theorem dX4_readOrder_96 : decode cX4_readOrder 96 = .ok (.pop, 1) := by decide +kernel
theorem dX4_readOrder_97 : decode cX4_readOrder 97 = .ok (.aload_n 0, 1) := by decide +kernel
theorem dX4_readOrder_98 : decode cX4_readOrder 98 = .ok (.invokevirtual 32, 3) := by decide +kernel
theorem dX4_readOrder_101 : decode cX4_readOrder 101 = .ok (.iconst 1, 1) := by decide +kernel
theorem dX4_readOrder_102 : decode cX4_readOrder 102 = .ok (.ireturn, 1) := by decide +kernel
theorem dX4_readBehindWord_0 : decode cX4_readBehindWord 0 = .ok (.aload_n 0, 1) := by decide +kernel
theorem dX4_readBehindWord_1 : decode cX4_readBehindWord 1 = .ok (.aload_n 1, 1) := by decide +kernel
theorem dX4_readBehindWord_2 : decode cX4_readBehindWord 2 = .ok (.invokevirtual 41, 3) := by decide +kernel
theorem dX4_readBehindWord_5 : decode cX4_readBehindWord 5 = .ok (.ifCond .ne 5, 3) := by decide +kernel
theorem dX4_readBehindWord_8 : decode cX4_readBehindWord 8 = .ok (.iconst 0, 1) := by decide +kernel
theorem dX4_readBehindWord_9 : decode cX4_readBehindWord 9 = .ok (.ireturn, 1) := by decide +kernel
theorem dX4_readBehindWord_10 : decode cX4_readBehindWord 10 = .ok (.aload_n 0, 1) := by decide +kernel
theorem dX4_readBehindWord_11 : decode cX4_readBehindWord 11 = .ok (.invokevirtual 32, 3) := by decide +kernel
theorem dX4_readBehindWord_14 : decode cX4_readBehindWord 14 = .ok (.aload_n 0, 1) := by decide +kernel
theorem dX4_readBehindWord_15 : decode cX4_readBehindWord 15 = .ok (.iload_n 2, 1) := by decide +kernel
theorem dX4_readBehindWord_16 : decode cX4_readBehindWord 16 = .ok (.iload_n 3, 1) := by decide +kernel
theorem dX4_readBehindWord_17 : decode cX4_readBehindWord 17 = .ok (.invokevirtual 71, 3) := by decide +kernel
theorem dX4_readBehindWord_20 : decode cX4_readBehindWord 20 = .ok (.ireturn, 1) := by decide +kernel
theorem dX4_isNumber_0 : decode cX4_isNumber 0 = .ok (.aload_n 0, 1) := by decide +kernel
theorem dX4_isNumber_1 : decode cX4_isNumber 1 = .ok (.getfield 11, 3) := by decide +kernel
theorem dX4_isNumber_4 : decode cX4_isNumber 4 = .ok (.iconst 2, 1) := by decide +kernel
theorem dX4_isNumber_5 : decode cX4_isNumber 5 = .ok (.if_icmp .ne 19, 3) := by decide +kernel
theorem dX4_isNumber_8 : decode cX4_isNumber 8 = .ok (.aload_n 0, 1) := by decide +kernel
theorem dX4_isNumber_9 : decode cX4_isNumber 9 = .ok (.getfield 21, 3) := by decide +kernel
theorem dX4_isNumber_12 : decode cX4_isNumber 12 = .ok (.iload_n 1, 1) := by decide +kernel
theorem dX4_isNumber_13 : decode cX4_isNumber 13 = .ok (.iload_n 2, 1) := by decide +kernel
theorem dX4_isNumber_14 : decode cX4_isNumber 14 = .ok (.invokestatic 118, 3) := by decide +kernel
theorem dX4_isNumber_17 : decode cX4_isNumber 17 = .ok (.ifCond .eq 7, 3) := by decide +kernel
theorem dX4_isNumber_20 : decode cX4_isNumber 20 = .ok (.iconst 1, 1) := by decide +kernel
theorem dX4_isNumber_21 : decode cX4_isNumber 21 = .ok (.goto 4, 3) := by decide +kernel
theorem dX4_isNumber_24 : decode cX4_isNumber 24 = .ok (.iconst 0, 1) := by decide +kernel
theorem dX4_isNumber_25 : decode cX4_isNumber 25 = .ok (.ireturn, 1) := by decide +kernel
theorem dX4_isWord_0 : decode cX4_isWord 0 = .ok (.aload_n 0, 1) := by decide +kernel
theorem dX4_isWord_1 : decode cX4_isWord 1 = .ok (.getfield 11, 3) := by decide +kernel
theorem dX4_isWord_4 : decode cX4_isWord 4 = .ok (.iconst 1, 1) := by decide +kernel
theorem dX4_isWord_5 : decode cX4_isWord 5 = .ok (.if_icmp .ne 19, 3) := by decide +kernel
theorem dX4_isWord_8 : decode cX4_isWord 8 = .ok (.aload_n 1, 1) := by decide +kernel
theorem dX4_isWord_9 : decode cX4_isWord 9 = .ok (.invokevirtual 122, 3) := by decide +kernel
theorem dX4_isWord_12 : decode cX4_isWord 12 = .ok (.aload_n 0, 1) := by decide +kernel
theorem dX4_isWord_13 : decode cX4_isWord 13 = .ok (.getfield 18, 3) := by decide +kernel
theorem dX4_isWord_16 : decode cX4_isWord 16 = .ok (.aload_n 0, 1) := by decide +kernel
theorem dX4_isWord_17 : decode cX4_isWord 17 = .ok (.getfield 15, 3) := by decide +kernel
theorem dX4_isWord_20 : decode cX4_isWord 20 = .ok (.isub, 1) := by decide +kernel
theorem dX4_isWord_21 : decode cX4_isWord 21 = .ok (.if_icmp .eq 5, 3) := by decide +kernel
theorem dX4_isWord_24 : decode cX4_isWord 24 = .ok (.iconst 0, 1) := by decide +kernel
theorem dX4_isWord_25 : decode cX4_isWord 25 = .ok (.ireturn, 1) := by decide +kernel
theorem dX4_isWord_26 : decode cX4_isWord 26 = .ok (.iconst 0, 1) := by decide +kernel
theorem dX4_isWord_27 : decode cX4_isWord 27 = .ok (.istore_n 2, 1) := by decide +kernel
theorem dX4_isWord_28 : decode cX4_isWord 28 = .ok (.iload_n 2, 1) := by decide +kernel
theorem dX4_isWord_29 : decode cX4_isWord 29 = .ok (.aload_n 1, 1) := by decide +kernel
theorem dX4_isWord_30 : decode cX4_isWord 30 = .ok (.invokevirtual 122, 3) := by decide +kernel
theorem dX4_isWord_33 : decode cX4_isWord 33 = .ok (.if_icmp .ge 33, 3) := by decide +kernel
theorem dX4_isWord_36 : decode cX4_isWord 36 = .ok (.aload_n 0, 1) := by decide +kernel
theorem dX4_isWord_37 : decode cX4_isWord 37 = .ok (.getfield 24, 3) := by decide +kernel
theorem dX4_isWord_40 : decode cX4_isWord 40 = .ok (.getfield 127, 3) := by decide +kernel
theorem dX4_isWord_43 : decode cX4_isWord 43 = .ok (.aload_n 0, 1) := by decide +kernel
theorem dX4_isWord_44 : decode cX4_isWord 44 = .ok (.getfield 15, 3) := by decide +kernel
theorem dX4_isWord_47 : decode cX4_isWord 47 = .ok (.iload_n 2, 1) := by decide +kernel
theorem dX4_isWord_48 : decode cX4_isWord 48 = .ok (.iadd, 1) := by decide +kernel
theorem dX4_isWord_49 : decode cX4_isWord 49 = .ok (.iaload, 1) := by decide +kernel
theorem dX4_isWord_50 : decode cX4_isWord 50 = .ok (.aload_n 1, 1) := by decide +kernel
theorem dX4_isWord_51 : decode cX4_isWord 51 = .ok (.iload_n 2, 1) := by decide +kernel
theorem dX4_isWord_52 : decode cX4_isWord 52 = .ok (.invokevirtual 133, 3) := by decide +kernel
theorem dX4_isWord_55 : decode cX4_isWord 55 = .ok (.if_icmp .eq 5, 3) := by decide +kernel
theorem dX4_isWord_58 : decode cX4_isWord 58 = .ok (.iconst 0, 1) := by decide +kernel
theorem dX4_isWord_59 : decode cX4_isWord 59 = .ok (.ireturn, 1) := by decide +kernel
theorem dX4_isWord_60 : decode cX4_isWord 60 = .ok (.iinc 2 1, 3) := by decide +kernel
theorem dX4_isWord_63 : decode cX4_isWord 63 = .ok (.goto (-35), 3) := by decide +kernel
theorem dX4_isWord_66 : decode cX4_isWord 66 = .ok (.iconst 1, 1) := by decide +kernel
theorem dX4_isWord_67 : decode cX4_isWord 67 = .ok (.ireturn, 1) := by decide +kernel
theorem dX4_kindOfWord_0 : decode cX4_kindOfWord 0 = .ok (.iconst 0, 1) := by decide +kernel
theorem dX4_kindOfWord_1 : decode cX4_kindOfWord 1 = .ok (.istore_n 1, 1) := by decide +kernel
theorem dX4_kindOfWord_2 : decode cX4_kindOfWord 2 = .ok (.iload_n 1, 1) := by decide +kernel
theorem dX4_kindOfWord_3 : decode cX4_kindOfWord 3 = .ok (.bipush 7, 2) := by decide +kernel
theorem dX4_kindOfWord_5 : decode cX4_kindOfWord 5 = .ok (.if_icmp .ge 22, 3) := by decide +kernel
theorem dX4_kindOfWord_8 : decode cX4_kindOfWord 8 = .ok (.aload_n 0, 1) := by decide +kernel
theorem dX4_kindOfWord_9 : decode cX4_kindOfWord 9 = .ok (.iload_n 1, 1) := by decide +kernel
theorem dX4_kindOfWord_10 : decode cX4_kindOfWord 10 = .ok (.invokestatic 137, 3) := by decide +kernel
theorem dX4_kindOfWord_13 : decode cX4_kindOfWord 13 = .ok (.invokevirtual 41, 3) := by decide +kernel
theorem dX4_kindOfWord_16 : decode cX4_kindOfWord 16 = .ok (.ifCond .eq 5, 3) := by decide +kernel
theorem dX4_kindOfWord_19 : decode cX4_kindOfWord 19 = .ok (.iload_n 1, 1) := by decide +kernel
theorem dX4_kindOfWord_20 : decode cX4_kindOfWord 20 = .ok (.ireturn, 1) := by decide +kernel
theorem dX4_kindOfWord_21 : decode cX4_kindOfWord 21 = .ok (.iinc 1 1, 3) := by decide +kernel
theorem dX4_kindOfWord_24 : decode cX4_kindOfWord 24 = .ok (.goto (-22), 3) := by decide +kernel
theorem dX4_kindOfWord_27 : decode cX4_kindOfWord 27 = .ok (.iconst (-1), 1) := by decide +kernel
theorem dX4_kindOfWord_28 : decode cX4_kindOfWord 28 = .ok (.ireturn, 1) := by decide +kernel
theorem dX4_nameOfKind_0 : decode cX4_nameOfKind 0 = .ok (.iload_n 0, 1) := by decide +kernel
theorem dX4_nameOfKind_1 : decode cX4_nameOfKind 1 = .ok (.tableswitch 57 1 6 #[39, 42, 45, 48, 51, 54], 39) := by decide +kernel
theorem dX4_nameOfKind_40 : decode cX4_nameOfKind 40 = .ok (.ldc 141, 2) := by decide +kernel
theorem dX4_nameOfKind_42 : decode cX4_nameOfKind 42 = .ok (.areturn, 1) := by decide +kernel
theorem dX4_nameOfKind_43 : decode cX4_nameOfKind 43 = .ok (.ldc 143, 2) := by decide +kernel
theorem dX4_nameOfKind_45 : decode cX4_nameOfKind 45 = .ok (.areturn, 1) := by decide +kernel
theorem dX4_nameOfKind_46 : decode cX4_nameOfKind 46 = .ok (.ldc 145, 2) := by decide +kernel
theorem dX4_nameOfKind_48 : decode cX4_nameOfKind 48 = .ok (.areturn, 1) := by decide +kernel
theorem dX4_nameOfKind_49 : decode cX4_nameOfKind 49 = .ok (.ldc 147, 2) := by decide +kernel
theorem dX4_nameOfKind_51 : decode cX4_nameOfKind 51 = .ok (.areturn, 1) := by decide +kernel
theorem dX4_nameOfKind_52 : decode cX4_nameOfKind 52 = .ok (.ldc 149, 2) := by decide +kernel
theorem dX4_nameOfKind_54 : decode cX4_nameOfKind 54 = .ok (.areturn, 1) := by decide +kernel
theorem dX4_nameOfKind_55 : decode cX4_nameOfKind 55 = .ok (.ldc 151, 2) := by decide +kernel
theorem dX4_nameOfKind_57 : decode cX4_nameOfKind 57 = .ok (.areturn, 1) := by decide +kernel
theorem dX4_nameOfKind_58 : decode cX4_nameOfKind 58 = .ok (.ldc 153, 2) := by decide +kernel
theorem dX4_nameOfKind_60 : decode cX4_nameOfKind 60 = .ok (.areturn, 1) := by decide +kernel
theorem dX4_goOn_0 : decode cX4_goOn 0 = .ok (.aload_n 0, 1) := by decide +kernel
theorem dX4_goOn_1 : decode cX4_goOn 1 = .ok (.aload_n 0, 1) := by decide +kernel
theorem dX4_goOn_2 : decode cX4_goOn 2 = .ok (.getfield 18, 3) := by decide +kernel
theorem dX4_goOn_5 : decode cX4_goOn 5 = .ok (.putfield 15, 3) := by decide +kernel
theorem dX4_goOn_8 : decode cX4_goOn 8 = .ok (.aload_n 0, 1) := by decide +kernel
theorem dX4_goOn_9 : decode cX4_goOn 9 = .ok (.getfield 15, 3) := by decide +kernel
theorem dX4_goOn_12 : decode cX4_goOn 12 = .ok (.aload_n 0, 1) := by decide +kernel
theorem dX4_goOn_13 : decode cX4_goOn 13 = .ok (.getfield 24, 3) := by decide +kernel
theorem dX4_goOn_16 : decode cX4_goOn 16 = .ok (.getfield 155, 3) := by decide +kernel
theorem dX4_goOn_19 : decode cX4_goOn 19 = .ok (.if_icmp .ge 33, 3) := by decide +kernel
theorem dX4_goOn_22 : decode cX4_goOn 22 = .ok (.aload_n 0, 1) := by decide +kernel
theorem dX4_goOn_23 : decode cX4_goOn 23 = .ok (.getfield 24, 3) := by decide +kernel
theorem dX4_goOn_26 : decode cX4_goOn 26 = .ok (.getfield 127, 3) := by decide +kernel
theorem dX4_goOn_29 : decode cX4_goOn 29 = .ok (.aload_n 0, 1) := by decide +kernel
theorem dX4_goOn_30 : decode cX4_goOn 30 = .ok (.getfield 15, 3) := by decide +kernel
theorem dX4_goOn_33 : decode cX4_goOn 33 = .ok (.iaload, 1) := by decide +kernel
theorem dX4_goOn_34 : decode cX4_goOn 34 = .ok (.bipush 32, 2) := by decide +kernel
theorem dX4_goOn_36 : decode cX4_goOn 36 = .ok (.if_icmp .ne 16, 3) := by decide +kernel
theorem dX4_goOn_39 : decode cX4_goOn 39 = .ok (.aload_n 0, 1) := by decide +kernel
theorem dX4_goOn_40 : decode cX4_goOn 40 = .ok (.dup, 1) := by decide +kernel
theorem dX4_goOn_41 : decode cX4_goOn 41 = .ok (.getfield 15, 3) := by decide +kernel
theorem dX4_goOn_44 : decode cX4_goOn 44 = .ok (.iconst 1, 1) := by decide +kernel
theorem dX4_goOn_45 : decode cX4_goOn 45 = .ok (.iadd, 1) := by decide +kernel
theorem dX4_goOn_46 : decode cX4_goOn 46 = .ok (.putfield 15, 3) := by decide +kernel
theorem dX4_goOn_49 : decode cX4_goOn 49 = .ok (.goto (-41), 3) := by decide +kernel
theorem dX4_goOn_52 : decode cX4_goOn 52 = .ok (.aload_n 0, 1) := by decide +kernel
theorem dX4_goOn_53 : decode cX4_goOn 53 = .ok (.aload_n 0, 1) := by decide +kernel
theorem dX4_goOn_54 : decode cX4_goOn 54 = .ok (.getfield 15, 3) := by decide +kernel
theorem dX4_goOn_57 : decode cX4_goOn 57 = .ok (.putfield 18, 3) := by decide +kernel
theorem dX4_goOn_60 : decode cX4_goOn 60 = .ok (.aload_n 0, 1) := by decide +kernel
theorem dX4_goOn_61 : decode cX4_goOn 61 = .ok (.aload_n 0, 1) := by decide +kernel
theorem dX4_goOn_62 : decode cX4_goOn 62 = .ok (.aload_n 0, 1) := by decide +kernel
theorem dX4_goOn_63 : decode cX4_goOn 63 = .ok (.getfield 15, 3) := by decide +kernel
theorem dX4_goOn_66 : decode cX4_goOn 66 = .ok (.invokevirtual 158, 3) := by decide +kernel
theorem dX4_goOn_69 : decode cX4_goOn 69 = .ok (.putfield 11, 3) := by decide +kernel
theorem dX4_goOn_72 : decode cX4_goOn 72 = .ok (.aload_n 0, 1) := by decide +kernel
theorem dX4_goOn_73 : decode cX4_goOn 73 = .ok (.getfield 11, 3) := by decide +kernel
theorem dX4_goOn_76 : decode cX4_goOn 76 = .ok (.ifCond .eq 13, 3) := by decide +kernel
theorem dX4_goOn_79 : decode cX4_goOn 79 = .ok (.aload_n 0, 1) := by decide +kernel
theorem dX4_goOn_80 : decode cX4_goOn 80 = .ok (.dup, 1) := by decide +kernel
theorem dX4_goOn_81 : decode cX4_goOn 81 = .ok (.getfield 18, 3) := by decide +kernel
theorem dX4_goOn_84 : decode cX4_goOn 84 = .ok (.iconst 1, 1) := by decide +kernel
theorem dX4_goOn_85 : decode cX4_goOn 85 = .ok (.iadd, 1) := by decide +kernel
theorem dX4_goOn_86 : decode cX4_goOn 86 = .ok (.putfield 18, 3) := by decide +kernel
theorem dX4_goOn_89 : decode cX4_goOn 89 = .ok (.aload_n 0, 1) := by decide +kernel
theorem dX4_goOn_90 : decode cX4_goOn 90 = .ok (.getfield 11, 3) := by decide +kernel
theorem dX4_goOn_93 : decode cX4_goOn 93 = .ok (.iconst 1, 1) := by decide +kernel
theorem dX4_goOn_94 : decode cX4_goOn 94 = .ok (.if_icmp .eq 11, 3) := by decide +kernel
theorem dX4_goOn_97 : decode cX4_goOn 97 = .ok (.aload_n 0, 1) := by decide +kernel
theorem dX4_goOn_98 : decode cX4_goOn 98 = .ok (.getfield 11, 3) := by decide +kernel
theorem dX4_goOn_101 : decode cX4_goOn 101 = .ok (.iconst 2, 1) := by decide +kernel
theorem dX4_goOn_102 : decode cX4_goOn 102 = .ok (.if_icmp .ne 45, 3) := by decide +kernel
theorem dX4_goOn_105 : decode cX4_goOn 105 = .ok (.aload_n 0, 1) := by decide +kernel
theorem dX4_goOn_106 : decode cX4_goOn 106 = .ok (.getfield 18, 3) := by decide +kernel
theorem dX4_goOn_109 : decode cX4_goOn 109 = .ok (.aload_n 0, 1) := by decide +kernel
theorem dX4_goOn_110 : decode cX4_goOn 110 = .ok (.getfield 24, 3) := by decide +kernel
theorem dX4_goOn_113 : decode cX4_goOn 113 = .ok (.getfield 155, 3) := by decide +kernel
theorem dX4_goOn_116 : decode cX4_goOn 116 = .ok (.if_icmp .ge 31, 3) := by decide +kernel
theorem dX4_goOn_119 : decode cX4_goOn 119 = .ok (.aload_n 0, 1) := by decide +kernel
theorem dX4_goOn_120 : decode cX4_goOn 120 = .ok (.aload_n 0, 1) := by decide +kernel
theorem dX4_goOn_121 : decode cX4_goOn 121 = .ok (.getfield 18, 3) := by decide +kernel
theorem dX4_goOn_124 : decode cX4_goOn 124 = .ok (.invokevirtual 158, 3) := by decide +kernel
theorem dX4_goOn_127 : decode cX4_goOn 127 = .ok (.aload_n 0, 1) := by decide +kernel
theorem dX4_goOn_128 : decode cX4_goOn 128 = .ok (.getfield 11, 3) := by decide +kernel
theorem dX4_goOn_131 : decode cX4_goOn 131 = .ok (.if_icmp .ne 16, 3) := by decide +kernel
theorem dX4_goOn_134 : decode cX4_goOn 134 = .ok (.aload_n 0, 1) := by decide +kernel
theorem dX4_goOn_135 : decode cX4_goOn 135 = .ok (.dup, 1) := by decide +kernel
theorem dX4_goOn_136 : decode cX4_goOn 136 = .ok (.getfield 18, 3) := by decide +kernel
theorem dX4_goOn_139 : decode cX4_goOn 139 = .ok (.iconst 1, 1) := by decide +kernel
theorem dX4_goOn_140 : decode cX4_goOn 140 = .ok (.iadd, 1) := by decide +kernel
theorem dX4_goOn_141 : decode cX4_goOn 141 = .ok (.putfield 18, 3) := by decide +kernel
theorem dX4_goOn_144 : decode cX4_goOn 144 = .ok (.goto (-39), 3) := by decide +kernel
theorem dX4_goOn_147 : decode cX4_goOn 147 = .ok (.aload_n 0, 1) := by decide +kernel
theorem dX4_goOn_148 : decode cX4_goOn 148 = .ok (.aload_n 0, 1) := by decide +kernel
theorem dX4_goOn_149 : decode cX4_goOn 149 = .ok (.getfield 11, 3) := by decide +kernel
theorem dX4_goOn_152 : decode cX4_goOn 152 = .ok (.iconst 2, 1) := by decide +kernel
theorem dX4_goOn_153 : decode cX4_goOn 153 = .ok (.if_icmp .ne 10, 3) := by decide +kernel
theorem dX4_goOn_156 : decode cX4_goOn 156 = .ok (.aload_n 0, 1) := by decide +kernel
theorem dX4_goOn_157 : decode cX4_goOn 157 = .ok (.invokevirtual 161, 3) := by decide +kernel
theorem dX4_goOn_160 : decode cX4_goOn 160 = .ok (.goto 4, 3) := by decide +kernel
theorem dX4_goOn_163 : decode cX4_goOn 163 = .ok (.iconst 0, 1) := by decide +kernel
theorem dX4_goOn_164 : decode cX4_goOn 164 = .ok (.putfield 21, 3) := by decide +kernel
theorem dX4_goOn_167 : decode cX4_goOn 167 = .ok (.return_, 1) := by decide +kernel
theorem dX4_tokenAt_0 : decode cX4_tokenAt 0 = .ok (.iload_n 1, 1) := by decide +kernel
theorem dX4_tokenAt_1 : decode cX4_tokenAt 1 = .ok (.ifCond .lt 14, 3) := by decide +kernel
theorem dX4_tokenAt_4 : decode cX4_tokenAt 4 = .ok (.iload_n 1, 1) := by decide +kernel
theorem dX4_tokenAt_5 : decode cX4_tokenAt 5 = .ok (.aload_n 0, 1) := by decide +kernel
theorem dX4_tokenAt_6 : decode cX4_tokenAt 6 = .ok (.getfield 24, 3) := by decide +kernel
theorem dX4_tokenAt_9 : decode cX4_tokenAt 9 = .ok (.getfield 155, 3) := by decide +kernel
theorem dX4_tokenAt_12 : decode cX4_tokenAt 12 = .ok (.if_icmp .lt 5, 3) := by decide +kernel
theorem dX4_tokenAt_15 : decode cX4_tokenAt 15 = .ok (.iconst 0, 1) := by decide +kernel
theorem dX4_tokenAt_16 : decode cX4_tokenAt 16 = .ok (.ireturn, 1) := by decide +kernel
theorem dX4_tokenAt_17 : decode cX4_tokenAt 17 = .ok (.aload_n 0, 1) := by decide +kernel
theorem dX4_tokenAt_18 : decode cX4_tokenAt 18 = .ok (.getfield 24, 3) := by decide +kernel
theorem dX4_tokenAt_21 : decode cX4_tokenAt 21 = .ok (.getfield 127, 3) := by decide +kernel
theorem dX4_tokenAt_24 : decode cX4_tokenAt 24 = .ok (.iload_n 1, 1) := by decide +kernel
theorem dX4_tokenAt_25 : decode cX4_tokenAt 25 = .ok (.iaload, 1) := by decide +kernel
theorem dX4_tokenAt_26 : decode cX4_tokenAt 26 = .ok (.istore_n 2, 1) := by decide +kernel
theorem dX4_tokenAt_27 : decode cX4_tokenAt 27 = .ok (.iload_n 2, 1) := by decide +kernel
theorem dX4_tokenAt_28 : decode cX4_tokenAt 28 = .ok (.bipush 97, 2) := by decide +kernel
theorem dX4_tokenAt_30 : decode cX4_tokenAt 30 = .ok (.if_icmp .lt 11, 3) := by decide +kernel
theorem dX4_tokenAt_33 : decode cX4_tokenAt 33 = .ok (.iload_n 2, 1) := by decide +kernel
theorem dX4_tokenAt_34 : decode cX4_tokenAt 34 = .ok (.bipush 122, 2) := by decide +kernel
theorem dX4_tokenAt_36 : decode cX4_tokenAt 36 = .ok (.if_icmp .gt 5, 3) := by decide +kernel
theorem dX4_tokenAt_39 : decode cX4_tokenAt 39 = .ok (.iconst 1, 1) := by decide +kernel
theorem dX4_tokenAt_40 : decode cX4_tokenAt 40 = .ok (.ireturn, 1) := by decide +kernel
theorem dX4_tokenAt_41 : decode cX4_tokenAt 41 = .ok (.iload_n 2, 1) := by decide +kernel
theorem dX4_tokenAt_42 : decode cX4_tokenAt 42 = .ok (.bipush 48, 2) := by decide +kernel
theorem dX4_tokenAt_44 : decode cX4_tokenAt 44 = .ok (.if_icmp .lt 11, 3) := by decide +kernel
theorem dX4_tokenAt_47 : decode cX4_tokenAt 47 = .ok (.iload_n 2, 1) := by decide +kernel
theorem dX4_tokenAt_48 : decode cX4_tokenAt 48 = .ok (.bipush 57, 2) := by decide +kernel
theorem dX4_tokenAt_50 : decode cX4_tokenAt 50 = .ok (.if_icmp .gt 5, 3) := by decide +kernel
theorem dX4_tokenAt_53 : decode cX4_tokenAt 53 = .ok (.iconst 2, 1) := by decide +kernel
theorem dX4_tokenAt_54 : decode cX4_tokenAt 54 = .ok (.ireturn, 1) := by decide +kernel
theorem dX4_tokenAt_55 : decode cX4_tokenAt 55 = .ok (.iload_n 2, 1) := by decide +kernel
theorem dX4_tokenAt_56 : decode cX4_tokenAt 56 = .ok (.bipush 59, 2) := by decide +kernel
theorem dX4_tokenAt_58 : decode cX4_tokenAt 58 = .ok (.if_icmp .ne 5, 3) := by decide +kernel
theorem dX4_tokenAt_61 : decode cX4_tokenAt 61 = .ok (.iconst 3, 1) := by decide +kernel
theorem dX4_tokenAt_62 : decode cX4_tokenAt 62 = .ok (.ireturn, 1) := by decide +kernel
theorem dX4_tokenAt_63 : decode cX4_tokenAt 63 = .ok (.iload_n 2, 1) := by decide +kernel
theorem dX4_tokenAt_64 : decode cX4_tokenAt 64 = .ok (.bipush 44, 2) := by decide +kernel
theorem dX4_tokenAt_66 : decode cX4_tokenAt 66 = .ok (.if_icmp .ne 7, 3) := by decide +kernel
theorem dX4_tokenAt_69 : decode cX4_tokenAt 69 = .ok (.iconst 4, 1) := by decide +kernel
theorem dX4_tokenAt_70 : decode cX4_tokenAt 70 = .ok (.goto 4, 3) := by decide +kernel
theorem dX4_tokenAt_73 : decode cX4_tokenAt 73 = .ok (.iconst 5, 1) := by decide +kernel
theorem dX4_tokenAt_74 : decode cX4_tokenAt 74 = .ok (.ireturn, 1) := by decide +kernel
theorem dX4_numberAtHand_0 : decode cX4_numberAtHand 0 = .ok (.iconst 0, 1) := by decide +kernel
theorem dX4_numberAtHand_1 : decode cX4_numberAtHand 1 = .ok (.istore_n 1, 1) := by decide +kernel
theorem dX4_numberAtHand_2 : decode cX4_numberAtHand 2 = .ok (.aload_n 0, 1) := by decide +kernel
theorem dX4_numberAtHand_3 : decode cX4_numberAtHand 3 = .ok (.getfield 15, 3) := by decide +kernel
theorem dX4_numberAtHand_6 : decode cX4_numberAtHand 6 = .ok (.istore_n 2, 1) := by decide +kernel
theorem dX4_numberAtHand_7 : decode cX4_numberAtHand 7 = .ok (.iload_n 2, 1) := by decide +kernel
theorem dX4_numberAtHand_8 : decode cX4_numberAtHand 8 = .ok (.aload_n 0, 1) := by decide +kernel
theorem dX4_numberAtHand_9 : decode cX4_numberAtHand 9 = .ok (.getfield 18, 3) := by decide +kernel
theorem dX4_numberAtHand_12 : decode cX4_numberAtHand 12 = .ok (.if_icmp .ge 34, 3) := by decide +kernel
theorem dX4_numberAtHand_15 : decode cX4_numberAtHand 15 = .ok (.iload_n 1, 1) := by decide +kernel
theorem dX4_numberAtHand_16 : decode cX4_numberAtHand 16 = .ok (.sipush 999, 3) := by decide +kernel
theorem dX4_numberAtHand_19 : decode cX4_numberAtHand 19 = .ok (.if_icmp .gt 27, 3) := by decide +kernel
theorem dX4_numberAtHand_22 : decode cX4_numberAtHand 22 = .ok (.iload_n 1, 1) := by decide +kernel
theorem dX4_numberAtHand_23 : decode cX4_numberAtHand 23 = .ok (.bipush 10, 2) := by decide +kernel
theorem dX4_numberAtHand_25 : decode cX4_numberAtHand 25 = .ok (.imul, 1) := by decide +kernel
theorem dX4_numberAtHand_26 : decode cX4_numberAtHand 26 = .ok (.aload_n 0, 1) := by decide +kernel
theorem dX4_numberAtHand_27 : decode cX4_numberAtHand 27 = .ok (.getfield 24, 3) := by decide +kernel
theorem dX4_numberAtHand_30 : decode cX4_numberAtHand 30 = .ok (.getfield 127, 3) := by decide +kernel
theorem dX4_numberAtHand_33 : decode cX4_numberAtHand 33 = .ok (.iload_n 2, 1) := by decide +kernel
theorem dX4_numberAtHand_34 : decode cX4_numberAtHand 34 = .ok (.iaload, 1) := by decide +kernel
theorem dX4_numberAtHand_35 : decode cX4_numberAtHand 35 = .ok (.iadd, 1) := by decide +kernel
theorem dX4_numberAtHand_36 : decode cX4_numberAtHand 36 = .ok (.bipush 48, 2) := by decide +kernel
theorem dX4_numberAtHand_38 : decode cX4_numberAtHand 38 = .ok (.isub, 1) := by decide +kernel
theorem dX4_numberAtHand_39 : decode cX4_numberAtHand 39 = .ok (.istore_n 1, 1) := by decide +kernel
theorem dX4_numberAtHand_40 : decode cX4_numberAtHand 40 = .ok (.iinc 2 1, 3) := by decide +kernel
theorem dX4_numberAtHand_43 : decode cX4_numberAtHand 43 = .ok (.goto (-36), 3) := by decide +kernel
theorem dX4_numberAtHand_46 : decode cX4_numberAtHand 46 = .ok (.iload_n 1, 1) := by decide +kernel
theorem dX4_numberAtHand_47 : decode cX4_numberAtHand 47 = .ok (.ireturn, 1) := by decide +kernel
end
section
theorem dX5_init_0 : decode cX5_init 0 = .ok (.aload_n 0, 1) := by decide +kernel
theorem dX5_init_1 : decode cX5_init 1 = .ok (.invokespecial 3, 3) := by decide +kernel
theorem dX5_init_4 : decode cX5_init 4 = .ok (.aload_n 0, 1) := by decide +kernel
theorem dX5_init_5 : decode cX5_init 5 = .ok (.bipush 7, 2) := by decide +kernel
theorem dX5_init_7 : decode cX5_init 7 = .ok (.putfield 9, 3) := by decide +kernel
theorem dX5_init_10 : decode cX5_init 10 = .ok (.aload_n 0, 1) := by decide +kernel
theorem dX5_init_11 : decode cX5_init 11 = .ok (.iconst (-1), 1) := by decide +kernel
theorem dX5_init_12 : decode cX5_init 12 = .ok (.putfield 15, 3) := by decide +kernel
theorem dX5_init_15 : decode cX5_init 15 = .ok (.aload_n 0, 1) := by decide +kernel
theorem dX5_init_16 : decode cX5_init 16 = .ok (.iconst 1, 1) := by decide +kernel
theorem dX5_init_17 : decode cX5_init 17 = .ok (.putfield 18, 3) := by decide +kernel
theorem dX5_init_20 : decode cX5_init 20 = .ok (.aload_n 0, 1) := by decide +kernel
theorem dX5_init_21 : decode cX5_init 21 = .ok (.iconst 0, 1) := by decide +kernel
theorem dX5_init_22 : decode cX5_init 22 = .ok (.putfield 21, 3) := by decide +kernel
theorem dX5_init_25 : decode cX5_init 25 = .ok (.aload_n 0, 1) := by decide +kernel
theorem dX5_init_26 : decode cX5_init 26 = .ok (.iconst 0, 1) := by decide +kernel
theorem dX5_init_27 : decode cX5_init 27 = .ok (.putfield 24, 3) := by decide +kernel
theorem dX5_init_30 : decode cX5_init 30 = .ok (.aload_n 0, 1) := by decide +kernel
theorem dX5_init_31 : decode cX5_init 31 = .ok (.iconst 0, 1) := by decide +kernel
theorem dX5_init_32 : decode cX5_init 32 = .ok (.putfield 27, 3) := by decide +kernel
theorem dX5_init_35 : decode cX5_init 35 = .ok (.aload_n 0, 1) := by decide +kernel
theorem dX5_init_36 : decode cX5_init 36 = .ok (.bipush 8, 2) := by decide +kernel
theorem dX5_init_38 : decode cX5_init 38 = .ok (.newarray .int, 2) := by decide +kernel
theorem dX5_init_40 : decode cX5_init 40 = .ok (.putfield 30, 3) := by decide +kernel
theorem dX5_init_43 : decode cX5_init 43 = .ok (.aload_n 0, 1) := by decide +kernel
theorem dX5_init_44 : decode cX5_init 44 = .ok (.bipush 8, 2) := by decide +kernel
theorem dX5_init_46 : decode cX5_init 46 = .ok (.newarray .int, 2) := by decide +kernel
theorem dX5_init_48 : decode cX5_init 48 = .ok (.putfield 34, 3) := by decide +kernel
theorem dX5_init_51 : decode cX5_init 51 = .ok (.aload_n 0, 1) := by decide +kernel
theorem dX5_init_52 : decode cX5_init 52 = .ok (.bipush 8, 2) := by decide +kernel
theorem dX5_init_54 : decode cX5_init 54 = .ok (.newarray .int, 2) := by decide +kernel
theorem dX5_init_56 : decode cX5_init 56 = .ok (.putfield 37, 3) := by decide +kernel
theorem dX5_init_59 : decode cX5_init 59 = .ok (.aload_n 0, 1) := by decide +kernel
theorem dX5_init_60 : decode cX5_init 60 = .ok (.sipush 192, 3) := by decide +kernel
theorem dX5_init_63 : decode cX5_init 63 = .ok (.newarray .int, 2) := by decide +kernel
theorem dX5_init_65 : decode cX5_init 65 = .ok (.putfield 40, 3) := by decide +kernel
theorem dX5_init_68 : decode cX5_init 68 = .ok (.aload_n 0, 1) := by decide +kernel
theorem dX5_init_69 : decode cX5_init 69 = .ok (.bipush 15, 2) := by decide +kernel
theorem dX5_init_71 : decode cX5_init 71 = .ok (.newarray .int, 2) := by decide +kernel
theorem dX5_init_73 : decode cX5_init 73 = .ok (.putfield 43, 3) := by decide +kernel
theorem dX5_init_76 : decode cX5_init 76 = .ok (.aload_n 0, 1) := by decide +kernel
theorem dX5_init_77 : decode cX5_init 77 = .ok (.bipush 10, 2) := by decide +kernel
theorem dX5_init_79 : decode cX5_init 79 = .ok (.newarray .int, 2) := by decide +kernel
theorem dX5_init_81 : decode cX5_init 81 = .ok (.putfield 46, 3) := by decide +kernel
theorem dX5_init_84 : decode cX5_init 84 = .ok (.iconst 0, 1) := by decide +kernel
theorem dX5_init_85 : decode cX5_init 85 = .ok (.istore_n 1, 1) := by decide +kernel
theorem dX5_init_86 : decode cX5_init 86 = .ok (.iload_n 1, 1) := by decide +kernel
theorem dX5_init_87 : decode cX5_init 87 = .ok (.bipush 10, 2) := by decide +kernel
theorem dX5_init_89 : decode cX5_init 89 = .ok (.if_icmp .ge 16, 3) := by decide +kernel
theorem dX5_init_92 : decode cX5_init 92 = .ok (.aload_n 0, 1) := by decide +kernel
theorem dX5_init_93 : decode cX5_init 93 = .ok (.getfield 46, 3) := by decide +kernel
theorem dX5_init_96 : decode cX5_init 96 = .ok (.iload_n 1, 1) := by decide +kernel
theorem dX5_init_97 : decode cX5_init 97 = .ok (.iconst (-1), 1) := by decide +kernel
theorem dX5_init_98 : decode cX5_init 98 = .ok (.iastore, 1) := by decide +kernel
theorem dX5_init_99 : decode cX5_init 99 = .ok (.iinc 1 1, 3) := by decide +kernel
theorem dX5_init_102 : decode cX5_init 102 = .ok (.goto (-16), 3) := by decide +kernel
theorem dX5_init_105 : decode cX5_init 105 = .ok (.return_, 1) := by decide +kernel
theorem dX5_takeFrom_0 : decode cX5_takeFrom 0 = .ok (.aload_n 0, 1) := by decide +kernel
theorem dX5_takeFrom_1 : decode cX5_takeFrom 1 = .ok (.aload_n 1, 1) := by decide +kernel
theorem dX5_takeFrom_2 : decode cX5_takeFrom 2 = .ok (.getfield 9, 3) := by decide +kernel
theorem dX5_takeFrom_5 : decode cX5_takeFrom 5 = .ok (.putfield 9, 3) := by decide +kernel
theorem dX5_takeFrom_8 : decode cX5_takeFrom 8 = .ok (.aload_n 0, 1) := by decide +kernel
theorem dX5_takeFrom_9 : decode cX5_takeFrom 9 = .ok (.aload_n 1, 1) := by decide +kernel
theorem dX5_takeFrom_10 : decode cX5_takeFrom 10 = .ok (.getfield 15, 3) := by decide +kernel
theorem dX5_takeFrom_13 : decode cX5_takeFrom 13 = .ok (.putfield 15, 3) := by decide +kernel
theorem dX5_takeFrom_16 : decode cX5_takeFrom 16 = .ok (.aload_n 0, 1) := by decide +kernel
theorem dX5_takeFrom_17 : decode cX5_takeFrom 17 = .ok (.aload_n 1, 1) := by decide +kernel
theorem dX5_takeFrom_18 : decode cX5_takeFrom 18 = .ok (.getfield 18, 3) := by decide +kernel
theorem dX5_takeFrom_21 : decode cX5_takeFrom 21 = .ok (.putfield 18, 3) := by decide +kernel
theorem dX5_takeFrom_24 : decode cX5_takeFrom 24 = .ok (.aload_n 0, 1) := by decide +kernel
theorem dX5_takeFrom_25 : decode cX5_takeFrom 25 = .ok (.aload_n 1, 1) := by decide +kernel
theorem dX5_takeFrom_26 : decode cX5_takeFrom 26 = .ok (.getfield 21, 3) := by decide +kernel
theorem dX5_takeFrom_29 : decode cX5_takeFrom 29 = .ok (.putfield 21, 3) := by decide +kernel
theorem dX5_takeFrom_32 : decode cX5_takeFrom 32 = .ok (.aload_n 0, 1) := by decide +kernel
theorem dX5_takeFrom_33 : decode cX5_takeFrom 33 = .ok (.aload_n 1, 1) := by decide +kernel
theorem dX5_takeFrom_34 : decode cX5_takeFrom 34 = .ok (.getfield 24, 3) := by decide +kernel
theorem dX5_takeFrom_37 : decode cX5_takeFrom 37 = .ok (.putfield 24, 3) := by decide +kernel
theorem dX5_takeFrom_40 : decode cX5_takeFrom 40 = .ok (.aload_n 0, 1) := by decide +kernel
theorem dX5_takeFrom_41 : decode cX5_takeFrom 41 = .ok (.aload_n 1, 1) := by decide +kernel
theorem dX5_takeFrom_42 : decode cX5_takeFrom 42 = .ok (.getfield 27, 3) := by decide +kernel
theorem dX5_takeFrom_45 : decode cX5_takeFrom 45 = .ok (.putfield 27, 3) := by decide +kernel
theorem dX5_takeFrom_48 : decode cX5_takeFrom 48 = .ok (.aload_n 1, 1) := by decide +kernel
theorem dX5_takeFrom_49 : decode cX5_takeFrom 49 = .ok (.getfield 30, 3) := by decide +kernel
theorem dX5_takeFrom_52 : decode cX5_takeFrom 52 = .ok (.iconst 0, 1) := by decide +kernel
theorem dX5_takeFrom_53 : decode cX5_takeFrom 53 = .ok (.aload_n 0, 1) := by decide +kernel
theorem dX5_takeFrom_54 : decode cX5_takeFrom 54 = .ok (.getfield 30, 3) := by decide +kernel
theorem dX5_takeFrom_57 : decode cX5_takeFrom 57 = .ok (.iconst 0, 1) := by decide +kernel
theorem dX5_takeFrom_58 : decode cX5_takeFrom 58 = .ok (.bipush 8, 2) := by decide +kernel
theorem dX5_takeFrom_60 : decode cX5_takeFrom 60 = .ok (.invokestatic 49, 3) := by decide +kernel
theorem dX5_takeFrom_63 : decode cX5_takeFrom 63 = .ok (.aload_n 1, 1) := by decide +kernel
theorem dX5_takeFrom_64 : decode cX5_takeFrom 64 = .ok (.getfield 34, 3) := by decide +kernel
theorem dX5_takeFrom_67 : decode cX5_takeFrom 67 = .ok (.iconst 0, 1) := by decide +kernel
theorem dX5_takeFrom_68 : decode cX5_takeFrom 68 = .ok (.aload_n 0, 1) := by decide +kernel
theorem dX5_takeFrom_69 : decode cX5_takeFrom 69 = .ok (.getfield 34, 3) := by decide +kernel
theorem dX5_takeFrom_72 : decode cX5_takeFrom 72 = .ok (.iconst 0, 1) := by decide +kernel
theorem dX5_takeFrom_73 : decode cX5_takeFrom 73 = .ok (.bipush 8, 2) := by decide +kernel
theorem dX5_takeFrom_75 : decode cX5_takeFrom 75 = .ok (.invokestatic 49, 3) := by decide +kernel
theorem dX5_takeFrom_78 : decode cX5_takeFrom 78 = .ok (.aload_n 1, 1) := by decide +kernel
theorem dX5_takeFrom_79 : decode cX5_takeFrom 79 = .ok (.getfield 37, 3) := by decide +kernel
theorem dX5_takeFrom_82 : decode cX5_takeFrom 82 = .ok (.iconst 0, 1) := by decide +kernel
theorem dX5_takeFrom_83 : decode cX5_takeFrom 83 = .ok (.aload_n 0, 1) := by decide +kernel
theorem dX5_takeFrom_84 : decode cX5_takeFrom 84 = .ok (.getfield 37, 3) := by decide +kernel
theorem dX5_takeFrom_87 : decode cX5_takeFrom 87 = .ok (.iconst 0, 1) := by decide +kernel
theorem dX5_takeFrom_88 : decode cX5_takeFrom 88 = .ok (.bipush 8, 2) := by decide +kernel
theorem dX5_takeFrom_90 : decode cX5_takeFrom 90 = .ok (.invokestatic 49, 3) := by decide +kernel
theorem dX5_takeFrom_93 : decode cX5_takeFrom 93 = .ok (.aload_n 1, 1) := by decide +kernel
theorem dX5_takeFrom_94 : decode cX5_takeFrom 94 = .ok (.getfield 40, 3) := by decide +kernel
theorem dX5_takeFrom_97 : decode cX5_takeFrom 97 = .ok (.iconst 0, 1) := by decide +kernel
theorem dX5_takeFrom_98 : decode cX5_takeFrom 98 = .ok (.aload_n 0, 1) := by decide +kernel
theorem dX5_takeFrom_99 : decode cX5_takeFrom 99 = .ok (.getfield 40, 3) := by decide +kernel
theorem dX5_takeFrom_102 : decode cX5_takeFrom 102 = .ok (.iconst 0, 1) := by decide +kernel
theorem dX5_takeFrom_103 : decode cX5_takeFrom 103 = .ok (.sipush 192, 3) := by decide +kernel
theorem dX5_takeFrom_106 : decode cX5_takeFrom 106 = .ok (.invokestatic 49, 3) := by decide +kernel
theorem dX5_takeFrom_109 : decode cX5_takeFrom 109 = .ok (.aload_n 1, 1) := by decide +kernel
theorem dX5_takeFrom_110 : decode cX5_takeFrom 110 = .ok (.getfield 43, 3) := by decide +kernel
theorem dX5_takeFrom_113 : decode cX5_takeFrom 113 = .ok (.iconst 0, 1) := by decide +kernel
theorem dX5_takeFrom_114 : decode cX5_takeFrom 114 = .ok (.aload_n 0, 1) := by decide +kernel
theorem dX5_takeFrom_115 : decode cX5_takeFrom 115 = .ok (.getfield 43, 3) := by decide +kernel
theorem dX5_takeFrom_118 : decode cX5_takeFrom 118 = .ok (.iconst 0, 1) := by decide +kernel
theorem dX5_takeFrom_119 : decode cX5_takeFrom 119 = .ok (.bipush 15, 2) := by decide +kernel
theorem dX5_takeFrom_121 : decode cX5_takeFrom 121 = .ok (.invokestatic 49, 3) := by decide +kernel
theorem dX5_takeFrom_124 : decode cX5_takeFrom 124 = .ok (.aload_n 1, 1) := by decide +kernel
theorem dX5_takeFrom_125 : decode cX5_takeFrom 125 = .ok (.getfield 46, 3) := by decide +kernel
theorem dX5_takeFrom_128 : decode cX5_takeFrom 128 = .ok (.iconst 0, 1) := by decide +kernel
theorem dX5_takeFrom_129 : decode cX5_takeFrom 129 = .ok (.aload_n 0, 1) := by decide +kernel
theorem dX5_takeFrom_130 : decode cX5_takeFrom 130 = .ok (.getfield 46, 3) := by decide +kernel
theorem dX5_takeFrom_133 : decode cX5_takeFrom 133 = .ok (.iconst 0, 1) := by decide +kernel
theorem dX5_takeFrom_134 : decode cX5_takeFrom 134 = .ok (.bipush 10, 2) := by decide +kernel
theorem dX5_takeFrom_136 : decode cX5_takeFrom 136 = .ok (.invokestatic 49, 3) := by decide +kernel
theorem dX5_takeFrom_139 : decode cX5_takeFrom 139 = .ok (.return_, 1) := by decide +kernel
theorem dX5_hasTool_0 : decode cX5_hasTool 0 = .ok (.iload_n 1, 1) := by decide +kernel
theorem dX5_hasTool_1 : decode cX5_hasTool 1 = .ok (.iconst 0, 1) := by decide +kernel
theorem dX5_hasTool_2 : decode cX5_hasTool 2 = .ok (.aload_n 0, 1) := by decide +kernel
theorem dX5_hasTool_3 : decode cX5_hasTool 3 = .ok (.getfield 21, 3) := by decide +kernel
theorem dX5_hasTool_6 : decode cX5_hasTool 6 = .ok (.iconst 1, 1) := by decide +kernel
theorem dX5_hasTool_7 : decode cX5_hasTool 7 = .ok (.isub, 1) := by decide +kernel
theorem dX5_hasTool_8 : decode cX5_hasTool 8 = .ok (.invokestatic 55, 3) := by decide +kernel
theorem dX5_hasTool_11 : decode cX5_hasTool 11 = .ok (.ireturn, 1) := by decide +kernel
theorem dX5_hasThing_0 : decode cX5_hasThing 0 = .ok (.iload_n 1, 1) := by decide +kernel
theorem dX5_hasThing_1 : decode cX5_hasThing 1 = .ok (.iconst 0, 1) := by decide +kernel
theorem dX5_hasThing_2 : decode cX5_hasThing 2 = .ok (.aload_n 0, 1) := by decide +kernel
theorem dX5_hasThing_3 : decode cX5_hasThing 3 = .ok (.getfield 24, 3) := by decide +kernel
theorem dX5_hasThing_6 : decode cX5_hasThing 6 = .ok (.iconst 1, 1) := by decide +kernel
theorem dX5_hasThing_7 : decode cX5_hasThing 7 = .ok (.isub, 1) := by decide +kernel
theorem dX5_hasThing_8 : decode cX5_hasThing 8 = .ok (.invokestatic 55, 3) := by decide +kernel
theorem dX5_hasThing_11 : decode cX5_hasThing 11 = .ok (.ireturn, 1) := by decide +kernel
theorem dX5_hasStep_0 : decode cX5_hasStep 0 = .ok (.aload_n 0, 1) := by decide +kernel
theorem dX5_hasStep_1 : decode cX5_hasStep 1 = .ok (.iload_n 1, 1) := by decide +kernel
theorem dX5_hasStep_2 : decode cX5_hasStep 2 = .ok (.invokevirtual 59, 3) := by decide +kernel
theorem dX5_hasStep_5 : decode cX5_hasStep 5 = .ok (.ifCond .eq 23, 3) := by decide +kernel
theorem dX5_hasStep_8 : decode cX5_hasStep 8 = .ok (.iload_n 2, 1) := by decide +kernel
theorem dX5_hasStep_9 : decode cX5_hasStep 9 = .ok (.iconst 0, 1) := by decide +kernel
theorem dX5_hasStep_10 : decode cX5_hasStep 10 = .ok (.aload_n 0, 1) := by decide +kernel
theorem dX5_hasStep_11 : decode cX5_hasStep 11 = .ok (.getfield 37, 3) := by decide +kernel
theorem dX5_hasStep_14 : decode cX5_hasStep 14 = .ok (.iload_n 1, 1) := by decide +kernel
theorem dX5_hasStep_15 : decode cX5_hasStep 15 = .ok (.iaload, 1) := by decide +kernel
theorem dX5_hasStep_16 : decode cX5_hasStep 16 = .ok (.iconst 1, 1) := by decide +kernel
theorem dX5_hasStep_17 : decode cX5_hasStep 17 = .ok (.isub, 1) := by decide +kernel
theorem dX5_hasStep_18 : decode cX5_hasStep 18 = .ok (.invokestatic 55, 3) := by decide +kernel
theorem dX5_hasStep_21 : decode cX5_hasStep 21 = .ok (.ifCond .eq 7, 3) := by decide +kernel
theorem dX5_hasStep_24 : decode cX5_hasStep 24 = .ok (.iconst 1, 1) := by decide +kernel
theorem dX5_hasStep_25 : decode cX5_hasStep 25 = .ok (.goto 4, 3) := by decide +kernel
theorem dX5_hasStep_28 : decode cX5_hasStep 28 = .ok (.iconst 0, 1) := by decide +kernel
theorem dX5_hasStep_29 : decode cX5_hasStep 29 = .ok (.ireturn, 1) := by decide +kernel
theorem dX5_allowsInStep_0 : decode cX5_allowsInStep 0 = .ok (.iload_n 1, 1) := by decide +kernel
theorem dX5_allowsInStep_1 : decode cX5_allowsInStep 1 = .ok (.lookupswitch 41 #[(0, 27), (1, 33)], 27) := by decide +kernel
theorem dX5_allowsInStep_28 : decode cX5_allowsInStep 28 = .ok (.aload_n 0, 1) := by decide +kernel
theorem dX5_allowsInStep_29 : decode cX5_allowsInStep 29 = .ok (.iload_n 2, 1) := by decide +kernel
theorem dX5_allowsInStep_30 : decode cX5_allowsInStep 30 = .ok (.invokevirtual 63, 3) := by decide +kernel
theorem dX5_allowsInStep_33 : decode cX5_allowsInStep 33 = .ok (.ireturn, 1) := by decide +kernel
theorem dX5_allowsInStep_34 : decode cX5_allowsInStep 34 = .ok (.iload_n 2, 1) := by decide +kernel
theorem dX5_allowsInStep_35 : decode cX5_allowsInStep 35 = .ok (.iconst 1, 1) := by decide +kernel
theorem dX5_allowsInStep_36 : decode cX5_allowsInStep 36 = .ok (.bipush 8, 2) := by decide +kernel
theorem dX5_allowsInStep_38 : decode cX5_allowsInStep 38 = .ok (.invokestatic 55, 3) := by decide +kernel
theorem dX5_allowsInStep_41 : decode cX5_allowsInStep 41 = .ok (.ireturn, 1) := by decide +kernel
theorem dX5_allowsInStep_42 : decode cX5_allowsInStep 42 = .ok (.iload_n 2, 1) := by decide +kernel
theorem dX5_allowsInStep_43 : decode cX5_allowsInStep 43 = .ok (.iconst 0, 1) := by decide +kernel
theorem dX5_allowsInStep_44 : decode cX5_allowsInStep 44 = .ok (.bipush 99, 2) := by decide +kernel
theorem dX5_allowsInStep_46 : decode cX5_allowsInStep 46 = .ok (.invokestatic 55, 3) := by decide +kernel
theorem dX5_allowsInStep_49 : decode cX5_allowsInStep 49 = .ok (.ireturn, 1) := by decide +kernel
theorem dX5_addTool_0 : decode cX5_addTool 0 = .ok (.aload_n 0, 1) := by decide +kernel
theorem dX5_addTool_1 : decode cX5_addTool 1 = .ok (.getfield 21, 3) := by decide +kernel
theorem dX5_addTool_4 : decode cX5_addTool 4 = .ok (.bipush 8, 2) := by decide +kernel
theorem dX5_addTool_6 : decode cX5_addTool 6 = .ok (.if_icmp .lt 5, 3) := by decide +kernel
theorem dX5_addTool_9 : decode cX5_addTool 9 = .ok (.iconst (-1), 1) := by decide +kernel
theorem dX5_addTool_10 : decode cX5_addTool 10 = .ok (.ireturn, 1) := by decide +kernel
theorem dX5_addTool_11 : decode cX5_addTool 11 = .ok (.aload_n 0, 1) := by decide +kernel
theorem dX5_addTool_12 : decode cX5_addTool 12 = .ok (.getfield 30, 3) := by decide +kernel
theorem dX5_addTool_15 : decode cX5_addTool 15 = .ok (.aload_n 0, 1) := by decide +kernel
theorem dX5_addTool_16 : decode cX5_addTool 16 = .ok (.getfield 21, 3) := by decide +kernel
theorem dX5_addTool_19 : decode cX5_addTool 19 = .ok (.iload_n 1, 1) := by decide +kernel
theorem dX5_addTool_20 : decode cX5_addTool 20 = .ok (.iastore, 1) := by decide +kernel
theorem dX5_addTool_21 : decode cX5_addTool 21 = .ok (.aload_n 0, 1) := by decide +kernel
theorem dX5_addTool_22 : decode cX5_addTool 22 = .ok (.dup, 1) := by decide +kernel
theorem dX5_addTool_23 : decode cX5_addTool 23 = .ok (.getfield 21, 3) := by decide +kernel
theorem dX5_addTool_26 : decode cX5_addTool 26 = .ok (.iconst 1, 1) := by decide +kernel
theorem dX5_addTool_27 : decode cX5_addTool 27 = .ok (.iadd, 1) := by decide +kernel
theorem dX5_addTool_28 : decode cX5_addTool 28 = .ok (.putfield 21, 3) := by decide +kernel
theorem dX5_addTool_31 : decode cX5_addTool 31 = .ok (.aload_n 0, 1) := by decide +kernel
theorem dX5_addTool_32 : decode cX5_addTool 32 = .ok (.getfield 21, 3) := by decide +kernel
theorem dX5_addTool_35 : decode cX5_addTool 35 = .ok (.iconst 1, 1) := by decide +kernel
theorem dX5_addTool_36 : decode cX5_addTool 36 = .ok (.isub, 1) := by decide +kernel
theorem dX5_addTool_37 : decode cX5_addTool 37 = .ok (.ireturn, 1) := by decide +kernel
theorem dX5_addThing_0 : decode cX5_addThing 0 = .ok (.aload_n 0, 1) := by decide +kernel
theorem dX5_addThing_1 : decode cX5_addThing 1 = .ok (.getfield 24, 3) := by decide +kernel
theorem dX5_addThing_4 : decode cX5_addThing 4 = .ok (.bipush 8, 2) := by decide +kernel
theorem dX5_addThing_6 : decode cX5_addThing 6 = .ok (.if_icmp .lt 5, 3) := by decide +kernel
theorem dX5_addThing_9 : decode cX5_addThing 9 = .ok (.iconst (-1), 1) := by decide +kernel
theorem dX5_addThing_10 : decode cX5_addThing 10 = .ok (.ireturn, 1) := by decide +kernel
theorem dX5_addThing_11 : decode cX5_addThing 11 = .ok (.aload_n 0, 1) := by decide +kernel
theorem dX5_addThing_12 : decode cX5_addThing 12 = .ok (.getfield 34, 3) := by decide +kernel
theorem dX5_addThing_15 : decode cX5_addThing 15 = .ok (.aload_n 0, 1) := by decide +kernel
theorem dX5_addThing_16 : decode cX5_addThing 16 = .ok (.getfield 24, 3) := by decide +kernel
theorem dX5_addThing_19 : decode cX5_addThing 19 = .ok (.iload_n 1, 1) := by decide +kernel
theorem dX5_addThing_20 : decode cX5_addThing 20 = .ok (.iastore, 1) := by decide +kernel
theorem dX5_addThing_21 : decode cX5_addThing 21 = .ok (.aload_n 0, 1) := by decide +kernel
theorem dX5_addThing_22 : decode cX5_addThing 22 = .ok (.getfield 37, 3) := by decide +kernel
theorem dX5_addThing_25 : decode cX5_addThing 25 = .ok (.aload_n 0, 1) := by decide +kernel
theorem dX5_addThing_26 : decode cX5_addThing 26 = .ok (.getfield 24, 3) := by decide +kernel
theorem dX5_addThing_29 : decode cX5_addThing 29 = .ok (.iconst 0, 1) := by decide +kernel
theorem dX5_addThing_30 : decode cX5_addThing 30 = .ok (.iastore, 1) := by decide +kernel
theorem dX5_addThing_31 : decode cX5_addThing 31 = .ok (.aload_n 0, 1) := by decide +kernel
theorem dX5_addThing_32 : decode cX5_addThing 32 = .ok (.dup, 1) := by decide +kernel
theorem dX5_addThing_33 : decode cX5_addThing 33 = .ok (.getfield 24, 3) := by decide +kernel
theorem dX5_addThing_36 : decode cX5_addThing 36 = .ok (.iconst 1, 1) := by decide +kernel
theorem dX5_addThing_37 : decode cX5_addThing 37 = .ok (.iadd, 1) := by decide +kernel
theorem dX5_addThing_38 : decode cX5_addThing 38 = .ok (.putfield 24, 3) := by decide +kernel
theorem dX5_addThing_41 : decode cX5_addThing 41 = .ok (.aload_n 0, 1) := by decide +kernel
theorem dX5_addThing_42 : decode cX5_addThing 42 = .ok (.getfield 24, 3) := by decide +kernel
theorem dX5_addThing_45 : decode cX5_addThing 45 = .ok (.iconst 1, 1) := by decide +kernel
theorem dX5_addThing_46 : decode cX5_addThing 46 = .ok (.isub, 1) := by decide +kernel
theorem dX5_addThing_47 : decode cX5_addThing 47 = .ok (.ireturn, 1) := by decide +kernel
theorem dX5_addStep_0 : decode cX5_addStep 0 = .ok (.aload_n 0, 1) := by decide +kernel
theorem dX5_addStep_1 : decode cX5_addStep 1 = .ok (.iload_n 1, 1) := by decide +kernel
theorem dX5_addStep_2 : decode cX5_addStep 2 = .ok (.invokevirtual 59, 3) := by decide +kernel
theorem dX5_addStep_5 : decode cX5_addStep 5 = .ok (.ifCond .eq 14, 3) := by decide +kernel
theorem dX5_addStep_8 : decode cX5_addStep 8 = .ok (.aload_n 0, 1) := by decide +kernel
theorem dX5_addStep_9 : decode cX5_addStep 9 = .ok (.getfield 37, 3) := by decide +kernel
theorem dX5_addStep_12 : decode cX5_addStep 12 = .ok (.iload_n 1, 1) := by decide +kernel
theorem dX5_addStep_13 : decode cX5_addStep 13 = .ok (.iaload, 1) := by decide +kernel
theorem dX5_addStep_14 : decode cX5_addStep 14 = .ok (.bipush 8, 2) := by decide +kernel
theorem dX5_addStep_16 : decode cX5_addStep 16 = .ok (.if_icmp .lt 5, 3) := by decide +kernel
theorem dX5_addStep_19 : decode cX5_addStep 19 = .ok (.iconst (-1), 1) := by decide +kernel
theorem dX5_addStep_20 : decode cX5_addStep 20 = .ok (.ireturn, 1) := by decide +kernel
theorem dX5_addStep_21 : decode cX5_addStep 21 = .ok (.aload_n 0, 1) := by decide +kernel
theorem dX5_addStep_22 : decode cX5_addStep 22 = .ok (.getfield 37, 3) := by decide +kernel
theorem dX5_addStep_25 : decode cX5_addStep 25 = .ok (.iload_n 1, 1) := by decide +kernel
theorem dX5_addStep_26 : decode cX5_addStep 26 = .ok (.iaload, 1) := by decide +kernel
theorem dX5_addStep_27 : decode cX5_addStep 27 = .ok (.istore 5, 2) := by decide +kernel
theorem dX5_addStep_29 : decode cX5_addStep 29 = .ok (.aload_n 0, 1) := by decide +kernel
theorem dX5_addStep_30 : decode cX5_addStep 30 = .ok (.iload_n 1, 1) := by decide +kernel
theorem dX5_addStep_31 : decode cX5_addStep 31 = .ok (.iload 5, 2) := by decide +kernel
theorem dX5_addStep_33 : decode cX5_addStep 33 = .ok (.iconst 0, 1) := by decide +kernel
theorem dX5_addStep_34 : decode cX5_addStep 34 = .ok (.iload_n 2, 1) := by decide +kernel
theorem dX5_addStep_35 : decode cX5_addStep 35 = .ok (.invokevirtual 66, 3) := by decide +kernel
theorem dX5_addStep_38 : decode cX5_addStep 38 = .ok (.aload_n 0, 1) := by decide +kernel
theorem dX5_addStep_39 : decode cX5_addStep 39 = .ok (.iload_n 1, 1) := by decide +kernel
theorem dX5_addStep_40 : decode cX5_addStep 40 = .ok (.iload 5, 2) := by decide +kernel
theorem dX5_addStep_42 : decode cX5_addStep 42 = .ok (.iconst 1, 1) := by decide +kernel
theorem dX5_addStep_43 : decode cX5_addStep 43 = .ok (.iload_n 3, 1) := by decide +kernel
theorem dX5_addStep_44 : decode cX5_addStep 44 = .ok (.invokevirtual 66, 3) := by decide +kernel
theorem dX5_addStep_47 : decode cX5_addStep 47 = .ok (.aload_n 0, 1) := by decide +kernel
theorem dX5_addStep_48 : decode cX5_addStep 48 = .ok (.iload_n 1, 1) := by decide +kernel
theorem dX5_addStep_49 : decode cX5_addStep 49 = .ok (.iload 5, 2) := by decide +kernel
theorem dX5_addStep_51 : decode cX5_addStep 51 = .ok (.iconst 2, 1) := by decide +kernel
theorem dX5_addStep_52 : decode cX5_addStep 52 = .ok (.iload 4, 2) := by decide +kernel
theorem dX5_addStep_54 : decode cX5_addStep 54 = .ok (.invokevirtual 66, 3) := by decide +kernel
theorem dX5_addStep_57 : decode cX5_addStep 57 = .ok (.aload_n 0, 1) := by decide +kernel
theorem dX5_addStep_58 : decode cX5_addStep 58 = .ok (.getfield 37, 3) := by decide +kernel
theorem dX5_addStep_61 : decode cX5_addStep 61 = .ok (.iload_n 1, 1) := by decide +kernel
theorem dX5_addStep_62 : decode cX5_addStep 62 = .ok (.iload 5, 2) := by decide +kernel
theorem dX5_addStep_64 : decode cX5_addStep 64 = .ok (.iconst 1, 1) := by decide +kernel
theorem dX5_addStep_65 : decode cX5_addStep 65 = .ok (.iadd, 1) := by decide +kernel
theorem dX5_addStep_66 : decode cX5_addStep 66 = .ok (.iastore, 1) := by decide +kernel
theorem dX5_addStep_67 : decode cX5_addStep 67 = .ok (.iload 5, 2) := by decide +kernel
theorem dX5_addStep_69 : decode cX5_addStep 69 = .ok (.iconst 1, 1) := by decide +kernel
theorem dX5_addStep_70 : decode cX5_addStep 70 = .ok (.iadd, 1) := by decide +kernel
theorem dX5_addStep_71 : decode cX5_addStep 71 = .ok (.ireturn, 1) := by decide +kernel
theorem dX5_addOrder_0 : decode cX5_addOrder 0 = .ok (.aload_n 0, 1) := by decide +kernel
theorem dX5_addOrder_1 : decode cX5_addOrder 1 = .ok (.getfield 27, 3) := by decide +kernel
theorem dX5_addOrder_4 : decode cX5_addOrder 4 = .ok (.iconst 5, 1) := by decide +kernel
theorem dX5_addOrder_5 : decode cX5_addOrder 5 = .ok (.if_icmp .lt 5, 3) := by decide +kernel
theorem dX5_addOrder_8 : decode cX5_addOrder 8 = .ok (.iconst (-1), 1) := by decide +kernel
theorem dX5_addOrder_9 : decode cX5_addOrder 9 = .ok (.ireturn, 1) := by decide +kernel
theorem dX5_addOrder_10 : decode cX5_addOrder 10 = .ok (.aload_n 0, 1) := by decide +kernel
theorem dX5_addOrder_11 : decode cX5_addOrder 11 = .ok (.getfield 27, 3) := by decide +kernel
theorem dX5_addOrder_14 : decode cX5_addOrder 14 = .ok (.iconst 3, 1) := by decide +kernel
theorem dX5_addOrder_15 : decode cX5_addOrder 15 = .ok (.imul, 1) := by decide +kernel
theorem dX5_addOrder_16 : decode cX5_addOrder 16 = .ok (.istore 4, 2) := by decide +kernel
theorem dX5_addOrder_18 : decode cX5_addOrder 18 = .ok (.aload_n 0, 1) := by decide +kernel
theorem dX5_addOrder_19 : decode cX5_addOrder 19 = .ok (.getfield 43, 3) := by decide +kernel
theorem dX5_addOrder_22 : decode cX5_addOrder 22 = .ok (.iload 4, 2) := by decide +kernel
theorem dX5_addOrder_24 : decode cX5_addOrder 24 = .ok (.iconst 0, 1) := by decide +kernel
theorem dX5_addOrder_25 : decode cX5_addOrder 25 = .ok (.iadd, 1) := by decide +kernel
theorem dX5_addOrder_26 : decode cX5_addOrder 26 = .ok (.iload_n 1, 1) := by decide +kernel
theorem dX5_addOrder_27 : decode cX5_addOrder 27 = .ok (.iastore, 1) := by decide +kernel
theorem dX5_addOrder_28 : decode cX5_addOrder 28 = .ok (.aload_n 0, 1) := by decide +kernel
theorem dX5_addOrder_29 : decode cX5_addOrder 29 = .ok (.getfield 43, 3) := by decide +kernel
theorem dX5_addOrder_32 : decode cX5_addOrder 32 = .ok (.iload 4, 2) := by decide +kernel
theorem dX5_addOrder_34 : decode cX5_addOrder 34 = .ok (.iconst 1, 1) := by decide +kernel
theorem dX5_addOrder_35 : decode cX5_addOrder 35 = .ok (.iadd, 1) := by decide +kernel
theorem dX5_addOrder_36 : decode cX5_addOrder 36 = .ok (.iload_n 2, 1) := by decide +kernel
theorem dX5_addOrder_37 : decode cX5_addOrder 37 = .ok (.iastore, 1) := by decide +kernel
theorem dX5_addOrder_38 : decode cX5_addOrder 38 = .ok (.aload_n 0, 1) := by decide +kernel
theorem dX5_addOrder_39 : decode cX5_addOrder 39 = .ok (.getfield 43, 3) := by decide +kernel
theorem dX5_addOrder_42 : decode cX5_addOrder 42 = .ok (.iload 4, 2) := by decide +kernel
theorem dX5_addOrder_44 : decode cX5_addOrder 44 = .ok (.iconst 2, 1) := by decide +kernel
theorem dX5_addOrder_45 : decode cX5_addOrder 45 = .ok (.iadd, 1) := by decide +kernel
theorem dX5_addOrder_46 : decode cX5_addOrder 46 = .ok (.iload_n 3, 1) := by decide +kernel
theorem dX5_addOrder_47 : decode cX5_addOrder 47 = .ok (.iastore, 1) := by decide +kernel
theorem dX5_addOrder_48 : decode cX5_addOrder 48 = .ok (.aload_n 0, 1) := by decide +kernel
theorem dX5_addOrder_49 : decode cX5_addOrder 49 = .ok (.dup, 1) := by decide +kernel
theorem dX5_addOrder_50 : decode cX5_addOrder 50 = .ok (.getfield 27, 3) := by decide +kernel
theorem dX5_addOrder_53 : decode cX5_addOrder 53 = .ok (.iconst 1, 1) := by decide +kernel
theorem dX5_addOrder_54 : decode cX5_addOrder 54 = .ok (.iadd, 1) := by decide +kernel
theorem dX5_addOrder_55 : decode cX5_addOrder 55 = .ok (.putfield 27, 3) := by decide +kernel
theorem dX5_addOrder_58 : decode cX5_addOrder 58 = .ok (.aload_n 0, 1) := by decide +kernel
theorem dX5_addOrder_59 : decode cX5_addOrder 59 = .ok (.getfield 27, 3) := by decide +kernel
theorem dX5_addOrder_62 : decode cX5_addOrder 62 = .ok (.iconst 1, 1) := by decide +kernel
theorem dX5_addOrder_63 : decode cX5_addOrder 63 = .ok (.isub, 1) := by decide +kernel
theorem dX5_addOrder_64 : decode cX5_addOrder 64 = .ok (.ireturn, 1) := by decide +kernel
theorem dX5_stepNumber_0 : decode cX5_stepNumber 0 = .ok (.aload_n 0, 1) := by decide +kernel
theorem dX5_stepNumber_1 : decode cX5_stepNumber 1 = .ok (.getfield 40, 3) := by decide +kernel
theorem dX5_stepNumber_4 : decode cX5_stepNumber 4 = .ok (.iload_n 1, 1) := by decide +kernel
theorem dX5_stepNumber_5 : decode cX5_stepNumber 5 = .ok (.bipush 8, 2) := by decide +kernel
theorem dX5_stepNumber_7 : decode cX5_stepNumber 7 = .ok (.imul, 1) := by decide +kernel
theorem dX5_stepNumber_8 : decode cX5_stepNumber 8 = .ok (.iload_n 2, 1) := by decide +kernel
theorem dX5_stepNumber_9 : decode cX5_stepNumber 9 = .ok (.iadd, 1) := by decide +kernel
theorem dX5_stepNumber_10 : decode cX5_stepNumber 10 = .ok (.iconst 3, 1) := by decide +kernel
theorem dX5_stepNumber_11 : decode cX5_stepNumber 11 = .ok (.imul, 1) := by decide +kernel
theorem dX5_stepNumber_12 : decode cX5_stepNumber 12 = .ok (.iload_n 3, 1) := by decide +kernel
theorem dX5_stepNumber_13 : decode cX5_stepNumber 13 = .ok (.iadd, 1) := by decide +kernel
theorem dX5_stepNumber_14 : decode cX5_stepNumber 14 = .ok (.iaload, 1) := by decide +kernel
theorem dX5_stepNumber_15 : decode cX5_stepNumber 15 = .ok (.ireturn, 1) := by decide +kernel
theorem dX5_putStepNumber_0 : decode cX5_putStepNumber 0 = .ok (.aload_n 0, 1) := by decide +kernel
theorem dX5_putStepNumber_1 : decode cX5_putStepNumber 1 = .ok (.getfield 40, 3) := by decide +kernel
theorem dX5_putStepNumber_4 : decode cX5_putStepNumber 4 = .ok (.iload_n 1, 1) := by decide +kernel
theorem dX5_putStepNumber_5 : decode cX5_putStepNumber 5 = .ok (.bipush 8, 2) := by decide +kernel
theorem dX5_putStepNumber_7 : decode cX5_putStepNumber 7 = .ok (.imul, 1) := by decide +kernel
theorem dX5_putStepNumber_8 : decode cX5_putStepNumber 8 = .ok (.iload_n 2, 1) := by decide +kernel
theorem dX5_putStepNumber_9 : decode cX5_putStepNumber 9 = .ok (.iadd, 1) := by decide +kernel
theorem dX5_putStepNumber_10 : decode cX5_putStepNumber 10 = .ok (.iconst 3, 1) := by decide +kernel
theorem dX5_putStepNumber_11 : decode cX5_putStepNumber 11 = .ok (.imul, 1) := by decide +kernel
theorem dX5_putStepNumber_12 : decode cX5_putStepNumber 12 = .ok (.iload_n 3, 1) := by decide +kernel
theorem dX5_putStepNumber_13 : decode cX5_putStepNumber 13 = .ok (.iadd, 1) := by decide +kernel
theorem dX5_putStepNumber_14 : decode cX5_putStepNumber 14 = .ok (.iload 4, 2) := by decide +kernel
theorem dX5_putStepNumber_16 : decode cX5_putStepNumber 16 = .ok (.iastore, 1) := by decide +kernel
theorem dX5_putStepNumber_17 : decode cX5_putStepNumber 17 = .ok (.return_, 1) := by decide +kernel
theorem dX5_orderNumber_0 : decode cX5_orderNumber 0 = .ok (.aload_n 0, 1) := by decide +kernel
theorem dX5_orderNumber_1 : decode cX5_orderNumber 1 = .ok (.getfield 43, 3) := by decide +kernel
theorem dX5_orderNumber_4 : decode cX5_orderNumber 4 = .ok (.iload_n 1, 1) := by decide +kernel
theorem dX5_orderNumber_5 : decode cX5_orderNumber 5 = .ok (.iconst 3, 1) := by decide +kernel
theorem dX5_orderNumber_6 : decode cX5_orderNumber 6 = .ok (.imul, 1) := by decide +kernel
theorem dX5_orderNumber_7 : decode cX5_orderNumber 7 = .ok (.iload_n 2, 1) := by decide +kernel
theorem dX5_orderNumber_8 : decode cX5_orderNumber 8 = .ok (.iadd, 1) := by decide +kernel
theorem dX5_orderNumber_9 : decode cX5_orderNumber 9 = .ok (.iaload, 1) := by decide +kernel
theorem dX5_orderNumber_10 : decode cX5_orderNumber 10 = .ok (.ireturn, 1) := by decide +kernel
theorem dX5_wholeRound_0 : decode cX5_wholeRound 0 = .ok (.iconst 1, 1) := by decide +kernel
theorem dX5_wholeRound_1 : decode cX5_wholeRound 1 = .ok (.aload_n 0, 1) := by decide +kernel
theorem dX5_wholeRound_2 : decode cX5_wholeRound 2 = .ok (.getfield 9, 3) := by decide +kernel
theorem dX5_wholeRound_5 : decode cX5_wholeRound 5 = .ok (.ishl, 1) := by decide +kernel
theorem dX5_wholeRound_6 : decode cX5_wholeRound 6 = .ok (.iconst 1, 1) := by decide +kernel
theorem dX5_wholeRound_7 : decode cX5_wholeRound 7 = .ok (.isub, 1) := by decide +kernel
theorem dX5_wholeRound_8 : decode cX5_wholeRound 8 = .ok (.ireturn, 1) := by decide +kernel
theorem dX5_goneOn_0 : decode cX5_goneOn 0 = .ok (.iload_n 1, 1) := by decide +kernel
theorem dX5_goneOn_1 : decode cX5_goneOn 1 = .ok (.aload_n 0, 1) := by decide +kernel
theorem dX5_goneOn_2 : decode cX5_goneOn 2 = .ok (.invokevirtual 70, 3) := by decide +kernel
theorem dX5_goneOn_5 : decode cX5_goneOn 5 = .ok (.iand, 1) := by decide +kernel
theorem dX5_goneOn_6 : decode cX5_goneOn 6 = .ok (.istore_n 3, 1) := by decide +kernel
theorem dX5_goneOn_7 : decode cX5_goneOn 7 = .ok (.iload_n 3, 1) := by decide +kernel
theorem dX5_goneOn_8 : decode cX5_goneOn 8 = .ok (.iload_n 2, 1) := by decide +kernel
theorem dX5_goneOn_9 : decode cX5_goneOn 9 = .ok (.ishl, 1) := by decide +kernel
theorem dX5_goneOn_10 : decode cX5_goneOn 10 = .ok (.iload_n 3, 1) := by decide +kernel
theorem dX5_goneOn_11 : decode cX5_goneOn 11 = .ok (.aload_n 0, 1) := by decide +kernel
theorem dX5_goneOn_12 : decode cX5_goneOn 12 = .ok (.getfield 9, 3) := by decide +kernel
theorem dX5_goneOn_15 : decode cX5_goneOn 15 = .ok (.iload_n 2, 1) := by decide +kernel
theorem dX5_goneOn_16 : decode cX5_goneOn 16 = .ok (.isub, 1) := by decide +kernel
theorem dX5_goneOn_17 : decode cX5_goneOn 17 = .ok (.ishr, 1) := by decide +kernel
theorem dX5_goneOn_18 : decode cX5_goneOn 18 = .ok (.ior, 1) := by decide +kernel
theorem dX5_goneOn_19 : decode cX5_goneOn 19 = .ok (.aload_n 0, 1) := by decide +kernel
theorem dX5_goneOn_20 : decode cX5_goneOn 20 = .ok (.invokevirtual 70, 3) := by decide +kernel
theorem dX5_goneOn_23 : decode cX5_goneOn 23 = .ok (.iand, 1) := by decide +kernel
theorem dX5_goneOn_24 : decode cX5_goneOn 24 = .ok (.ireturn, 1) := by decide +kernel
theorem dX5_hoursWith_0 : decode cX5_hoursWith 0 = .ok (.iconst 0, 1) := by decide +kernel
theorem dX5_hoursWith_1 : decode cX5_hoursWith 1 = .ok (.istore_n 3, 1) := by decide +kernel
theorem dX5_hoursWith_2 : decode cX5_hoursWith 2 = .ok (.iconst 0, 1) := by decide +kernel
theorem dX5_hoursWith_3 : decode cX5_hoursWith 3 = .ok (.istore 4, 2) := by decide +kernel
theorem dX5_hoursWith_5 : decode cX5_hoursWith 5 = .ok (.iload 4, 2) := by decide +kernel
theorem dX5_hoursWith_7 : decode cX5_hoursWith 7 = .ok (.aload_n 0, 1) := by decide +kernel
theorem dX5_hoursWith_8 : decode cX5_hoursWith 8 = .ok (.getfield 37, 3) := by decide +kernel
theorem dX5_hoursWith_11 : decode cX5_hoursWith 11 = .ok (.iload_n 1, 1) := by decide +kernel
theorem dX5_hoursWith_12 : decode cX5_hoursWith 12 = .ok (.iaload, 1) := by decide +kernel
theorem dX5_hoursWith_13 : decode cX5_hoursWith 13 = .ok (.if_icmp .ge 32, 3) := by decide +kernel
theorem dX5_hoursWith_16 : decode cX5_hoursWith 16 = .ok (.aload_n 0, 1) := by decide +kernel
theorem dX5_hoursWith_17 : decode cX5_hoursWith 17 = .ok (.iload_n 1, 1) := by decide +kernel
theorem dX5_hoursWith_18 : decode cX5_hoursWith 18 = .ok (.iload 4, 2) := by decide +kernel
theorem dX5_hoursWith_20 : decode cX5_hoursWith 20 = .ok (.iconst 0, 1) := by decide +kernel
theorem dX5_hoursWith_21 : decode cX5_hoursWith 21 = .ok (.invokevirtual 74, 3) := by decide +kernel
theorem dX5_hoursWith_24 : decode cX5_hoursWith 24 = .ok (.iload_n 2, 1) := by decide +kernel
theorem dX5_hoursWith_25 : decode cX5_hoursWith 25 = .ok (.if_icmp .ne 14, 3) := by decide +kernel
theorem dX5_hoursWith_28 : decode cX5_hoursWith 28 = .ok (.iload_n 3, 1) := by decide +kernel
theorem dX5_hoursWith_29 : decode cX5_hoursWith 29 = .ok (.aload_n 0, 1) := by decide +kernel
theorem dX5_hoursWith_30 : decode cX5_hoursWith 30 = .ok (.iload_n 1, 1) := by decide +kernel
theorem dX5_hoursWith_31 : decode cX5_hoursWith 31 = .ok (.iload 4, 2) := by decide +kernel
theorem dX5_hoursWith_33 : decode cX5_hoursWith 33 = .ok (.iconst 1, 1) := by decide +kernel
theorem dX5_hoursWith_34 : decode cX5_hoursWith 34 = .ok (.invokevirtual 74, 3) := by decide +kernel
theorem dX5_hoursWith_37 : decode cX5_hoursWith 37 = .ok (.iadd, 1) := by decide +kernel
theorem dX5_hoursWith_38 : decode cX5_hoursWith 38 = .ok (.istore_n 3, 1) := by decide +kernel
theorem dX5_hoursWith_39 : decode cX5_hoursWith 39 = .ok (.iinc 4 1, 3) := by decide +kernel
theorem dX5_hoursWith_42 : decode cX5_hoursWith 42 = .ok (.goto (-37), 3) := by decide +kernel
theorem dX5_hoursWith_45 : decode cX5_hoursWith 45 = .ok (.iload_n 3, 1) := by decide +kernel
theorem dX5_hoursWith_46 : decode cX5_hoursWith 46 = .ok (.ireturn, 1) := by decide +kernel
theorem dX5_mostBy_0 : decode cX5_mostBy 0 = .ok (.aload_n 0, 1) := by decide +kernel
theorem dX5_mostBy_1 : decode cX5_mostBy 1 = .ok (.iload_n 1, 1) := by decide +kernel
theorem dX5_mostBy_2 : decode cX5_mostBy 2 = .ok (.iload_n 2, 1) := by decide +kernel
theorem dX5_mostBy_3 : decode cX5_mostBy 3 = .ok (.invokevirtual 78, 3) := by decide +kernel
theorem dX5_mostBy_6 : decode cX5_mostBy 6 = .ok (.istore_n 3, 1) := by decide +kernel
theorem dX5_mostBy_7 : decode cX5_mostBy 7 = .ok (.iload_n 3, 1) := by decide +kernel
theorem dX5_mostBy_8 : decode cX5_mostBy 8 = .ok (.ifCond .gt 5, 3) := by decide +kernel
theorem dX5_mostBy_11 : decode cX5_mostBy 11 = .ok (.iconst 0, 1) := by decide +kernel
theorem dX5_mostBy_12 : decode cX5_mostBy 12 = .ok (.ireturn, 1) := by decide +kernel
theorem dX5_mostBy_13 : decode cX5_mostBy 13 = .ok (.bipush 8, 2) := by decide +kernel
theorem dX5_mostBy_15 : decode cX5_mostBy 15 = .ok (.aload_n 0, 1) := by decide +kernel
theorem dX5_mostBy_16 : decode cX5_mostBy 16 = .ok (.getfield 30, 3) := by decide +kernel
theorem dX5_mostBy_19 : decode cX5_mostBy 19 = .ok (.iload_n 2, 1) := by decide +kernel
theorem dX5_mostBy_20 : decode cX5_mostBy 20 = .ok (.iaload, 1) := by decide +kernel
theorem dX5_mostBy_21 : decode cX5_mostBy 21 = .ok (.aload_n 0, 1) := by decide +kernel
theorem dX5_mostBy_22 : decode cX5_mostBy 22 = .ok (.invokevirtual 70, 3) := by decide +kernel
theorem dX5_mostBy_25 : decode cX5_mostBy 25 = .ok (.iand, 1) := by decide +kernel
theorem dX5_mostBy_26 : decode cX5_mostBy 26 = .ok (.invokestatic 82, 3) := by decide +kernel
theorem dX5_mostBy_29 : decode cX5_mostBy 29 = .ok (.imul, 1) := by decide +kernel
theorem dX5_mostBy_30 : decode cX5_mostBy 30 = .ok (.iload_n 3, 1) := by decide +kernel
theorem dX5_mostBy_31 : decode cX5_mostBy 31 = .ok (.idiv, 1) := by decide +kernel
theorem dX5_mostBy_32 : decode cX5_mostBy 32 = .ok (.ireturn, 1) := by decide +kernel
theorem dX5_chokingTool_0 : decode cX5_chokingTool 0 = .ok (.iconst (-1), 1) := by decide +kernel
theorem dX5_chokingTool_1 : decode cX5_chokingTool 1 = .ok (.istore_n 2, 1) := by decide +kernel
theorem dX5_chokingTool_2 : decode cX5_chokingTool 2 = .ok (.iconst 0, 1) := by decide +kernel
theorem dX5_chokingTool_3 : decode cX5_chokingTool 3 = .ok (.istore_n 3, 1) := by decide +kernel
theorem dX5_chokingTool_4 : decode cX5_chokingTool 4 = .ok (.iconst 0, 1) := by decide +kernel
theorem dX5_chokingTool_5 : decode cX5_chokingTool 5 = .ok (.istore 4, 2) := by decide +kernel
theorem dX5_chokingTool_7 : decode cX5_chokingTool 7 = .ok (.iload 4, 2) := by decide +kernel
theorem dX5_chokingTool_9 : decode cX5_chokingTool 9 = .ok (.aload_n 0, 1) := by decide +kernel
theorem dX5_chokingTool_10 : decode cX5_chokingTool 10 = .ok (.getfield 21, 3) := by decide +kernel
theorem dX5_chokingTool_13 : decode cX5_chokingTool 13 = .ok (.if_icmp .ge 47, 3) := by decide +kernel
theorem dX5_chokingTool_16 : decode cX5_chokingTool 16 = .ok (.aload_n 0, 1) := by decide +kernel
theorem dX5_chokingTool_17 : decode cX5_chokingTool 17 = .ok (.iload_n 1, 1) := by decide +kernel
theorem dX5_chokingTool_18 : decode cX5_chokingTool 18 = .ok (.iload 4, 2) := by decide +kernel
theorem dX5_chokingTool_20 : decode cX5_chokingTool 20 = .ok (.invokevirtual 78, 3) := by decide +kernel
theorem dX5_chokingTool_23 : decode cX5_chokingTool 23 = .ok (.ifCond .ne 6, 3) := by decide +kernel
theorem dX5_chokingTool_26 : decode cX5_chokingTool 26 = .ok (.goto 28, 3) := by decide +kernel
theorem dX5_chokingTool_29 : decode cX5_chokingTool 29 = .ok (.aload_n 0, 1) := by decide +kernel
theorem dX5_chokingTool_30 : decode cX5_chokingTool 30 = .ok (.iload_n 1, 1) := by decide +kernel
theorem dX5_chokingTool_31 : decode cX5_chokingTool 31 = .ok (.iload 4, 2) := by decide +kernel
theorem dX5_chokingTool_33 : decode cX5_chokingTool 33 = .ok (.invokevirtual 88, 3) := by decide +kernel
theorem dX5_chokingTool_36 : decode cX5_chokingTool 36 = .ok (.istore 5, 2) := by decide +kernel
theorem dX5_chokingTool_38 : decode cX5_chokingTool 38 = .ok (.iload_n 2, 1) := by decide +kernel
theorem dX5_chokingTool_39 : decode cX5_chokingTool 39 = .ok (.ifCond .lt 9, 3) := by decide +kernel
theorem dX5_chokingTool_42 : decode cX5_chokingTool 42 = .ok (.iload 5, 2) := by decide +kernel
theorem dX5_chokingTool_44 : decode cX5_chokingTool 44 = .ok (.iload_n 3, 1) := by decide +kernel
theorem dX5_chokingTool_45 : decode cX5_chokingTool 45 = .ok (.if_icmp .ge 9, 3) := by decide +kernel
theorem dX5_chokingTool_48 : decode cX5_chokingTool 48 = .ok (.iload 4, 2) := by decide +kernel
theorem dX5_chokingTool_50 : decode cX5_chokingTool 50 = .ok (.istore_n 2, 1) := by decide +kernel
theorem dX5_chokingTool_51 : decode cX5_chokingTool 51 = .ok (.iload 5, 2) := by decide +kernel
theorem dX5_chokingTool_53 : decode cX5_chokingTool 53 = .ok (.istore_n 3, 1) := by decide +kernel
theorem dX5_chokingTool_54 : decode cX5_chokingTool 54 = .ok (.iinc 4 1, 3) := by decide +kernel
theorem dX5_chokingTool_57 : decode cX5_chokingTool 57 = .ok (.goto (-50), 3) := by decide +kernel
theorem dX5_chokingTool_60 : decode cX5_chokingTool 60 = .ok (.iload_n 2, 1) := by decide +kernel
theorem dX5_chokingTool_61 : decode cX5_chokingTool 61 = .ok (.ireturn, 1) := by decide +kernel
theorem dX5_heldSpots_0 : decode cX5_heldSpots 0 = .ok (.iconst 0, 1) := by decide +kernel
theorem dX5_heldSpots_1 : decode cX5_heldSpots 1 = .ok (.istore_n 1, 1) := by decide +kernel
theorem dX5_heldSpots_2 : decode cX5_heldSpots 2 = .ok (.iconst 0, 1) := by decide +kernel
theorem dX5_heldSpots_3 : decode cX5_heldSpots 3 = .ok (.istore_n 2, 1) := by decide +kernel
theorem dX5_heldSpots_4 : decode cX5_heldSpots 4 = .ok (.iload_n 2, 1) := by decide +kernel
theorem dX5_heldSpots_5 : decode cX5_heldSpots 5 = .ok (.bipush 10, 2) := by decide +kernel
theorem dX5_heldSpots_7 : decode cX5_heldSpots 7 = .ok (.if_icmp .ge 21, 3) := by decide +kernel
theorem dX5_heldSpots_10 : decode cX5_heldSpots 10 = .ok (.aload_n 0, 1) := by decide +kernel
theorem dX5_heldSpots_11 : decode cX5_heldSpots 11 = .ok (.getfield 46, 3) := by decide +kernel
theorem dX5_heldSpots_14 : decode cX5_heldSpots 14 = .ok (.iload_n 2, 1) := by decide +kernel
theorem dX5_heldSpots_15 : decode cX5_heldSpots 15 = .ok (.iaload, 1) := by decide +kernel
theorem dX5_heldSpots_16 : decode cX5_heldSpots 16 = .ok (.ifCond .lt 6, 3) := by decide +kernel
theorem dX5_heldSpots_19 : decode cX5_heldSpots 19 = .ok (.iinc 1 1, 3) := by decide +kernel
theorem dX5_heldSpots_22 : decode cX5_heldSpots 22 = .ok (.iinc 2 1, 3) := by decide +kernel
theorem dX5_heldSpots_25 : decode cX5_heldSpots 25 = .ok (.goto (-21), 3) := by decide +kernel
theorem dX5_heldSpots_28 : decode cX5_heldSpots 28 = .ok (.iload_n 1, 1) := by decide +kernel
theorem dX5_heldSpots_29 : decode cX5_heldSpots 29 = .ok (.ireturn, 1) := by decide +kernel
theorem dX5_draw_0 : decode cX5_draw 0 = .ok (.aload_n 0, 1) := by decide +kernel
theorem dX5_draw_1 : decode cX5_draw 1 = .ok (.aload_n 0, 1) := by decide +kernel
theorem dX5_draw_2 : decode cX5_draw 2 = .ok (.getfield 18, 3) := by decide +kernel
theorem dX5_draw_5 : decode cX5_draw 5 = .ok (.ldc 91, 2) := by decide +kernel
theorem dX5_draw_7 : decode cX5_draw 7 = .ok (.imul, 1) := by decide +kernel
theorem dX5_draw_8 : decode cX5_draw 8 = .ok (.sipush 12345, 3) := by decide +kernel
theorem dX5_draw_11 : decode cX5_draw 11 = .ok (.iadd, 1) := by decide +kernel
theorem dX5_draw_12 : decode cX5_draw 12 = .ok (.putfield 18, 3) := by decide +kernel
theorem dX5_draw_15 : decode cX5_draw 15 = .ok (.aload_n 0, 1) := by decide +kernel
theorem dX5_draw_16 : decode cX5_draw 16 = .ok (.getfield 18, 3) := by decide +kernel
theorem dX5_draw_19 : decode cX5_draw 19 = .ok (.bipush 8, 2) := by decide +kernel
theorem dX5_draw_21 : decode cX5_draw 21 = .ok (.iushr, 1) := by decide +kernel
theorem dX5_draw_22 : decode cX5_draw 22 = .ok (.ireturn, 1) := by decide +kernel
theorem dX6_init_0 : decode cX6_init 0 = .ok (.aload_n 0, 1) := by decide +kernel
theorem dX6_init_1 : decode cX6_init 1 = .ok (.invokespecial 1, 3) := by decide +kernel
theorem dX6_init_4 : decode cX6_init 4 = .ok (.aload_n 0, 1) := by decide +kernel
theorem dX6_init_5 : decode cX6_init 5 = .ok (.new 7, 3) := by decide +kernel
theorem dX6_init_8 : decode cX6_init 8 = .ok (.dup, 1) := by decide +kernel
theorem dX6_init_9 : decode cX6_init 9 = .ok (.invokespecial 9, 3) := by decide +kernel
theorem dX6_init_12 : decode cX6_init 12 = .ok (.putfield 10, 3) := by decide +kernel
theorem dX6_init_15 : decode cX6_init 15 = .ok (.aload_n 0, 1) := by decide +kernel
theorem dX6_init_16 : decode cX6_init 16 = .ok (.new 7, 3) := by decide +kernel
theorem dX6_init_19 : decode cX6_init 19 = .ok (.dup, 1) := by decide +kernel
theorem dX6_init_20 : decode cX6_init 20 = .ok (.invokespecial 9, 3) := by decide +kernel
theorem dX6_init_23 : decode cX6_init 23 = .ok (.putfield 16, 3) := by decide +kernel
theorem dX6_init_26 : decode cX6_init 26 = .ok (.aload_n 0, 1) := by decide +kernel
theorem dX6_init_27 : decode cX6_init 27 = .ok (.new 7, 3) := by decide +kernel
theorem dX6_init_30 : decode cX6_init 30 = .ok (.dup, 1) := by decide +kernel
theorem dX6_init_31 : decode cX6_init 31 = .ok (.invokespecial 9, 3) := by decide +kernel
theorem dX6_init_34 : decode cX6_init 34 = .ok (.putfield 19, 3) := by decide +kernel
theorem dX6_init_37 : decode cX6_init 37 = .ok (.aload_n 0, 1) := by decide +kernel
theorem dX6_init_38 : decode cX6_init 38 = .ok (.new 22, 3) := by decide +kernel
theorem dX6_init_41 : decode cX6_init 41 = .ok (.dup, 1) := by decide +kernel
theorem dX6_init_42 : decode cX6_init 42 = .ok (.invokespecial 24, 3) := by decide +kernel
theorem dX6_init_45 : decode cX6_init 45 = .ok (.putfield 25, 3) := by decide +kernel
theorem dX6_init_48 : decode cX6_init 48 = .ok (.aload_n 0, 1) := by decide +kernel
theorem dX6_init_49 : decode cX6_init 49 = .ok (.new 29, 3) := by decide +kernel
theorem dX6_init_52 : decode cX6_init 52 = .ok (.dup, 1) := by decide +kernel
theorem dX6_init_53 : decode cX6_init 53 = .ok (.aload_n 0, 1) := by decide +kernel
theorem dX6_init_54 : decode cX6_init 54 = .ok (.getfield 10, 3) := by decide +kernel
theorem dX6_init_57 : decode cX6_init 57 = .ok (.invokespecial 31, 3) := by decide +kernel
theorem dX6_init_60 : decode cX6_init 60 = .ok (.putfield 34, 3) := by decide +kernel
theorem dX6_init_63 : decode cX6_init 63 = .ok (.aload_n 0, 1) := by decide +kernel
theorem dX6_init_64 : decode cX6_init 64 = .ok (.new 38, 3) := by decide +kernel
theorem dX6_init_67 : decode cX6_init 67 = .ok (.dup, 1) := by decide +kernel
theorem dX6_init_68 : decode cX6_init 68 = .ok (.aload_n 0, 1) := by decide +kernel
theorem dX6_init_69 : decode cX6_init 69 = .ok (.getfield 10, 3) := by decide +kernel
theorem dX6_init_72 : decode cX6_init 72 = .ok (.aload_n 0, 1) := by decide +kernel
theorem dX6_init_73 : decode cX6_init 73 = .ok (.getfield 34, 3) := by decide +kernel
theorem dX6_init_76 : decode cX6_init 76 = .ok (.invokespecial 40, 3) := by decide +kernel
theorem dX6_init_79 : decode cX6_init 79 = .ok (.putfield 43, 3) := by decide +kernel
theorem dX6_init_82 : decode cX6_init 82 = .ok (.aload_n 0, 1) := by decide +kernel
theorem dX6_init_83 : decode cX6_init 83 = .ok (.new 47, 3) := by decide +kernel
theorem dX6_init_86 : decode cX6_init 86 = .ok (.dup, 1) := by decide +kernel
theorem dX6_init_87 : decode cX6_init 87 = .ok (.aload_n 0, 1) := by decide +kernel
theorem dX6_init_88 : decode cX6_init 88 = .ok (.getfield 25, 3) := by decide +kernel
theorem dX6_init_91 : decode cX6_init 91 = .ok (.aload_n 0, 1) := by decide +kernel
theorem dX6_init_92 : decode cX6_init 92 = .ok (.getfield 10, 3) := by decide +kernel
theorem dX6_init_95 : decode cX6_init 95 = .ok (.invokespecial 49, 3) := by decide +kernel
theorem dX6_init_98 : decode cX6_init 98 = .ok (.putfield 52, 3) := by decide +kernel
theorem dX6_init_101 : decode cX6_init 101 = .ok (.aload_n 0, 1) := by decide +kernel
theorem dX6_init_102 : decode cX6_init 102 = .ok (.iconst 4, 1) := by decide +kernel
theorem dX6_init_103 : decode cX6_init 103 = .ok (.anewarray 56, 3) := by decide +kernel
theorem dX6_init_106 : decode cX6_init 106 = .ok (.putfield 58, 3) := by decide +kernel
theorem dX6_init_109 : decode cX6_init 109 = .ok (.aload_n 0, 1) := by decide +kernel
theorem dX6_init_110 : decode cX6_init 110 = .ok (.bipush 7, 2) := by decide +kernel
theorem dX6_init_112 : decode cX6_init 112 = .ok (.newarray .int, 2) := by decide +kernel
theorem dX6_init_114 : decode cX6_init 114 = .ok (.putfield 62, 3) := by decide +kernel
theorem dX6_init_117 : decode cX6_init 117 = .ok (.aload_n 0, 1) := by decide +kernel
theorem dX6_init_118 : decode cX6_init 118 = .ok (.iconst 0, 1) := by decide +kernel
theorem dX6_init_119 : decode cX6_init 119 = .ok (.putfield 66, 3) := by decide +kernel
theorem dX6_init_122 : decode cX6_init 122 = .ok (.iconst 0, 1) := by decide +kernel
theorem dX6_init_123 : decode cX6_init 123 = .ok (.istore_n 1, 1) := by decide +kernel
theorem dX6_init_124 : decode cX6_init 124 = .ok (.iload_n 1, 1) := by decide +kernel
theorem dX6_init_125 : decode cX6_init 125 = .ok (.iconst 4, 1) := by decide +kernel
theorem dX6_init_126 : decode cX6_init 126 = .ok (.if_icmp .ge 22, 3) := by decide +kernel
theorem dX6_init_129 : decode cX6_init 129 = .ok (.aload_n 0, 1) := by decide +kernel
theorem dX6_init_130 : decode cX6_init 130 = .ok (.getfield 58, 3) := by decide +kernel
theorem dX6_init_133 : decode cX6_init 133 = .ok (.iload_n 1, 1) := by decide +kernel
theorem dX6_init_134 : decode cX6_init 134 = .ok (.new 56, 3) := by decide +kernel
theorem dX6_init_137 : decode cX6_init 137 = .ok (.dup, 1) := by decide +kernel
theorem dX6_init_138 : decode cX6_init 138 = .ok (.invokespecial 70, 3) := by decide +kernel
theorem dX6_init_141 : decode cX6_init 141 = .ok (.aastore, 1) := by decide +kernel
theorem dX6_init_142 : decode cX6_init 142 = .ok (.iinc 1 1, 3) := by decide +kernel
theorem dX6_init_145 : decode cX6_init 145 = .ok (.goto (-21), 3) := by decide +kernel
theorem dX6_init_148 : decode cX6_init 148 = .ok (.return_, 1) := by decide +kernel
theorem dX6_feed_0 : decode cX6_feed 0 = .ok (.iload_n 2, 1) := by decide +kernel
theorem dX6_feed_1 : decode cX6_feed 1 = .ok (.iconst 1, 1) := by decide +kernel
theorem dX6_feed_2 : decode cX6_feed 2 = .ok (.iconst 4, 1) := by decide +kernel
theorem dX6_feed_3 : decode cX6_feed 3 = .ok (.invokestatic 71, 3) := by decide +kernel
theorem dX6_feed_6 : decode cX6_feed 6 = .ok (.ifCond .ne 9, 3) := by decide +kernel
theorem dX6_feed_9 : decode cX6_feed 9 = .ok (.aload_n 0, 1) := by decide +kernel
theorem dX6_feed_10 : decode cX6_feed 10 = .ok (.iconst 0, 1) := by decide +kernel
theorem dX6_feed_11 : decode cX6_feed 11 = .ok (.invokevirtual 75, 3) := by decide +kernel
theorem dX6_feed_14 : decode cX6_feed 14 = .ok (.ireturn, 1) := by decide +kernel
theorem dX6_feed_15 : decode cX6_feed 15 = .ok (.aload_n 0, 1) := by decide +kernel
theorem dX6_feed_16 : decode cX6_feed 16 = .ok (.getfield 25, 3) := by decide +kernel
theorem dX6_feed_19 : decode cX6_feed 19 = .ok (.getfield 79, 3) := by decide +kernel
theorem dX6_feed_22 : decode cX6_feed 22 = .ok (.iload_n 2, 1) := by decide +kernel
theorem dX6_feed_23 : decode cX6_feed 23 = .ok (.iadd, 1) := by decide +kernel
theorem dX6_feed_24 : decode cX6_feed 24 = .ok (.bipush 120, 2) := by decide +kernel
theorem dX6_feed_26 : decode cX6_feed 26 = .ok (.if_icmp .le 9, 3) := by decide +kernel
theorem dX6_feed_29 : decode cX6_feed 29 = .ok (.aload_n 0, 1) := by decide +kernel
theorem dX6_feed_30 : decode cX6_feed 30 = .ok (.iconst 1, 1) := by decide +kernel
theorem dX6_feed_31 : decode cX6_feed 31 = .ok (.invokevirtual 75, 3) := by decide +kernel
theorem dX6_feed_34 : decode cX6_feed 34 = .ok (.ireturn, 1) := by decide +kernel
theorem dX6_feed_35 : decode cX6_feed 35 = .ok (.aload_n 0, 1) := by decide +kernel
theorem dX6_feed_36 : decode cX6_feed 36 = .ok (.getfield 25, 3) := by decide +kernel
theorem dX6_feed_39 : decode cX6_feed 39 = .ok (.iload_n 1, 1) := by decide +kernel
theorem dX6_feed_40 : decode cX6_feed 40 = .ok (.iload_n 2, 1) := by decide +kernel
theorem dX6_feed_41 : decode cX6_feed 41 = .ok (.invokevirtual 83, 3) := by decide +kernel
theorem dX6_feed_44 : decode cX6_feed 44 = .ok (.aload_n 0, 1) := by decide +kernel
theorem dX6_feed_45 : decode cX6_feed 45 = .ok (.getfield 25, 3) := by decide +kernel
theorem dX6_feed_48 : decode cX6_feed 48 = .ok (.getfield 79, 3) := by decide +kernel
theorem dX6_feed_51 : decode cX6_feed 51 = .ok (.ireturn, 1) := by decide +kernel
theorem dX6_wipe_0 : decode cX6_wipe 0 = .ok (.aload_n 0, 1) := by decide +kernel
theorem dX6_wipe_1 : decode cX6_wipe 1 = .ok (.getfield 25, 3) := by decide +kernel
theorem dX6_wipe_4 : decode cX6_wipe 4 = .ok (.getfield 79, 3) := by decide +kernel
theorem dX6_wipe_7 : decode cX6_wipe 7 = .ok (.istore_n 1, 1) := by decide +kernel
theorem dX6_wipe_8 : decode cX6_wipe 8 = .ok (.aload_n 0, 1) := by decide +kernel
theorem dX6_wipe_9 : decode cX6_wipe 9 = .ok (.getfield 25, 3) := by decide +kernel
theorem dX6_wipe_12 : decode cX6_wipe 12 = .ok (.iconst 0, 1) := by decide +kernel
theorem dX6_wipe_13 : decode cX6_wipe 13 = .ok (.putfield 79, 3) := by decide +kernel
theorem dX6_wipe_16 : decode cX6_wipe 16 = .ok (.iload_n 1, 1) := by decide +kernel
theorem dX6_wipe_17 : decode cX6_wipe 17 = .ok (.ireturn, 1) := by decide +kernel
theorem dX6_town_0 : decode cX6_town 0 = .ok (.aload_n 0, 1) := by decide +kernel
theorem dX6_town_1 : decode cX6_town 1 = .ok (.getfield 19, 3) := by decide +kernel
theorem dX6_town_4 : decode cX6_town 4 = .ok (.aload_n 0, 1) := by decide +kernel
theorem dX6_town_5 : decode cX6_town 5 = .ok (.getfield 10, 3) := by decide +kernel
theorem dX6_town_8 : decode cX6_town 8 = .ok (.invokevirtual 87, 3) := by decide +kernel
theorem dX6_town_11 : decode cX6_town 11 = .ok (.aload_n 0, 1) := by decide +kernel
theorem dX6_town_12 : decode cX6_town 12 = .ok (.getfield 52, 3) := by decide +kernel
theorem dX6_town_15 : decode cX6_town 15 = .ok (.invokevirtual 90, 3) := by decide +kernel
theorem dX6_town_18 : decode cX6_town 18 = .ok (.istore_n 1, 1) := by decide +kernel
theorem dX6_town_19 : decode cX6_town 19 = .ok (.iload_n 1, 1) := by decide +kernel
theorem dX6_town_20 : decode cX6_town 20 = .ok (.ifCond .ge 14, 3) := by decide +kernel
theorem dX6_town_23 : decode cX6_town 23 = .ok (.aload_n 0, 1) := by decide +kernel
theorem dX6_town_24 : decode cX6_town 24 = .ok (.getfield 10, 3) := by decide +kernel
theorem dX6_town_27 : decode cX6_town 27 = .ok (.aload_n 0, 1) := by decide +kernel
theorem dX6_town_28 : decode cX6_town 28 = .ok (.getfield 19, 3) := by decide +kernel
theorem dX6_town_31 : decode cX6_town 31 = .ok (.invokevirtual 87, 3) := by decide +kernel
theorem dX6_town_34 : decode cX6_town 34 = .ok (.aload_n 0, 1) := by decide +kernel
theorem dX6_town_35 : decode cX6_town 35 = .ok (.getfield 25, 3) := by decide +kernel
theorem dX6_town_38 : decode cX6_town 38 = .ok (.iconst 0, 1) := by decide +kernel
theorem dX6_town_39 : decode cX6_town 39 = .ok (.putfield 79, 3) := by decide +kernel
theorem dX6_town_42 : decode cX6_town 42 = .ok (.iload_n 1, 1) := by decide +kernel
theorem dX6_town_43 : decode cX6_town 43 = .ok (.ireturn, 1) := by decide +kernel
theorem dX6_round_0 : decode cX6_round 0 = .ok (.iload_n 1, 1) := by decide +kernel
theorem dX6_round_1 : decode cX6_round 1 = .ok (.iconst 1, 1) := by decide +kernel
theorem dX6_round_2 : decode cX6_round 2 = .ok (.bipush 12, 2) := by decide +kernel
theorem dX6_round_4 : decode cX6_round 4 = .ok (.invokestatic 71, 3) := by decide +kernel
theorem dX6_round_7 : decode cX6_round 7 = .ok (.ifCond .ne 9, 3) := by decide +kernel
theorem dX6_round_10 : decode cX6_round 10 = .ok (.aload_n 0, 1) := by decide +kernel
theorem dX6_round_11 : decode cX6_round 11 = .ok (.iconst 0, 1) := by decide +kernel
theorem dX6_round_12 : decode cX6_round 12 = .ok (.invokevirtual 75, 3) := by decide +kernel
theorem dX6_round_15 : decode cX6_round 15 = .ok (.ireturn, 1) := by decide +kernel
theorem dX6_round_16 : decode cX6_round 16 = .ok (.aload_n 0, 1) := by decide +kernel
theorem dX6_round_17 : decode cX6_round 17 = .ok (.getfield 10, 3) := by decide +kernel
theorem dX6_round_20 : decode cX6_round 20 = .ok (.getfield 94, 3) := by decide +kernel
theorem dX6_round_23 : decode cX6_round 23 = .ok (.istore_n 2, 1) := by decide +kernel
theorem dX6_round_24 : decode cX6_round 24 = .ok (.aload_n 0, 1) := by decide +kernel
theorem dX6_round_25 : decode cX6_round 25 = .ok (.getfield 10, 3) := by decide +kernel
theorem dX6_round_28 : decode cX6_round 28 = .ok (.iload_n 1, 1) := by decide +kernel
theorem dX6_round_29 : decode cX6_round 29 = .ok (.putfield 94, 3) := by decide +kernel
theorem dX6_round_32 : decode cX6_round 32 = .ok (.iload_n 2, 1) := by decide +kernel
theorem dX6_round_33 : decode cX6_round 33 = .ok (.ireturn, 1) := by decide +kernel
theorem dX6_near_0 : decode cX6_near 0 = .ok (.iload_n 1, 1) := by decide +kernel
theorem dX6_near_1 : decode cX6_near 1 = .ok (.iconst (-1), 1) := by decide +kernel
theorem dX6_near_2 : decode cX6_near 2 = .ok (.bipush 11, 2) := by decide +kernel
theorem dX6_near_4 : decode cX6_near 4 = .ok (.invokestatic 71, 3) := by decide +kernel
theorem dX6_near_7 : decode cX6_near 7 = .ok (.ifCond .ne 9, 3) := by decide +kernel
theorem dX6_near_10 : decode cX6_near 10 = .ok (.aload_n 0, 1) := by decide +kernel
theorem dX6_near_11 : decode cX6_near 11 = .ok (.iconst 0, 1) := by decide +kernel
theorem dX6_near_12 : decode cX6_near 12 = .ok (.invokevirtual 75, 3) := by decide +kernel
theorem dX6_near_15 : decode cX6_near 15 = .ok (.ireturn, 1) := by decide +kernel
theorem dX6_near_16 : decode cX6_near 16 = .ok (.aload_n 0, 1) := by decide +kernel
theorem dX6_near_17 : decode cX6_near 17 = .ok (.getfield 10, 3) := by decide +kernel
theorem dX6_near_20 : decode cX6_near 20 = .ok (.getfield 97, 3) := by decide +kernel
theorem dX6_near_23 : decode cX6_near 23 = .ok (.istore_n 2, 1) := by decide +kernel
theorem dX6_near_24 : decode cX6_near 24 = .ok (.aload_n 0, 1) := by decide +kernel
theorem dX6_near_25 : decode cX6_near 25 = .ok (.getfield 10, 3) := by decide +kernel
theorem dX6_near_28 : decode cX6_near 28 = .ok (.iload_n 1, 1) := by decide +kernel
theorem dX6_near_29 : decode cX6_near 29 = .ok (.putfield 97, 3) := by decide +kernel
theorem dX6_near_32 : decode cX6_near 32 = .ok (.iload_n 2, 1) := by decide +kernel
theorem dX6_near_33 : decode cX6_near 33 = .ok (.ireturn, 1) := by decide +kernel
theorem dX6_tool_0 : decode cX6_tool 0 = .ok (.iload_n 1, 1) := by decide +kernel
theorem dX6_tool_1 : decode cX6_tool 1 = .ok (.iconst 0, 1) := by decide +kernel
theorem dX6_tool_2 : decode cX6_tool 2 = .ok (.sipush 4095, 3) := by decide +kernel
theorem dX6_tool_5 : decode cX6_tool 5 = .ok (.invokestatic 71, 3) := by decide +kernel
theorem dX6_tool_8 : decode cX6_tool 8 = .ok (.ifCond .ne 9, 3) := by decide +kernel
theorem dX6_tool_11 : decode cX6_tool 11 = .ok (.aload_n 0, 1) := by decide +kernel
theorem dX6_tool_12 : decode cX6_tool 12 = .ok (.iconst 0, 1) := by decide +kernel
theorem dX6_tool_13 : decode cX6_tool 13 = .ok (.invokevirtual 75, 3) := by decide +kernel
theorem dX6_tool_16 : decode cX6_tool 16 = .ok (.ireturn, 1) := by decide +kernel
theorem dX6_tool_17 : decode cX6_tool 17 = .ok (.aload_n 0, 1) := by decide +kernel
theorem dX6_tool_18 : decode cX6_tool 18 = .ok (.getfield 10, 3) := by decide +kernel
theorem dX6_tool_21 : decode cX6_tool 21 = .ok (.getfield 100, 3) := by decide +kernel
theorem dX6_tool_24 : decode cX6_tool 24 = .ok (.bipush 8, 2) := by decide +kernel
theorem dX6_tool_26 : decode cX6_tool 26 = .ok (.if_icmp .lt 9, 3) := by decide +kernel
theorem dX6_tool_29 : decode cX6_tool 29 = .ok (.aload_n 0, 1) := by decide +kernel
theorem dX6_tool_30 : decode cX6_tool 30 = .ok (.iconst 1, 1) := by decide +kernel
theorem dX6_tool_31 : decode cX6_tool 31 = .ok (.invokevirtual 75, 3) := by decide +kernel
theorem dX6_tool_34 : decode cX6_tool 34 = .ok (.ireturn, 1) := by decide +kernel
theorem dX6_tool_35 : decode cX6_tool 35 = .ok (.aload_n 0, 1) := by decide +kernel
theorem dX6_tool_36 : decode cX6_tool 36 = .ok (.getfield 10, 3) := by decide +kernel
theorem dX6_tool_39 : decode cX6_tool 39 = .ok (.iload_n 1, 1) := by decide +kernel
theorem dX6_tool_40 : decode cX6_tool 40 = .ok (.invokevirtual 103, 3) := by decide +kernel
theorem dX6_tool_43 : decode cX6_tool 43 = .ok (.ireturn, 1) := by decide +kernel
theorem dX6_days_0 : decode cX6_days 0 = .ok (.aload_n 0, 1) := by decide +kernel
theorem dX6_days_1 : decode cX6_days 1 = .ok (.getfield 10, 3) := by decide +kernel
theorem dX6_days_4 : decode cX6_days 4 = .ok (.iload_n 1, 1) := by decide +kernel
theorem dX6_days_5 : decode cX6_days 5 = .ok (.invokevirtual 106, 3) := by decide +kernel
theorem dX6_days_8 : decode cX6_days 8 = .ok (.ifCond .eq 14, 3) := by decide +kernel
theorem dX6_days_11 : decode cX6_days 11 = .ok (.iload_n 2, 1) := by decide +kernel
theorem dX6_days_12 : decode cX6_days 12 = .ok (.iconst 0, 1) := by decide +kernel
theorem dX6_days_13 : decode cX6_days 13 = .ok (.sipush 4095, 3) := by decide +kernel
theorem dX6_days_16 : decode cX6_days 16 = .ok (.invokestatic 71, 3) := by decide +kernel
theorem dX6_days_19 : decode cX6_days 19 = .ok (.ifCond .ne 9, 3) := by decide +kernel
theorem dX6_days_22 : decode cX6_days 22 = .ok (.aload_n 0, 1) := by decide +kernel
theorem dX6_days_23 : decode cX6_days 23 = .ok (.iconst 0, 1) := by decide +kernel
theorem dX6_days_24 : decode cX6_days 24 = .ok (.invokevirtual 75, 3) := by decide +kernel
theorem dX6_days_27 : decode cX6_days 27 = .ok (.ireturn, 1) := by decide +kernel
theorem dX6_days_28 : decode cX6_days 28 = .ok (.aload_n 0, 1) := by decide +kernel
theorem dX6_days_29 : decode cX6_days 29 = .ok (.getfield 10, 3) := by decide +kernel
theorem dX6_days_32 : decode cX6_days 32 = .ok (.getfield 110, 3) := by decide +kernel
theorem dX6_days_35 : decode cX6_days 35 = .ok (.iload_n 1, 1) := by decide +kernel
theorem dX6_days_36 : decode cX6_days 36 = .ok (.iaload, 1) := by decide +kernel
theorem dX6_days_37 : decode cX6_days 37 = .ok (.istore_n 3, 1) := by decide +kernel
theorem dX6_days_38 : decode cX6_days 38 = .ok (.aload_n 0, 1) := by decide +kernel
theorem dX6_days_39 : decode cX6_days 39 = .ok (.getfield 10, 3) := by decide +kernel
theorem dX6_days_42 : decode cX6_days 42 = .ok (.getfield 110, 3) := by decide +kernel
theorem dX6_days_45 : decode cX6_days 45 = .ok (.iload_n 1, 1) := by decide +kernel
theorem dX6_days_46 : decode cX6_days 46 = .ok (.iload_n 2, 1) := by decide +kernel
theorem dX6_days_47 : decode cX6_days 47 = .ok (.iastore, 1) := by decide +kernel
theorem dX6_days_48 : decode cX6_days 48 = .ok (.iload_n 3, 1) := by decide +kernel
theorem dX6_days_49 : decode cX6_days 49 = .ok (.ireturn, 1) := by decide +kernel
theorem dX6_may_0 : decode cX6_may 0 = .ok (.aload_n 0, 1) := by decide +kernel
theorem dX6_may_1 : decode cX6_may 1 = .ok (.getfield 10, 3) := by decide +kernel
theorem dX6_may_4 : decode cX6_may 4 = .ok (.iload_n 1, 1) := by decide +kernel
theorem dX6_may_5 : decode cX6_may 5 = .ok (.invokevirtual 106, 3) := by decide +kernel
theorem dX6_may_8 : decode cX6_may 8 = .ok (.ifCond .eq 14, 3) := by decide +kernel
theorem dX6_may_11 : decode cX6_may 11 = .ok (.iload_n 2, 1) := by decide +kernel
theorem dX6_may_12 : decode cX6_may 12 = .ok (.iconst 0, 1) := by decide +kernel
theorem dX6_may_13 : decode cX6_may 13 = .ok (.sipush 999, 3) := by decide +kernel
theorem dX6_may_16 : decode cX6_may 16 = .ok (.invokestatic 71, 3) := by decide +kernel
theorem dX6_may_19 : decode cX6_may 19 = .ok (.ifCond .ne 9, 3) := by decide +kernel
theorem dX6_may_22 : decode cX6_may 22 = .ok (.aload_n 0, 1) := by decide +kernel
theorem dX6_may_23 : decode cX6_may 23 = .ok (.iconst 0, 1) := by decide +kernel
theorem dX6_may_24 : decode cX6_may 24 = .ok (.invokevirtual 75, 3) := by decide +kernel
theorem dX6_may_27 : decode cX6_may 27 = .ok (.ireturn, 1) := by decide +kernel
theorem dX6_may_28 : decode cX6_may 28 = .ok (.aload_n 0, 1) := by decide +kernel
theorem dX6_may_29 : decode cX6_may 29 = .ok (.getfield 34, 3) := by decide +kernel
theorem dX6_may_32 : decode cX6_may 32 = .ok (.iload_n 1, 1) := by decide +kernel
theorem dX6_may_33 : decode cX6_may 33 = .ok (.iload_n 2, 1) := by decide +kernel
theorem dX6_may_34 : decode cX6_may 34 = .ok (.iconst 0, 1) := by decide +kernel
theorem dX6_may_35 : decode cX6_may 35 = .ok (.invokevirtual 113, 3) := by decide +kernel
theorem dX6_may_38 : decode cX6_may 38 = .ok (.iload_n 2, 1) := by decide +kernel
theorem dX6_may_39 : decode cX6_may 39 = .ok (.if_icmp .ne 5, 3) := by decide +kernel
theorem dX6_may_42 : decode cX6_may 42 = .ok (.iconst 2, 1) := by decide +kernel
theorem dX6_may_43 : decode cX6_may 43 = .ok (.ireturn, 1) := by decide +kernel
theorem dX6_may_44 : decode cX6_may 44 = .ok (.aload_n 0, 1) := by decide +kernel
theorem dX6_may_45 : decode cX6_may 45 = .ok (.getfield 10, 3) := by decide +kernel
theorem dX6_may_48 : decode cX6_may 48 = .ok (.getfield 97, 3) := by decide +kernel
theorem dX6_may_51 : decode cX6_may 51 = .ok (.ifCond .lt 27, 3) := by decide +kernel
theorem dX6_may_54 : decode cX6_may 54 = .ok (.aload_n 0, 1) := by decide +kernel
theorem dX6_may_55 : decode cX6_may 55 = .ok (.getfield 34, 3) := by decide +kernel
theorem dX6_may_58 : decode cX6_may 58 = .ok (.iload_n 1, 1) := by decide +kernel
theorem dX6_may_59 : decode cX6_may 59 = .ok (.iload_n 2, 1) := by decide +kernel
theorem dX6_may_60 : decode cX6_may 60 = .ok (.aload_n 0, 1) := by decide +kernel
theorem dX6_may_61 : decode cX6_may 61 = .ok (.getfield 10, 3) := by decide +kernel
theorem dX6_may_64 : decode cX6_may 64 = .ok (.getfield 97, 3) := by decide +kernel
theorem dX6_may_67 : decode cX6_may 67 = .ok (.invokevirtual 113, 3) := by decide +kernel
theorem dX6_may_70 : decode cX6_may 70 = .ok (.iload_n 2, 1) := by decide +kernel
theorem dX6_may_71 : decode cX6_may 71 = .ok (.if_icmp .ne 7, 3) := by decide +kernel
theorem dX6_may_74 : decode cX6_may 74 = .ok (.iconst 1, 1) := by decide +kernel
theorem dX6_may_75 : decode cX6_may 75 = .ok (.goto 4, 3) := by decide +kernel
theorem dX6_may_78 : decode cX6_may 78 = .ok (.iconst 0, 1) := by decide +kernel
theorem dX6_may_79 : decode cX6_may 79 = .ok (.ireturn, 1) := by decide +kernel
theorem dX6_thing_0 : decode cX6_thing 0 = .ok (.iload_n 1, 1) := by decide +kernel
theorem dX6_thing_1 : decode cX6_thing 1 = .ok (.iconst 0, 1) := by decide +kernel
theorem dX6_thing_2 : decode cX6_thing 2 = .ok (.bipush 6, 2) := by decide +kernel
theorem dX6_thing_4 : decode cX6_thing 4 = .ok (.invokestatic 71, 3) := by decide +kernel
theorem dX6_thing_7 : decode cX6_thing 7 = .ok (.ifCond .eq 24, 3) := by decide +kernel
theorem dX6_thing_10 : decode cX6_thing 10 = .ok (.aload_n 0, 1) := by decide +kernel
theorem dX6_thing_11 : decode cX6_thing 11 = .ok (.getfield 10, 3) := by decide +kernel
theorem dX6_thing_14 : decode cX6_thing 14 = .ok (.iload_n 2, 1) := by decide +kernel
theorem dX6_thing_15 : decode cX6_thing 15 = .ok (.invokevirtual 106, 3) := by decide +kernel
theorem dX6_thing_18 : decode cX6_thing 18 = .ok (.ifCond .eq 13, 3) := by decide +kernel
theorem dX6_thing_21 : decode cX6_thing 21 = .ok (.iload_n 3, 1) := by decide +kernel
theorem dX6_thing_22 : decode cX6_thing 22 = .ok (.iconst 1, 1) := by decide +kernel
theorem dX6_thing_23 : decode cX6_thing 23 = .ok (.bipush 8, 2) := by decide +kernel
theorem dX6_thing_25 : decode cX6_thing 25 = .ok (.invokestatic 71, 3) := by decide +kernel
theorem dX6_thing_28 : decode cX6_thing 28 = .ok (.ifCond .ne 9, 3) := by decide +kernel
theorem dX6_thing_31 : decode cX6_thing 31 = .ok (.aload_n 0, 1) := by decide +kernel
theorem dX6_thing_32 : decode cX6_thing 32 = .ok (.iconst 0, 1) := by decide +kernel
theorem dX6_thing_33 : decode cX6_thing 33 = .ok (.invokevirtual 75, 3) := by decide +kernel
theorem dX6_thing_36 : decode cX6_thing 36 = .ok (.ireturn, 1) := by decide +kernel
theorem dX6_thing_37 : decode cX6_thing 37 = .ok (.aload_n 0, 1) := by decide +kernel
theorem dX6_thing_38 : decode cX6_thing 38 = .ok (.getfield 10, 3) := by decide +kernel
theorem dX6_thing_41 : decode cX6_thing 41 = .ok (.getfield 117, 3) := by decide +kernel
theorem dX6_thing_44 : decode cX6_thing 44 = .ok (.bipush 8, 2) := by decide +kernel
theorem dX6_thing_46 : decode cX6_thing 46 = .ok (.if_icmp .lt 9, 3) := by decide +kernel
theorem dX6_thing_49 : decode cX6_thing 49 = .ok (.aload_n 0, 1) := by decide +kernel
theorem dX6_thing_50 : decode cX6_thing 50 = .ok (.iconst 1, 1) := by decide +kernel
theorem dX6_thing_51 : decode cX6_thing 51 = .ok (.invokevirtual 75, 3) := by decide +kernel
theorem dX6_thing_54 : decode cX6_thing 54 = .ok (.ireturn, 1) := by decide +kernel
theorem dX6_thing_55 : decode cX6_thing 55 = .ok (.aload_n 0, 1) := by decide +kernel
theorem dX6_thing_56 : decode cX6_thing 56 = .ok (.getfield 10, 3) := by decide +kernel
theorem dX6_thing_59 : decode cX6_thing 59 = .ok (.iload_n 1, 1) := by decide +kernel
theorem dX6_thing_60 : decode cX6_thing 60 = .ok (.invokevirtual 120, 3) := by decide +kernel
theorem dX6_thing_63 : decode cX6_thing 63 = .ok (.istore 4, 2) := by decide +kernel
theorem dX6_thing_65 : decode cX6_thing 65 = .ok (.aload_n 0, 1) := by decide +kernel
theorem dX6_thing_66 : decode cX6_thing 66 = .ok (.getfield 10, 3) := by decide +kernel
theorem dX6_thing_69 : decode cX6_thing 69 = .ok (.iload 4, 2) := by decide +kernel
theorem dX6_thing_71 : decode cX6_thing 71 = .ok (.iload_n 2, 1) := by decide +kernel
theorem dX6_thing_72 : decode cX6_thing 72 = .ok (.iload_n 3, 1) := by decide +kernel
theorem dX6_thing_73 : decode cX6_thing 73 = .ok (.bipush 99, 2) := by decide +kernel
theorem dX6_thing_75 : decode cX6_thing 75 = .ok (.invokevirtual 123, 3) := by decide +kernel
theorem dX6_thing_78 : decode cX6_thing 78 = .ok (.pop, 1) := by decide +kernel
theorem dX6_thing_79 : decode cX6_thing 79 = .ok (.iload 4, 2) := by decide +kernel
theorem dX6_thing_81 : decode cX6_thing 81 = .ok (.ireturn, 1) := by decide +kernel
theorem dX6_step_0 : decode cX6_step 0 = .ok (.aload_n 0, 1) := by decide +kernel
theorem dX6_step_1 : decode cX6_step 1 = .ok (.getfield 10, 3) := by decide +kernel
theorem dX6_step_4 : decode cX6_step 4 = .ok (.iload_n 1, 1) := by decide +kernel
theorem dX6_step_5 : decode cX6_step 5 = .ok (.invokevirtual 127, 3) := by decide +kernel
theorem dX6_step_8 : decode cX6_step 8 = .ok (.ifCond .eq 35, 3) := by decide +kernel
theorem dX6_step_11 : decode cX6_step 11 = .ok (.aload_n 0, 1) := by decide +kernel
theorem dX6_step_12 : decode cX6_step 12 = .ok (.getfield 10, 3) := by decide +kernel
theorem dX6_step_15 : decode cX6_step 15 = .ok (.iload_n 2, 1) := by decide +kernel
theorem dX6_step_16 : decode cX6_step 16 = .ok (.invokevirtual 106, 3) := by decide +kernel
theorem dX6_step_19 : decode cX6_step 19 = .ok (.ifCond .eq 24, 3) := by decide +kernel
theorem dX6_step_22 : decode cX6_step 22 = .ok (.iload_n 3, 1) := by decide +kernel
theorem dX6_step_23 : decode cX6_step 23 = .ok (.iconst 1, 1) := by decide +kernel
theorem dX6_step_24 : decode cX6_step 24 = .ok (.bipush 8, 2) := by decide +kernel
theorem dX6_step_26 : decode cX6_step 26 = .ok (.invokestatic 71, 3) := by decide +kernel
theorem dX6_step_29 : decode cX6_step 29 = .ok (.ifCond .eq 14, 3) := by decide +kernel
theorem dX6_step_32 : decode cX6_step 32 = .ok (.iload 4, 2) := by decide +kernel
theorem dX6_step_34 : decode cX6_step 34 = .ok (.iconst 0, 1) := by decide +kernel
theorem dX6_step_35 : decode cX6_step 35 = .ok (.bipush 99, 2) := by decide +kernel
theorem dX6_step_37 : decode cX6_step 37 = .ok (.invokestatic 71, 3) := by decide +kernel
theorem dX6_step_40 : decode cX6_step 40 = .ok (.ifCond .ne 9, 3) := by decide +kernel
theorem dX6_step_43 : decode cX6_step 43 = .ok (.aload_n 0, 1) := by decide +kernel
theorem dX6_step_44 : decode cX6_step 44 = .ok (.iconst 0, 1) := by decide +kernel
theorem dX6_step_45 : decode cX6_step 45 = .ok (.invokevirtual 75, 3) := by decide +kernel
theorem dX6_step_48 : decode cX6_step 48 = .ok (.ireturn, 1) := by decide +kernel
theorem dX6_step_49 : decode cX6_step 49 = .ok (.aload_n 0, 1) := by decide +kernel
theorem dX6_step_50 : decode cX6_step 50 = .ok (.getfield 10, 3) := by decide +kernel
theorem dX6_step_53 : decode cX6_step 53 = .ok (.getfield 130, 3) := by decide +kernel
theorem dX6_step_56 : decode cX6_step 56 = .ok (.iload_n 1, 1) := by decide +kernel
theorem dX6_step_57 : decode cX6_step 57 = .ok (.iaload, 1) := by decide +kernel
theorem dX6_step_58 : decode cX6_step 58 = .ok (.bipush 8, 2) := by decide +kernel
theorem dX6_step_60 : decode cX6_step 60 = .ok (.if_icmp .lt 9, 3) := by decide +kernel
theorem dX6_step_63 : decode cX6_step 63 = .ok (.aload_n 0, 1) := by decide +kernel
theorem dX6_step_64 : decode cX6_step 64 = .ok (.iconst 1, 1) := by decide +kernel
theorem dX6_step_65 : decode cX6_step 65 = .ok (.invokevirtual 75, 3) := by decide +kernel
theorem dX6_step_68 : decode cX6_step 68 = .ok (.ireturn, 1) := by decide +kernel
theorem dX6_step_69 : decode cX6_step 69 = .ok (.aload_n 0, 1) := by decide +kernel
theorem dX6_step_70 : decode cX6_step 70 = .ok (.getfield 10, 3) := by decide +kernel
theorem dX6_step_73 : decode cX6_step 73 = .ok (.iload_n 1, 1) := by decide +kernel
theorem dX6_step_74 : decode cX6_step 74 = .ok (.iload_n 2, 1) := by decide +kernel
theorem dX6_step_75 : decode cX6_step 75 = .ok (.iload_n 3, 1) := by decide +kernel
theorem dX6_step_76 : decode cX6_step 76 = .ok (.iload 4, 2) := by decide +kernel
theorem dX6_step_78 : decode cX6_step 78 = .ok (.invokevirtual 123, 3) := by decide +kernel
theorem dX6_step_81 : decode cX6_step 81 = .ok (.ireturn, 1) := by decide +kernel
theorem dX6_thingOf_0 : decode cX6_thingOf 0 = .ok (.aload_n 0, 1) := by decide +kernel
theorem dX6_thingOf_1 : decode cX6_thingOf 1 = .ok (.getfield 10, 3) := by decide +kernel
theorem dX6_thingOf_4 : decode cX6_thingOf 4 = .ok (.iload_n 1, 1) := by decide +kernel
theorem dX6_thingOf_5 : decode cX6_thingOf 5 = .ok (.invokevirtual 127, 3) := by decide +kernel
theorem dX6_thingOf_8 : decode cX6_thingOf 8 = .ok (.ifCond .ne 9, 3) := by decide +kernel
theorem dX6_thingOf_11 : decode cX6_thingOf 11 = .ok (.aload_n 0, 1) := by decide +kernel
theorem dX6_thingOf_12 : decode cX6_thingOf 12 = .ok (.iconst 0, 1) := by decide +kernel
theorem dX6_thingOf_13 : decode cX6_thingOf 13 = .ok (.invokevirtual 75, 3) := by decide +kernel
theorem dX6_thingOf_16 : decode cX6_thingOf 16 = .ok (.ireturn, 1) := by decide +kernel
theorem dX6_thingOf_17 : decode cX6_thingOf 17 = .ok (.iload_n 2, 1) := by decide +kernel
theorem dX6_thingOf_18 : decode cX6_thingOf 18 = .ok (.iconst (-1), 1) := by decide +kernel
theorem dX6_thingOf_19 : decode cX6_thingOf 19 = .ok (.if_icmp .ne 13, 3) := by decide +kernel
theorem dX6_thingOf_22 : decode cX6_thingOf 22 = .ok (.aload_n 0, 1) := by decide +kernel
theorem dX6_thingOf_23 : decode cX6_thingOf 23 = .ok (.getfield 10, 3) := by decide +kernel
theorem dX6_thingOf_26 : decode cX6_thingOf 26 = .ok (.getfield 133, 3) := by decide +kernel
theorem dX6_thingOf_29 : decode cX6_thingOf 29 = .ok (.iload_n 1, 1) := by decide +kernel
theorem dX6_thingOf_30 : decode cX6_thingOf 30 = .ok (.iaload, 1) := by decide +kernel
theorem dX6_thingOf_31 : decode cX6_thingOf 31 = .ok (.ireturn, 1) := by decide +kernel
theorem dX6_thingOf_32 : decode cX6_thingOf 32 = .ok (.iload_n 2, 1) := by decide +kernel
theorem dX6_thingOf_33 : decode cX6_thingOf 33 = .ok (.bipush (-2), 2) := by decide +kernel
theorem dX6_thingOf_35 : decode cX6_thingOf 35 = .ok (.if_icmp .ne 13, 3) := by decide +kernel
theorem dX6_thingOf_38 : decode cX6_thingOf 38 = .ok (.aload_n 0, 1) := by decide +kernel
theorem dX6_thingOf_39 : decode cX6_thingOf 39 = .ok (.getfield 10, 3) := by decide +kernel
theorem dX6_thingOf_42 : decode cX6_thingOf 42 = .ok (.getfield 130, 3) := by decide +kernel
theorem dX6_thingOf_45 : decode cX6_thingOf 45 = .ok (.iload_n 1, 1) := by decide +kernel
theorem dX6_thingOf_46 : decode cX6_thingOf 46 = .ok (.iaload, 1) := by decide +kernel
theorem dX6_thingOf_47 : decode cX6_thingOf 47 = .ok (.ireturn, 1) := by decide +kernel
theorem dX6_thingOf_48 : decode cX6_thingOf 48 = .ok (.aload_n 0, 1) := by decide +kernel
theorem dX6_thingOf_49 : decode cX6_thingOf 49 = .ok (.getfield 10, 3) := by decide +kernel
theorem dX6_thingOf_52 : decode cX6_thingOf 52 = .ok (.iload_n 1, 1) := by decide +kernel
theorem dX6_thingOf_53 : decode cX6_thingOf 53 = .ok (.iload_n 2, 1) := by decide +kernel
theorem dX6_thingOf_54 : decode cX6_thingOf 54 = .ok (.invokevirtual 136, 3) := by decide +kernel
theorem dX6_thingOf_57 : decode cX6_thingOf 57 = .ok (.ifCond .eq 12, 3) := by decide +kernel
theorem dX6_thingOf_60 : decode cX6_thingOf 60 = .ok (.iload_n 3, 1) := by decide +kernel
theorem dX6_thingOf_61 : decode cX6_thingOf 61 = .ok (.iconst 0, 1) := by decide +kernel
theorem dX6_thingOf_62 : decode cX6_thingOf 62 = .ok (.iconst 2, 1) := by decide +kernel
theorem dX6_thingOf_63 : decode cX6_thingOf 63 = .ok (.invokestatic 71, 3) := by decide +kernel
theorem dX6_thingOf_66 : decode cX6_thingOf 66 = .ok (.ifCond .ne 9, 3) := by decide +kernel
theorem dX6_thingOf_69 : decode cX6_thingOf 69 = .ok (.aload_n 0, 1) := by decide +kernel
theorem dX6_thingOf_70 : decode cX6_thingOf 70 = .ok (.iconst 0, 1) := by decide +kernel
theorem dX6_thingOf_71 : decode cX6_thingOf 71 = .ok (.invokevirtual 75, 3) := by decide +kernel
theorem dX6_thingOf_74 : decode cX6_thingOf 74 = .ok (.ireturn, 1) := by decide +kernel
theorem dX6_thingOf_75 : decode cX6_thingOf 75 = .ok (.aload_n 0, 1) := by decide +kernel
theorem dX6_thingOf_76 : decode cX6_thingOf 76 = .ok (.getfield 10, 3) := by decide +kernel
theorem dX6_thingOf_79 : decode cX6_thingOf 79 = .ok (.iload_n 1, 1) := by decide +kernel
theorem dX6_thingOf_80 : decode cX6_thingOf 80 = .ok (.iload_n 2, 1) := by decide +kernel
theorem dX6_thingOf_81 : decode cX6_thingOf 81 = .ok (.iload_n 3, 1) := by decide +kernel
theorem dX6_thingOf_82 : decode cX6_thingOf 82 = .ok (.invokevirtual 140, 3) := by decide +kernel
theorem dX6_thingOf_85 : decode cX6_thingOf 85 = .ok (.ireturn, 1) := by decide +kernel
theorem dX6_turn_0 : decode cX6_turn 0 = .ok (.aload_n 0, 1) := by decide +kernel
theorem dX6_turn_1 : decode cX6_turn 1 = .ok (.getfield 10, 3) := by decide +kernel
theorem dX6_turn_4 : decode cX6_turn 4 = .ok (.iload_n 1, 1) := by decide +kernel
theorem dX6_turn_5 : decode cX6_turn 5 = .ok (.invokevirtual 127, 3) := by decide +kernel
theorem dX6_turn_8 : decode cX6_turn 8 = .ok (.ifCond .eq 13, 3) := by decide +kernel
theorem dX6_turn_11 : decode cX6_turn 11 = .ok (.iload_n 2, 1) := by decide +kernel
theorem dX6_turn_12 : decode cX6_turn 12 = .ok (.iconst 0, 1) := by decide +kernel
theorem dX6_turn_13 : decode cX6_turn 13 = .ok (.bipush 6, 2) := by decide +kernel
theorem dX6_turn_15 : decode cX6_turn 15 = .ok (.invokestatic 71, 3) := by decide +kernel
theorem dX6_turn_18 : decode cX6_turn 18 = .ok (.ifCond .ne 9, 3) := by decide +kernel
theorem dX6_turn_21 : decode cX6_turn 21 = .ok (.aload_n 0, 1) := by decide +kernel
theorem dX6_turn_22 : decode cX6_turn 22 = .ok (.iconst 0, 1) := by decide +kernel
theorem dX6_turn_23 : decode cX6_turn 23 = .ok (.invokevirtual 75, 3) := by decide +kernel
theorem dX6_turn_26 : decode cX6_turn 26 = .ok (.ireturn, 1) := by decide +kernel
theorem dX6_turn_27 : decode cX6_turn 27 = .ok (.aload_n 0, 1) := by decide +kernel
theorem dX6_turn_28 : decode cX6_turn 28 = .ok (.getfield 10, 3) := by decide +kernel
theorem dX6_turn_31 : decode cX6_turn 31 = .ok (.getfield 133, 3) := by decide +kernel
theorem dX6_turn_34 : decode cX6_turn 34 = .ok (.iload_n 1, 1) := by decide +kernel
theorem dX6_turn_35 : decode cX6_turn 35 = .ok (.iaload, 1) := by decide +kernel
theorem dX6_turn_36 : decode cX6_turn 36 = .ok (.istore_n 3, 1) := by decide +kernel
theorem dX6_turn_37 : decode cX6_turn 37 = .ok (.aload_n 0, 1) := by decide +kernel
theorem dX6_turn_38 : decode cX6_turn 38 = .ok (.getfield 10, 3) := by decide +kernel
theorem dX6_turn_41 : decode cX6_turn 41 = .ok (.getfield 133, 3) := by decide +kernel
theorem dX6_turn_44 : decode cX6_turn 44 = .ok (.iload_n 1, 1) := by decide +kernel
theorem dX6_turn_45 : decode cX6_turn 45 = .ok (.iload_n 2, 1) := by decide +kernel
theorem dX6_turn_46 : decode cX6_turn 46 = .ok (.iastore, 1) := by decide +kernel
theorem dX6_turn_47 : decode cX6_turn 47 = .ok (.iload_n 3, 1) := by decide +kernel
theorem dX6_turn_48 : decode cX6_turn 48 = .ok (.ireturn, 1) := by decide +kernel
theorem dX6_change_0 : decode cX6_change 0 = .ok (.aload_n 0, 1) := by decide +kernel
theorem dX6_change_1 : decode cX6_change 1 = .ok (.getfield 10, 3) := by decide +kernel
theorem dX6_change_4 : decode cX6_change 4 = .ok (.iload_n 1, 1) := by decide +kernel
theorem dX6_change_5 : decode cX6_change 5 = .ok (.iload_n 2, 1) := by decide +kernel
theorem dX6_change_6 : decode cX6_change 6 = .ok (.invokevirtual 136, 3) := by decide +kernel
theorem dX6_change_9 : decode cX6_change 9 = .ok (.ifCond .eq 25, 3) := by decide +kernel
theorem dX6_change_12 : decode cX6_change 12 = .ok (.iload_n 3, 1) := by decide +kernel
theorem dX6_change_13 : decode cX6_change 13 = .ok (.iconst 0, 1) := by decide +kernel
theorem dX6_change_14 : decode cX6_change 14 = .ok (.iconst 2, 1) := by decide +kernel
theorem dX6_change_15 : decode cX6_change 15 = .ok (.invokestatic 71, 3) := by decide +kernel
theorem dX6_change_18 : decode cX6_change 18 = .ok (.ifCond .eq 16, 3) := by decide +kernel
theorem dX6_change_21 : decode cX6_change 21 = .ok (.aload_n 0, 1) := by decide +kernel
theorem dX6_change_22 : decode cX6_change 22 = .ok (.getfield 10, 3) := by decide +kernel
theorem dX6_change_25 : decode cX6_change 25 = .ok (.iload_n 3, 1) := by decide +kernel
theorem dX6_change_26 : decode cX6_change 26 = .ok (.iload 4, 2) := by decide +kernel
theorem dX6_change_28 : decode cX6_change 28 = .ok (.invokevirtual 143, 3) := by decide +kernel
theorem dX6_change_31 : decode cX6_change 31 = .ok (.ifCond .ne 9, 3) := by decide +kernel
theorem dX6_change_34 : decode cX6_change 34 = .ok (.aload_n 0, 1) := by decide +kernel
theorem dX6_change_35 : decode cX6_change 35 = .ok (.iconst 0, 1) := by decide +kernel
theorem dX6_change_36 : decode cX6_change 36 = .ok (.invokevirtual 75, 3) := by decide +kernel
theorem dX6_change_39 : decode cX6_change 39 = .ok (.ireturn, 1) := by decide +kernel
theorem dX6_change_40 : decode cX6_change 40 = .ok (.aload_n 0, 1) := by decide +kernel
theorem dX6_change_41 : decode cX6_change 41 = .ok (.getfield 10, 3) := by decide +kernel
theorem dX6_change_44 : decode cX6_change 44 = .ok (.iload_n 1, 1) := by decide +kernel
theorem dX6_change_45 : decode cX6_change 45 = .ok (.iload_n 2, 1) := by decide +kernel
theorem dX6_change_46 : decode cX6_change 46 = .ok (.iload_n 3, 1) := by decide +kernel
theorem dX6_change_47 : decode cX6_change 47 = .ok (.invokevirtual 140, 3) := by decide +kernel
theorem dX6_change_50 : decode cX6_change 50 = .ok (.istore 5, 2) := by decide +kernel
theorem dX6_change_52 : decode cX6_change 52 = .ok (.aload_n 0, 1) := by decide +kernel
theorem dX6_change_53 : decode cX6_change 53 = .ok (.getfield 10, 3) := by decide +kernel
theorem dX6_change_56 : decode cX6_change 56 = .ok (.iload_n 1, 1) := by decide +kernel
theorem dX6_change_57 : decode cX6_change 57 = .ok (.iload_n 2, 1) := by decide +kernel
theorem dX6_change_58 : decode cX6_change 58 = .ok (.iload_n 3, 1) := by decide +kernel
theorem dX6_change_59 : decode cX6_change 59 = .ok (.iload 4, 2) := by decide +kernel
theorem dX6_change_61 : decode cX6_change 61 = .ok (.invokevirtual 146, 3) := by decide +kernel
theorem dX6_change_64 : decode cX6_change 64 = .ok (.iload 5, 2) := by decide +kernel
theorem dX6_change_66 : decode cX6_change 66 = .ok (.ireturn, 1) := by decide +kernel
theorem dX6_next_0 : decode cX6_next 0 = .ok (.aload_n 0, 1) := by decide +kernel
theorem dX6_next_1 : decode cX6_next 1 = .ok (.getfield 10, 3) := by decide +kernel
theorem dX6_next_4 : decode cX6_next 4 = .ok (.iload_n 1, 1) := by decide +kernel
theorem dX6_next_5 : decode cX6_next 5 = .ok (.iload_n 2, 1) := by decide +kernel
theorem dX6_next_6 : decode cX6_next 6 = .ok (.invokevirtual 136, 3) := by decide +kernel
theorem dX6_next_9 : decode cX6_next 9 = .ok (.ifCond .eq 14, 3) := by decide +kernel
theorem dX6_next_12 : decode cX6_next 12 = .ok (.iload_n 3, 1) := by decide +kernel
theorem dX6_next_13 : decode cX6_next 13 = .ok (.iconst 0, 1) := by decide +kernel
theorem dX6_next_14 : decode cX6_next 14 = .ok (.sipush 999, 3) := by decide +kernel
theorem dX6_next_17 : decode cX6_next 17 = .ok (.invokestatic 71, 3) := by decide +kernel
theorem dX6_next_20 : decode cX6_next 20 = .ok (.ifCond .ne 9, 3) := by decide +kernel
theorem dX6_next_23 : decode cX6_next 23 = .ok (.aload_n 0, 1) := by decide +kernel
theorem dX6_next_24 : decode cX6_next 24 = .ok (.iconst 0, 1) := by decide +kernel
theorem dX6_next_25 : decode cX6_next 25 = .ok (.invokevirtual 75, 3) := by decide +kernel
theorem dX6_next_28 : decode cX6_next 28 = .ok (.ireturn, 1) := by decide +kernel
theorem dX6_next_29 : decode cX6_next 29 = .ok (.aload_n 0, 1) := by decide +kernel
theorem dX6_next_30 : decode cX6_next 30 = .ok (.aload_n 0, 1) := by decide +kernel
theorem dX6_next_31 : decode cX6_next 31 = .ok (.getfield 34, 3) := by decide +kernel
theorem dX6_next_34 : decode cX6_next 34 = .ok (.iload_n 1, 1) := by decide +kernel
theorem dX6_next_35 : decode cX6_next 35 = .ok (.iload_n 2, 1) := by decide +kernel
theorem dX6_next_36 : decode cX6_next 36 = .ok (.iload_n 3, 1) := by decide +kernel
theorem dX6_next_37 : decode cX6_next 37 = .ok (.invokevirtual 150, 3) := by decide +kernel
theorem dX6_next_40 : decode cX6_next 40 = .ok (.invokevirtual 153, 3) := by decide +kernel
theorem dX6_next_43 : decode cX6_next 43 = .ok (.ireturn, 1) := by decide +kernel
theorem dX6_run_0 : decode cX6_run 0 = .ok (.aload_n 0, 1) := by decide +kernel
theorem dX6_run_1 : decode cX6_run 1 = .ok (.getfield 10, 3) := by decide +kernel
theorem dX6_run_4 : decode cX6_run 4 = .ok (.iload_n 1, 1) := by decide +kernel
theorem dX6_run_5 : decode cX6_run 5 = .ok (.iload_n 3, 1) := by decide +kernel
theorem dX6_run_6 : decode cX6_run 6 = .ok (.invokevirtual 136, 3) := by decide +kernel
theorem dX6_run_9 : decode cX6_run 9 = .ok (.ifCond .eq 14, 3) := by decide +kernel
theorem dX6_run_12 : decode cX6_run 12 = .ok (.iload_n 2, 1) := by decide +kernel
theorem dX6_run_13 : decode cX6_run 13 = .ok (.iconst 0, 1) := by decide +kernel
theorem dX6_run_14 : decode cX6_run 14 = .ok (.sipush 999, 3) := by decide +kernel
theorem dX6_run_17 : decode cX6_run 17 = .ok (.invokestatic 71, 3) := by decide +kernel
theorem dX6_run_20 : decode cX6_run 20 = .ok (.ifCond .ne 9, 3) := by decide +kernel
theorem dX6_run_23 : decode cX6_run 23 = .ok (.aload_n 0, 1) := by decide +kernel
theorem dX6_run_24 : decode cX6_run 24 = .ok (.iconst 0, 1) := by decide +kernel
theorem dX6_run_25 : decode cX6_run 25 = .ok (.invokevirtual 75, 3) := by decide +kernel
theorem dX6_run_28 : decode cX6_run 28 = .ok (.ireturn, 1) := by decide +kernel
theorem dX6_run_29 : decode cX6_run 29 = .ok (.aload_n 0, 1) := by decide +kernel
theorem dX6_run_30 : decode cX6_run 30 = .ok (.aload_n 0, 1) := by decide +kernel
theorem dX6_run_31 : decode cX6_run 31 = .ok (.getfield 34, 3) := by decide +kernel
theorem dX6_run_34 : decode cX6_run 34 = .ok (.iload_n 1, 1) := by decide +kernel
theorem dX6_run_35 : decode cX6_run 35 = .ok (.iload_n 2, 1) := by decide +kernel
theorem dX6_run_36 : decode cX6_run 36 = .ok (.invokevirtual 156, 3) := by decide +kernel
theorem dX6_run_39 : decode cX6_run 39 = .ok (.ifCond .ge 15, 3) := by decide +kernel
theorem dX6_run_42 : decode cX6_run 42 = .ok (.aload_n 0, 1) := by decide +kernel
theorem dX6_run_43 : decode cX6_run 43 = .ok (.getfield 34, 3) := by decide +kernel
theorem dX6_run_46 : decode cX6_run 46 = .ok (.getfield 160, 3) := by decide +kernel
theorem dX6_run_49 : decode cX6_run 49 = .ok (.iload_n 3, 1) := by decide +kernel
theorem dX6_run_50 : decode cX6_run 50 = .ok (.iaload, 1) := by decide +kernel
theorem dX6_run_51 : decode cX6_run 51 = .ok (.goto 4, 3) := by decide +kernel
theorem dX6_run_54 : decode cX6_run 54 = .ok (.iconst (-1), 1) := by decide +kernel
theorem dX6_run_55 : decode cX6_run 55 = .ok (.invokevirtual 153, 3) := by decide +kernel
theorem dX6_run_58 : decode cX6_run 58 = .ok (.ireturn, 1) := by decide +kernel
theorem dX6_spoils_0 : decode cX6_spoils 0 = .ok (.aload_n 0, 1) := by decide +kernel
theorem dX6_spoils_1 : decode cX6_spoils 1 = .ok (.getfield 10, 3) := by decide +kernel
theorem dX6_spoils_4 : decode cX6_spoils 4 = .ok (.iload_n 1, 1) := by decide +kernel
theorem dX6_spoils_5 : decode cX6_spoils 5 = .ok (.invokevirtual 127, 3) := by decide +kernel
theorem dX6_spoils_8 : decode cX6_spoils 8 = .ok (.ifCond .eq 14, 3) := by decide +kernel
theorem dX6_spoils_11 : decode cX6_spoils 11 = .ok (.iload_n 2, 1) := by decide +kernel
theorem dX6_spoils_12 : decode cX6_spoils 12 = .ok (.iconst 0, 1) := by decide +kernel
theorem dX6_spoils_13 : decode cX6_spoils 13 = .ok (.sipush 999, 3) := by decide +kernel
theorem dX6_spoils_16 : decode cX6_spoils 16 = .ok (.invokestatic 71, 3) := by decide +kernel
theorem dX6_spoils_19 : decode cX6_spoils 19 = .ok (.ifCond .ne 9, 3) := by decide +kernel
theorem dX6_spoils_22 : decode cX6_spoils 22 = .ok (.aload_n 0, 1) := by decide +kernel
theorem dX6_spoils_23 : decode cX6_spoils 23 = .ok (.iconst 0, 1) := by decide +kernel
theorem dX6_spoils_24 : decode cX6_spoils 24 = .ok (.invokevirtual 75, 3) := by decide +kernel
theorem dX6_spoils_27 : decode cX6_spoils 27 = .ok (.ireturn, 1) := by decide +kernel
theorem dX6_spoils_28 : decode cX6_spoils 28 = .ok (.aload_n 0, 1) := by decide +kernel
theorem dX6_spoils_29 : decode cX6_spoils 29 = .ok (.aload_n 0, 1) := by decide +kernel
theorem dX6_spoils_30 : decode cX6_spoils 30 = .ok (.getfield 34, 3) := by decide +kernel
theorem dX6_spoils_33 : decode cX6_spoils 33 = .ok (.iload_n 1, 1) := by decide +kernel
theorem dX6_spoils_34 : decode cX6_spoils 34 = .ok (.iload_n 2, 1) := by decide +kernel
theorem dX6_spoils_35 : decode cX6_spoils 35 = .ok (.invokevirtual 156, 3) := by decide +kernel
theorem dX6_spoils_38 : decode cX6_spoils 38 = .ok (.invokevirtual 153, 3) := by decide +kernel
theorem dX6_spoils_41 : decode cX6_spoils 41 = .ok (.ireturn, 1) := by decide +kernel
theorem dX6_ready_0 : decode cX6_ready 0 = .ok (.aload_n 0, 1) := by decide +kernel
theorem dX6_ready_1 : decode cX6_ready 1 = .ok (.getfield 10, 3) := by decide +kernel
theorem dX6_ready_4 : decode cX6_ready 4 = .ok (.iload_n 1, 1) := by decide +kernel
theorem dX6_ready_5 : decode cX6_ready 5 = .ok (.invokevirtual 127, 3) := by decide +kernel
theorem dX6_ready_8 : decode cX6_ready 8 = .ok (.ifCond .eq 14, 3) := by decide +kernel
theorem dX6_ready_11 : decode cX6_ready 11 = .ok (.iload_n 2, 1) := by decide +kernel
theorem dX6_ready_12 : decode cX6_ready 12 = .ok (.iconst 0, 1) := by decide +kernel
theorem dX6_ready_13 : decode cX6_ready 13 = .ok (.sipush 999, 3) := by decide +kernel
theorem dX6_ready_16 : decode cX6_ready 16 = .ok (.invokestatic 71, 3) := by decide +kernel
theorem dX6_ready_19 : decode cX6_ready 19 = .ok (.ifCond .ne 9, 3) := by decide +kernel
theorem dX6_ready_22 : decode cX6_ready 22 = .ok (.aload_n 0, 1) := by decide +kernel
theorem dX6_ready_23 : decode cX6_ready 23 = .ok (.iconst 0, 1) := by decide +kernel
theorem dX6_ready_24 : decode cX6_ready 24 = .ok (.invokevirtual 75, 3) := by decide +kernel
theorem dX6_ready_27 : decode cX6_ready 27 = .ok (.ireturn, 1) := by decide +kernel
theorem dX6_ready_28 : decode cX6_ready 28 = .ok (.aload_n 0, 1) := by decide +kernel
theorem dX6_ready_29 : decode cX6_ready 29 = .ok (.aload_n 0, 1) := by decide +kernel
theorem dX6_ready_30 : decode cX6_ready 30 = .ok (.getfield 34, 3) := by decide +kernel
theorem dX6_ready_33 : decode cX6_ready 33 = .ok (.iload_n 1, 1) := by decide +kernel
theorem dX6_ready_34 : decode cX6_ready 34 = .ok (.iload_n 2, 1) := by decide +kernel
theorem dX6_ready_35 : decode cX6_ready 35 = .ok (.invokevirtual 163, 3) := by decide +kernel
theorem dX6_ready_38 : decode cX6_ready 38 = .ok (.invokevirtual 153, 3) := by decide +kernel
theorem dX6_ready_41 : decode cX6_ready 41 = .ok (.ireturn, 1) := by decide +kernel
theorem dX6_begun_0 : decode cX6_begun 0 = .ok (.aload_n 0, 1) := by decide +kernel
theorem dX6_begun_1 : decode cX6_begun 1 = .ok (.getfield 10, 3) := by decide +kernel
theorem dX6_begun_4 : decode cX6_begun 4 = .ok (.iload_n 1, 1) := by decide +kernel
theorem dX6_begun_5 : decode cX6_begun 5 = .ok (.invokevirtual 127, 3) := by decide +kernel
theorem dX6_begun_8 : decode cX6_begun 8 = .ok (.ifCond .eq 14, 3) := by decide +kernel
theorem dX6_begun_11 : decode cX6_begun 11 = .ok (.iload_n 2, 1) := by decide +kernel
theorem dX6_begun_12 : decode cX6_begun 12 = .ok (.iconst 0, 1) := by decide +kernel
theorem dX6_begun_13 : decode cX6_begun 13 = .ok (.sipush 999, 3) := by decide +kernel
theorem dX6_begun_16 : decode cX6_begun 16 = .ok (.invokestatic 71, 3) := by decide +kernel
theorem dX6_begun_19 : decode cX6_begun 19 = .ok (.ifCond .ne 9, 3) := by decide +kernel
theorem dX6_begun_22 : decode cX6_begun 22 = .ok (.aload_n 0, 1) := by decide +kernel
theorem dX6_begun_23 : decode cX6_begun 23 = .ok (.iconst 0, 1) := by decide +kernel
theorem dX6_begun_24 : decode cX6_begun 24 = .ok (.invokevirtual 75, 3) := by decide +kernel
theorem dX6_begun_27 : decode cX6_begun 27 = .ok (.ireturn, 1) := by decide +kernel
theorem dX6_begun_28 : decode cX6_begun 28 = .ok (.aload_n 0, 1) := by decide +kernel
theorem dX6_begun_29 : decode cX6_begun 29 = .ok (.aload_n 0, 1) := by decide +kernel
theorem dX6_begun_30 : decode cX6_begun 30 = .ok (.getfield 34, 3) := by decide +kernel
theorem dX6_begun_33 : decode cX6_begun 33 = .ok (.iload_n 1, 1) := by decide +kernel
theorem dX6_begun_34 : decode cX6_begun 34 = .ok (.iload_n 2, 1) := by decide +kernel
theorem dX6_begun_35 : decode cX6_begun 35 = .ok (.invokevirtual 166, 3) := by decide +kernel
theorem dX6_begun_38 : decode cX6_begun 38 = .ok (.invokevirtual 153, 3) := by decide +kernel
theorem dX6_begun_41 : decode cX6_begun 41 = .ok (.ireturn, 1) := by decide +kernel
theorem dX6_latest_0 : decode cX6_latest 0 = .ok (.aload_n 0, 1) := by decide +kernel
theorem dX6_latest_1 : decode cX6_latest 1 = .ok (.getfield 10, 3) := by decide +kernel
theorem dX6_latest_4 : decode cX6_latest 4 = .ok (.iload_n 1, 1) := by decide +kernel
theorem dX6_latest_5 : decode cX6_latest 5 = .ok (.invokevirtual 127, 3) := by decide +kernel
theorem dX6_latest_8 : decode cX6_latest 8 = .ok (.ifCond .eq 14, 3) := by decide +kernel
theorem dX6_latest_11 : decode cX6_latest 11 = .ok (.iload_n 2, 1) := by decide +kernel
theorem dX6_latest_12 : decode cX6_latest 12 = .ok (.iconst 0, 1) := by decide +kernel
theorem dX6_latest_13 : decode cX6_latest 13 = .ok (.sipush 400, 3) := by decide +kernel
theorem dX6_latest_16 : decode cX6_latest 16 = .ok (.invokestatic 71, 3) := by decide +kernel
theorem dX6_latest_19 : decode cX6_latest 19 = .ok (.ifCond .ne 9, 3) := by decide +kernel
theorem dX6_latest_22 : decode cX6_latest 22 = .ok (.aload_n 0, 1) := by decide +kernel
theorem dX6_latest_23 : decode cX6_latest 23 = .ok (.iconst 0, 1) := by decide +kernel
theorem dX6_latest_24 : decode cX6_latest 24 = .ok (.invokevirtual 75, 3) := by decide +kernel
theorem dX6_latest_27 : decode cX6_latest 27 = .ok (.ireturn, 1) := by decide +kernel
theorem dX6_latest_28 : decode cX6_latest 28 = .ok (.aload_n 0, 1) := by decide +kernel
theorem dX6_latest_29 : decode cX6_latest 29 = .ok (.aload_n 0, 1) := by decide +kernel
theorem dX6_latest_30 : decode cX6_latest 30 = .ok (.getfield 34, 3) := by decide +kernel
theorem dX6_latest_33 : decode cX6_latest 33 = .ok (.iload_n 1, 1) := by decide +kernel
theorem dX6_latest_34 : decode cX6_latest 34 = .ok (.iload_n 2, 1) := by decide +kernel
theorem dX6_latest_35 : decode cX6_latest 35 = .ok (.invokevirtual 169, 3) := by decide +kernel
theorem dX6_latest_38 : decode cX6_latest 38 = .ok (.invokevirtual 153, 3) := by decide +kernel
theorem dX6_latest_41 : decode cX6_latest 41 = .ok (.ireturn, 1) := by decide +kernel
theorem dX6_waits_0 : decode cX6_waits 0 = .ok (.aload_n 0, 1) := by decide +kernel
theorem dX6_waits_1 : decode cX6_waits 1 = .ok (.getfield 10, 3) := by decide +kernel
theorem dX6_waits_4 : decode cX6_waits 4 = .ok (.iload_n 1, 1) := by decide +kernel
theorem dX6_waits_5 : decode cX6_waits 5 = .ok (.invokevirtual 127, 3) := by decide +kernel
theorem dX6_waits_8 : decode cX6_waits 8 = .ok (.ifCond .eq 14, 3) := by decide +kernel
theorem dX6_waits_11 : decode cX6_waits 11 = .ok (.iload_n 2, 1) := by decide +kernel
theorem dX6_waits_12 : decode cX6_waits 12 = .ok (.iconst 0, 1) := by decide +kernel
theorem dX6_waits_13 : decode cX6_waits 13 = .ok (.sipush 999, 3) := by decide +kernel
theorem dX6_waits_16 : decode cX6_waits 16 = .ok (.invokestatic 71, 3) := by decide +kernel
theorem dX6_waits_19 : decode cX6_waits 19 = .ok (.ifCond .ne 9, 3) := by decide +kernel
theorem dX6_waits_22 : decode cX6_waits 22 = .ok (.aload_n 0, 1) := by decide +kernel
theorem dX6_waits_23 : decode cX6_waits 23 = .ok (.iconst 0, 1) := by decide +kernel
theorem dX6_waits_24 : decode cX6_waits 24 = .ok (.invokevirtual 75, 3) := by decide +kernel
theorem dX6_waits_27 : decode cX6_waits 27 = .ok (.ireturn, 1) := by decide +kernel
theorem dX6_waits_28 : decode cX6_waits 28 = .ok (.aload_n 0, 1) := by decide +kernel
theorem dX6_waits_29 : decode cX6_waits 29 = .ok (.getfield 34, 3) := by decide +kernel
theorem dX6_waits_32 : decode cX6_waits 32 = .ok (.iload_n 1, 1) := by decide +kernel
theorem dX6_waits_33 : decode cX6_waits 33 = .ok (.iload_n 2, 1) := by decide +kernel
theorem dX6_waits_34 : decode cX6_waits 34 = .ok (.invokevirtual 166, 3) := by decide +kernel
theorem dX6_waits_37 : decode cX6_waits 37 = .ok (.ifCond .ge 9, 3) := by decide +kernel
theorem dX6_waits_40 : decode cX6_waits 40 = .ok (.aload_n 0, 1) := by decide +kernel
theorem dX6_waits_41 : decode cX6_waits 41 = .ok (.iconst 3, 1) := by decide +kernel
theorem dX6_waits_42 : decode cX6_waits 42 = .ok (.invokevirtual 75, 3) := by decide +kernel
theorem dX6_waits_45 : decode cX6_waits 45 = .ok (.ireturn, 1) := by decide +kernel
theorem dX6_waits_46 : decode cX6_waits 46 = .ok (.aload_n 0, 1) := by decide +kernel
theorem dX6_waits_47 : decode cX6_waits 47 = .ok (.getfield 34, 3) := by decide +kernel
theorem dX6_waits_50 : decode cX6_waits 50 = .ok (.iload_n 1, 1) := by decide +kernel
theorem dX6_waits_51 : decode cX6_waits 51 = .ok (.invokevirtual 172, 3) := by decide +kernel
theorem dX6_waits_54 : decode cX6_waits 54 = .ok (.ireturn, 1) := by decide +kernel
theorem dX6_order_0 : decode cX6_order 0 = .ok (.aload_n 0, 1) := by decide +kernel
theorem dX6_order_1 : decode cX6_order 1 = .ok (.getfield 10, 3) := by decide +kernel
theorem dX6_order_4 : decode cX6_order 4 = .ok (.iload_n 1, 1) := by decide +kernel
theorem dX6_order_5 : decode cX6_order 5 = .ok (.invokevirtual 127, 3) := by decide +kernel
theorem dX6_order_8 : decode cX6_order 8 = .ok (.ifCond .eq 24, 3) := by decide +kernel
theorem dX6_order_11 : decode cX6_order 11 = .ok (.iload_n 2, 1) := by decide +kernel
theorem dX6_order_12 : decode cX6_order 12 = .ok (.iconst 0, 1) := by decide +kernel
theorem dX6_order_13 : decode cX6_order 13 = .ok (.sipush 399, 3) := by decide +kernel
theorem dX6_order_16 : decode cX6_order 16 = .ok (.invokestatic 71, 3) := by decide +kernel
theorem dX6_order_19 : decode cX6_order 19 = .ok (.ifCond .eq 13, 3) := by decide +kernel
theorem dX6_order_22 : decode cX6_order 22 = .ok (.iload_n 3, 1) := by decide +kernel
theorem dX6_order_23 : decode cX6_order 23 = .ok (.iconst 1, 1) := by decide +kernel
theorem dX6_order_24 : decode cX6_order 24 = .ok (.bipush 99, 2) := by decide +kernel
theorem dX6_order_26 : decode cX6_order 26 = .ok (.invokestatic 71, 3) := by decide +kernel
theorem dX6_order_29 : decode cX6_order 29 = .ok (.ifCond .ne 9, 3) := by decide +kernel
theorem dX6_order_32 : decode cX6_order 32 = .ok (.aload_n 0, 1) := by decide +kernel
theorem dX6_order_33 : decode cX6_order 33 = .ok (.iconst 0, 1) := by decide +kernel
theorem dX6_order_34 : decode cX6_order 34 = .ok (.invokevirtual 75, 3) := by decide +kernel
theorem dX6_order_37 : decode cX6_order 37 = .ok (.ireturn, 1) := by decide +kernel
theorem dX6_order_38 : decode cX6_order 38 = .ok (.aload_n 0, 1) := by decide +kernel
theorem dX6_order_39 : decode cX6_order 39 = .ok (.getfield 10, 3) := by decide +kernel
theorem dX6_order_42 : decode cX6_order 42 = .ok (.getfield 175, 3) := by decide +kernel
theorem dX6_order_45 : decode cX6_order 45 = .ok (.iconst 5, 1) := by decide +kernel
theorem dX6_order_46 : decode cX6_order 46 = .ok (.if_icmp .lt 9, 3) := by decide +kernel
theorem dX6_order_49 : decode cX6_order 49 = .ok (.aload_n 0, 1) := by decide +kernel
theorem dX6_order_50 : decode cX6_order 50 = .ok (.iconst 1, 1) := by decide +kernel
theorem dX6_order_51 : decode cX6_order 51 = .ok (.invokevirtual 75, 3) := by decide +kernel
theorem dX6_order_54 : decode cX6_order 54 = .ok (.ireturn, 1) := by decide +kernel
theorem dX6_order_55 : decode cX6_order 55 = .ok (.aload_n 0, 1) := by decide +kernel
theorem dX6_order_56 : decode cX6_order 56 = .ok (.getfield 10, 3) := by decide +kernel
theorem dX6_order_59 : decode cX6_order 59 = .ok (.iload_n 1, 1) := by decide +kernel
theorem dX6_order_60 : decode cX6_order 60 = .ok (.iload_n 2, 1) := by decide +kernel
theorem dX6_order_61 : decode cX6_order 61 = .ok (.iload_n 3, 1) := by decide +kernel
theorem dX6_order_62 : decode cX6_order 62 = .ok (.invokevirtual 178, 3) := by decide +kernel
theorem dX6_order_65 : decode cX6_order 65 = .ok (.ireturn, 1) := by decide +kernel
theorem dX6_orderOf_0 : decode cX6_orderOf 0 = .ok (.iload_n 1, 1) := by decide +kernel
theorem dX6_orderOf_1 : decode cX6_orderOf 1 = .ok (.iconst 0, 1) := by decide +kernel
theorem dX6_orderOf_2 : decode cX6_orderOf 2 = .ok (.aload_n 0, 1) := by decide +kernel
theorem dX6_orderOf_3 : decode cX6_orderOf 3 = .ok (.getfield 10, 3) := by decide +kernel
theorem dX6_orderOf_6 : decode cX6_orderOf 6 = .ok (.getfield 175, 3) := by decide +kernel
theorem dX6_orderOf_9 : decode cX6_orderOf 9 = .ok (.iconst 1, 1) := by decide +kernel
theorem dX6_orderOf_10 : decode cX6_orderOf 10 = .ok (.isub, 1) := by decide +kernel
theorem dX6_orderOf_11 : decode cX6_orderOf 11 = .ok (.invokestatic 71, 3) := by decide +kernel
theorem dX6_orderOf_14 : decode cX6_orderOf 14 = .ok (.ifCond .eq 12, 3) := by decide +kernel
theorem dX6_orderOf_17 : decode cX6_orderOf 17 = .ok (.iload_n 2, 1) := by decide +kernel
theorem dX6_orderOf_18 : decode cX6_orderOf 18 = .ok (.iconst 0, 1) := by decide +kernel
theorem dX6_orderOf_19 : decode cX6_orderOf 19 = .ok (.iconst 2, 1) := by decide +kernel
theorem dX6_orderOf_20 : decode cX6_orderOf 20 = .ok (.invokestatic 71, 3) := by decide +kernel
theorem dX6_orderOf_23 : decode cX6_orderOf 23 = .ok (.ifCond .ne 9, 3) := by decide +kernel
theorem dX6_orderOf_26 : decode cX6_orderOf 26 = .ok (.aload_n 0, 1) := by decide +kernel
theorem dX6_orderOf_27 : decode cX6_orderOf 27 = .ok (.iconst 0, 1) := by decide +kernel
theorem dX6_orderOf_28 : decode cX6_orderOf 28 = .ok (.invokevirtual 75, 3) := by decide +kernel
theorem dX6_orderOf_31 : decode cX6_orderOf 31 = .ok (.ireturn, 1) := by decide +kernel
theorem dX6_orderOf_32 : decode cX6_orderOf 32 = .ok (.aload_n 0, 1) := by decide +kernel
theorem dX6_orderOf_33 : decode cX6_orderOf 33 = .ok (.getfield 10, 3) := by decide +kernel
theorem dX6_orderOf_36 : decode cX6_orderOf 36 = .ok (.iload_n 1, 1) := by decide +kernel
theorem dX6_orderOf_37 : decode cX6_orderOf 37 = .ok (.iload_n 2, 1) := by decide +kernel
theorem dX6_orderOf_38 : decode cX6_orderOf 38 = .ok (.invokevirtual 181, 3) := by decide +kernel
theorem dX6_orderOf_41 : decode cX6_orderOf 41 = .ok (.ireturn, 1) := by decide +kernel
theorem dX6_clear_0 : decode cX6_clear 0 = .ok (.aload_n 0, 1) := by decide +kernel
theorem dX6_clear_1 : decode cX6_clear 1 = .ok (.getfield 10, 3) := by decide +kernel
theorem dX6_clear_4 : decode cX6_clear 4 = .ok (.getfield 175, 3) := by decide +kernel
theorem dX6_clear_7 : decode cX6_clear 7 = .ok (.istore_n 1, 1) := by decide +kernel
theorem dX6_clear_8 : decode cX6_clear 8 = .ok (.aload_n 0, 1) := by decide +kernel
theorem dX6_clear_9 : decode cX6_clear 9 = .ok (.getfield 10, 3) := by decide +kernel
theorem dX6_clear_12 : decode cX6_clear 12 = .ok (.iconst 0, 1) := by decide +kernel
theorem dX6_clear_13 : decode cX6_clear 13 = .ok (.putfield 175, 3) := by decide +kernel
theorem dX6_clear_16 : decode cX6_clear 16 = .ok (.iload_n 1, 1) := by decide +kernel
theorem dX6_clear_17 : decode cX6_clear 17 = .ok (.ireturn, 1) := by decide +kernel
theorem dX6_taken_0 : decode cX6_taken 0 = .ok (.aload_n 0, 1) := by decide +kernel
theorem dX6_taken_1 : decode cX6_taken 1 = .ok (.getfield 43, 3) := by decide +kernel
theorem dX6_taken_4 : decode cX6_taken 4 = .ok (.iload_n 1, 1) := by decide +kernel
theorem dX6_taken_5 : decode cX6_taken 5 = .ok (.iload_n 2, 1) := by decide +kernel
theorem dX6_taken_6 : decode cX6_taken 6 = .ok (.invokevirtual 184, 3) := by decide +kernel
theorem dX6_taken_9 : decode cX6_taken 9 = .ok (.ifCond .eq 20, 3) := by decide +kernel
theorem dX6_taken_12 : decode cX6_taken 12 = .ok (.iload_n 3, 1) := by decide +kernel
theorem dX6_taken_13 : decode cX6_taken 13 = .ok (.iconst 0, 1) := by decide +kernel
theorem dX6_taken_14 : decode cX6_taken 14 = .ok (.iconst 2, 1) := by decide +kernel
theorem dX6_taken_15 : decode cX6_taken 15 = .ok (.aload_n 0, 1) := by decide +kernel
theorem dX6_taken_16 : decode cX6_taken 16 = .ok (.getfield 10, 3) := by decide +kernel
theorem dX6_taken_19 : decode cX6_taken 19 = .ok (.getfield 100, 3) := by decide +kernel
theorem dX6_taken_22 : decode cX6_taken 22 = .ok (.iadd, 1) := by decide +kernel
theorem dX6_taken_23 : decode cX6_taken 23 = .ok (.invokestatic 71, 3) := by decide +kernel
theorem dX6_taken_26 : decode cX6_taken 26 = .ok (.ifCond .ne 9, 3) := by decide +kernel
theorem dX6_taken_29 : decode cX6_taken 29 = .ok (.aload_n 0, 1) := by decide +kernel
theorem dX6_taken_30 : decode cX6_taken 30 = .ok (.iconst 0, 1) := by decide +kernel
theorem dX6_taken_31 : decode cX6_taken 31 = .ok (.invokevirtual 75, 3) := by decide +kernel
theorem dX6_taken_34 : decode cX6_taken 34 = .ok (.ireturn, 1) := by decide +kernel
theorem dX6_taken_35 : decode cX6_taken 35 = .ok (.aload_n 0, 1) := by decide +kernel
theorem dX6_taken_36 : decode cX6_taken 36 = .ok (.getfield 43, 3) := by decide +kernel
theorem dX6_taken_39 : decode cX6_taken 39 = .ok (.invokevirtual 187, 3) := by decide +kernel
theorem dX6_taken_42 : decode cX6_taken 42 = .ok (.aload_n 0, 1) := by decide +kernel
theorem dX6_taken_43 : decode cX6_taken 43 = .ok (.getfield 43, 3) := by decide +kernel
theorem dX6_taken_46 : decode cX6_taken 46 = .ok (.iload_n 2, 1) := by decide +kernel
theorem dX6_taken_47 : decode cX6_taken 47 = .ok (.invokevirtual 190, 3) := by decide +kernel
theorem dX6_taken_50 : decode cX6_taken 50 = .ok (.iload_n 3, 1) := by decide +kernel
theorem dX6_taken_51 : decode cX6_taken 51 = .ok (.tableswitch 49 0 2 #[25, 33, 41], 25) := by decide +kernel
theorem dX6_taken_76 : decode cX6_taken 76 = .ok (.aload_n 0, 1) := by decide +kernel
theorem dX6_taken_77 : decode cX6_taken 77 = .ok (.getfield 43, 3) := by decide +kernel
theorem dX6_taken_80 : decode cX6_taken 80 = .ok (.getfield 194, 3) := by decide +kernel
theorem dX6_taken_83 : decode cX6_taken 83 = .ok (.ireturn, 1) := by decide +kernel
theorem dX6_taken_84 : decode cX6_taken 84 = .ok (.aload_n 0, 1) := by decide +kernel
theorem dX6_taken_85 : decode cX6_taken 85 = .ok (.getfield 43, 3) := by decide +kernel
theorem dX6_taken_88 : decode cX6_taken 88 = .ok (.getfield 197, 3) := by decide +kernel
theorem dX6_taken_91 : decode cX6_taken 91 = .ok (.ireturn, 1) := by decide +kernel
theorem dX6_taken_92 : decode cX6_taken 92 = .ok (.aload_n 0, 1) := by decide +kernel
theorem dX6_taken_93 : decode cX6_taken 93 = .ok (.getfield 43, 3) := by decide +kernel
theorem dX6_taken_96 : decode cX6_taken 96 = .ok (.getfield 200, 3) := by decide +kernel
theorem dX6_taken_99 : decode cX6_taken 99 = .ok (.ireturn, 1) := by decide +kernel
theorem dX6_taken_100 : decode cX6_taken 100 = .ok (.aload_n 0, 1) := by decide +kernel
theorem dX6_taken_101 : decode cX6_taken 101 = .ok (.getfield 43, 3) := by decide +kernel
theorem dX6_taken_104 : decode cX6_taken 104 = .ok (.getfield 203, 3) := by decide +kernel
theorem dX6_taken_107 : decode cX6_taken 107 = .ok (.iload_n 3, 1) := by decide +kernel
theorem dX6_taken_108 : decode cX6_taken 108 = .ok (.iconst 3, 1) := by decide +kernel
theorem dX6_taken_109 : decode cX6_taken 109 = .ok (.isub, 1) := by decide +kernel
theorem dX6_taken_110 : decode cX6_taken 110 = .ok (.iaload, 1) := by decide +kernel
theorem dX6_taken_111 : decode cX6_taken 111 = .ok (.ireturn, 1) := by decide +kernel
theorem dX6_best_0 : decode cX6_best 0 = .ok (.iload_n 1, 1) := by decide +kernel
theorem dX6_best_1 : decode cX6_best 1 = .ok (.iconst 0, 1) := by decide +kernel
theorem dX6_best_2 : decode cX6_best 2 = .ok (.iconst 2, 1) := by decide +kernel
theorem dX6_best_3 : decode cX6_best 3 = .ok (.invokestatic 71, 3) := by decide +kernel
theorem dX6_best_6 : decode cX6_best 6 = .ok (.ifCond .ne 9, 3) := by decide +kernel
theorem dX6_best_9 : decode cX6_best 9 = .ok (.aload_n 0, 1) := by decide +kernel
theorem dX6_best_10 : decode cX6_best 10 = .ok (.iconst 0, 1) := by decide +kernel
theorem dX6_best_11 : decode cX6_best 11 = .ok (.invokevirtual 75, 3) := by decide +kernel
theorem dX6_best_14 : decode cX6_best 14 = .ok (.ireturn, 1) := by decide +kernel
theorem dX6_best_15 : decode cX6_best 15 = .ok (.aload_n 0, 1) := by decide +kernel
theorem dX6_best_16 : decode cX6_best 16 = .ok (.getfield 43, 3) := by decide +kernel
theorem dX6_best_19 : decode cX6_best 19 = .ok (.invokevirtual 187, 3) := by decide +kernel
theorem dX6_best_22 : decode cX6_best 22 = .ok (.aload_n 0, 1) := by decide +kernel
theorem dX6_best_23 : decode cX6_best 23 = .ok (.getfield 43, 3) := by decide +kernel
theorem dX6_best_26 : decode cX6_best 26 = .ok (.invokevirtual 206, 3) := by decide +kernel
theorem dX6_best_29 : decode cX6_best 29 = .ok (.iload_n 1, 1) := by decide +kernel
theorem dX6_best_30 : decode cX6_best 30 = .ok (.ifCond .ne 11, 3) := by decide +kernel
theorem dX6_best_33 : decode cX6_best 33 = .ok (.aload_n 0, 1) := by decide +kernel
theorem dX6_best_34 : decode cX6_best 34 = .ok (.getfield 43, 3) := by decide +kernel
theorem dX6_best_37 : decode cX6_best 37 = .ok (.getfield 209, 3) := by decide +kernel
theorem dX6_best_40 : decode cX6_best 40 = .ok (.ireturn, 1) := by decide +kernel
theorem dX6_best_41 : decode cX6_best 41 = .ok (.iload_n 1, 1) := by decide +kernel
theorem dX6_best_42 : decode cX6_best 42 = .ok (.iconst 1, 1) := by decide +kernel
theorem dX6_best_43 : decode cX6_best 43 = .ok (.if_icmp .ne 13, 3) := by decide +kernel
theorem dX6_best_46 : decode cX6_best 46 = .ok (.aload_n 0, 1) := by decide +kernel
theorem dX6_best_47 : decode cX6_best 47 = .ok (.getfield 43, 3) := by decide +kernel
theorem dX6_best_50 : decode cX6_best 50 = .ok (.getfield 212, 3) := by decide +kernel
theorem dX6_best_53 : decode cX6_best 53 = .ok (.goto 10, 3) := by decide +kernel
theorem dX6_best_56 : decode cX6_best 56 = .ok (.aload_n 0, 1) := by decide +kernel
theorem dX6_best_57 : decode cX6_best 57 = .ok (.getfield 43, 3) := by decide +kernel
theorem dX6_best_60 : decode cX6_best 60 = .ok (.getfield 215, 3) := by decide +kernel
theorem dX6_best_63 : decode cX6_best 63 = .ok (.ireturn, 1) := by decide +kernel
theorem dX6_most_0 : decode cX6_most 0 = .ok (.aload_n 0, 1) := by decide +kernel
theorem dX6_most_1 : decode cX6_most 1 = .ok (.getfield 10, 3) := by decide +kernel
theorem dX6_most_4 : decode cX6_most 4 = .ok (.iload_n 1, 1) := by decide +kernel
theorem dX6_most_5 : decode cX6_most 5 = .ok (.invokevirtual 127, 3) := by decide +kernel
theorem dX6_most_8 : decode cX6_most 8 = .ok (.ifCond .ne 9, 3) := by decide +kernel
theorem dX6_most_11 : decode cX6_most 11 = .ok (.aload_n 0, 1) := by decide +kernel
theorem dX6_most_12 : decode cX6_most 12 = .ok (.iconst 0, 1) := by decide +kernel
theorem dX6_most_13 : decode cX6_most 13 = .ok (.invokevirtual 75, 3) := by decide +kernel
theorem dX6_most_16 : decode cX6_most 16 = .ok (.ireturn, 1) := by decide +kernel
theorem dX6_most_17 : decode cX6_most 17 = .ok (.aload_n 0, 1) := by decide +kernel
theorem dX6_most_18 : decode cX6_most 18 = .ok (.getfield 10, 3) := by decide +kernel
theorem dX6_most_21 : decode cX6_most 21 = .ok (.iload_n 1, 1) := by decide +kernel
theorem dX6_most_22 : decode cX6_most 22 = .ok (.invokevirtual 218, 3) := by decide +kernel
theorem dX6_most_25 : decode cX6_most 25 = .ok (.istore_n 2, 1) := by decide +kernel
theorem dX6_most_26 : decode cX6_most 26 = .ok (.iload_n 2, 1) := by decide +kernel
theorem dX6_most_27 : decode cX6_most 27 = .ok (.ifCond .ge 7, 3) := by decide +kernel
theorem dX6_most_30 : decode cX6_most 30 = .ok (.iconst 0, 1) := by decide +kernel
theorem dX6_most_31 : decode cX6_most 31 = .ok (.goto 12, 3) := by decide +kernel
theorem dX6_most_34 : decode cX6_most 34 = .ok (.aload_n 0, 1) := by decide +kernel
theorem dX6_most_35 : decode cX6_most 35 = .ok (.getfield 10, 3) := by decide +kernel
theorem dX6_most_38 : decode cX6_most 38 = .ok (.iload_n 1, 1) := by decide +kernel
theorem dX6_most_39 : decode cX6_most 39 = .ok (.iload_n 2, 1) := by decide +kernel
theorem dX6_most_40 : decode cX6_most 40 = .ok (.invokevirtual 221, 3) := by decide +kernel
theorem dX6_most_43 : decode cX6_most 43 = .ok (.ireturn, 1) := by decide +kernel
theorem dX6_chokes_0 : decode cX6_chokes 0 = .ok (.aload_n 0, 1) := by decide +kernel
theorem dX6_chokes_1 : decode cX6_chokes 1 = .ok (.getfield 10, 3) := by decide +kernel
theorem dX6_chokes_4 : decode cX6_chokes 4 = .ok (.iload_n 1, 1) := by decide +kernel
theorem dX6_chokes_5 : decode cX6_chokes 5 = .ok (.invokevirtual 127, 3) := by decide +kernel
theorem dX6_chokes_8 : decode cX6_chokes 8 = .ok (.ifCond .ne 9, 3) := by decide +kernel
theorem dX6_chokes_11 : decode cX6_chokes 11 = .ok (.aload_n 0, 1) := by decide +kernel
theorem dX6_chokes_12 : decode cX6_chokes 12 = .ok (.iconst 0, 1) := by decide +kernel
theorem dX6_chokes_13 : decode cX6_chokes 13 = .ok (.invokevirtual 75, 3) := by decide +kernel
theorem dX6_chokes_16 : decode cX6_chokes 16 = .ok (.ireturn, 1) := by decide +kernel
theorem dX6_chokes_17 : decode cX6_chokes 17 = .ok (.aload_n 0, 1) := by decide +kernel
theorem dX6_chokes_18 : decode cX6_chokes 18 = .ok (.getfield 10, 3) := by decide +kernel
theorem dX6_chokes_21 : decode cX6_chokes 21 = .ok (.iload_n 1, 1) := by decide +kernel
theorem dX6_chokes_22 : decode cX6_chokes 22 = .ok (.invokevirtual 218, 3) := by decide +kernel
theorem dX6_chokes_25 : decode cX6_chokes 25 = .ok (.ireturn, 1) := by decide +kernel
theorem dX6_idle_0 : decode cX6_idle 0 = .ok (.iload_n 1, 1) := by decide +kernel
theorem dX6_idle_1 : decode cX6_idle 1 = .ok (.iconst 0, 1) := by decide +kernel
theorem dX6_idle_2 : decode cX6_idle 2 = .ok (.iconst 1, 1) := by decide +kernel
theorem dX6_idle_3 : decode cX6_idle 3 = .ok (.aload_n 0, 1) := by decide +kernel
theorem dX6_idle_4 : decode cX6_idle 4 = .ok (.getfield 10, 3) := by decide +kernel
theorem dX6_idle_7 : decode cX6_idle 7 = .ok (.getfield 100, 3) := by decide +kernel
theorem dX6_idle_10 : decode cX6_idle 10 = .ok (.ishl, 1) := by decide +kernel
theorem dX6_idle_11 : decode cX6_idle 11 = .ok (.iconst 1, 1) := by decide +kernel
theorem dX6_idle_12 : decode cX6_idle 12 = .ok (.isub, 1) := by decide +kernel
theorem dX6_idle_13 : decode cX6_idle 13 = .ok (.invokestatic 71, 3) := by decide +kernel
theorem dX6_idle_16 : decode cX6_idle 16 = .ok (.ifCond .ne 9, 3) := by decide +kernel
theorem dX6_idle_19 : decode cX6_idle 19 = .ok (.aload_n 0, 1) := by decide +kernel
theorem dX6_idle_20 : decode cX6_idle 20 = .ok (.iconst 0, 1) := by decide +kernel
theorem dX6_idle_21 : decode cX6_idle 21 = .ok (.invokevirtual 75, 3) := by decide +kernel
theorem dX6_idle_24 : decode cX6_idle 24 = .ok (.ireturn, 1) := by decide +kernel
theorem dX6_idle_25 : decode cX6_idle 25 = .ok (.iconst 0, 1) := by decide +kernel
theorem dX6_idle_26 : decode cX6_idle 26 = .ok (.istore_n 2, 1) := by decide +kernel
theorem dX6_idle_27 : decode cX6_idle 27 = .ok (.iconst 0, 1) := by decide +kernel
theorem dX6_idle_28 : decode cX6_idle 28 = .ok (.istore_n 3, 1) := by decide +kernel
theorem dX6_idle_29 : decode cX6_idle 29 = .ok (.iload_n 3, 1) := by decide +kernel
theorem dX6_idle_30 : decode cX6_idle 30 = .ok (.aload_n 0, 1) := by decide +kernel
theorem dX6_idle_31 : decode cX6_idle 31 = .ok (.getfield 10, 3) := by decide +kernel
theorem dX6_idle_34 : decode cX6_idle 34 = .ok (.getfield 100, 3) := by decide +kernel
theorem dX6_idle_37 : decode cX6_idle 37 = .ok (.if_icmp .ge 29, 3) := by decide +kernel
theorem dX6_idle_40 : decode cX6_idle 40 = .ok (.iload_n 1, 1) := by decide +kernel
theorem dX6_idle_41 : decode cX6_idle 41 = .ok (.iload_n 3, 1) := by decide +kernel
theorem dX6_idle_42 : decode cX6_idle 42 = .ok (.ishr, 1) := by decide +kernel
theorem dX6_idle_43 : decode cX6_idle 43 = .ok (.iconst 1, 1) := by decide +kernel
theorem dX6_idle_44 : decode cX6_idle 44 = .ok (.iand, 1) := by decide +kernel
theorem dX6_idle_45 : decode cX6_idle 45 = .ok (.ifCond .eq 15, 3) := by decide +kernel
theorem dX6_idle_48 : decode cX6_idle 48 = .ok (.iload_n 2, 1) := by decide +kernel
theorem dX6_idle_49 : decode cX6_idle 49 = .ok (.aload_n 0, 1) := by decide +kernel
theorem dX6_idle_50 : decode cX6_idle 50 = .ok (.getfield 10, 3) := by decide +kernel
theorem dX6_idle_53 : decode cX6_idle 53 = .ok (.getfield 110, 3) := by decide +kernel
theorem dX6_idle_56 : decode cX6_idle 56 = .ok (.iload_n 3, 1) := by decide +kernel
theorem dX6_idle_57 : decode cX6_idle 57 = .ok (.iaload, 1) := by decide +kernel
theorem dX6_idle_58 : decode cX6_idle 58 = .ok (.ior, 1) := by decide +kernel
theorem dX6_idle_59 : decode cX6_idle 59 = .ok (.istore_n 2, 1) := by decide +kernel
theorem dX6_idle_60 : decode cX6_idle 60 = .ok (.iinc 3 1, 3) := by decide +kernel
theorem dX6_idle_63 : decode cX6_idle 63 = .ok (.goto (-34), 3) := by decide +kernel
theorem dX6_idle_66 : decode cX6_idle 66 = .ok (.aload_n 0, 1) := by decide +kernel
theorem dX6_idle_67 : decode cX6_idle 67 = .ok (.getfield 10, 3) := by decide +kernel
theorem dX6_idle_70 : decode cX6_idle 70 = .ok (.invokevirtual 224, 3) := by decide +kernel
theorem dX6_idle_73 : decode cX6_idle 73 = .ok (.iload_n 2, 1) := by decide +kernel
theorem dX6_idle_74 : decode cX6_idle 74 = .ok (.iconst (-1), 1) := by decide +kernel
theorem dX6_idle_75 : decode cX6_idle 75 = .ok (.ixor, 1) := by decide +kernel
theorem dX6_idle_76 : decode cX6_idle 76 = .ok (.iand, 1) := by decide +kernel
theorem dX6_idle_77 : decode cX6_idle 77 = .ok (.ireturn, 1) := by decide +kernel
theorem dX6_turned_0 : decode cX6_turned 0 = .ok (.aload_n 0, 1) := by decide +kernel
theorem dX6_turned_1 : decode cX6_turned 1 = .ok (.getfield 10, 3) := by decide +kernel
theorem dX6_turned_4 : decode cX6_turned 4 = .ok (.iload_n 1, 1) := by decide +kernel
theorem dX6_turned_5 : decode cX6_turned 5 = .ok (.invokevirtual 127, 3) := by decide +kernel
theorem dX6_turned_8 : decode cX6_turned 8 = .ok (.ifCond .ne 9, 3) := by decide +kernel
theorem dX6_turned_11 : decode cX6_turned 11 = .ok (.aload_n 0, 1) := by decide +kernel
theorem dX6_turned_12 : decode cX6_turned 12 = .ok (.iconst 0, 1) := by decide +kernel
theorem dX6_turned_13 : decode cX6_turned 13 = .ok (.invokevirtual 75, 3) := by decide +kernel
theorem dX6_turned_16 : decode cX6_turned 16 = .ok (.ireturn, 1) := by decide +kernel
theorem dX6_turned_17 : decode cX6_turned 17 = .ok (.aload_n 0, 1) := by decide +kernel
theorem dX6_turned_18 : decode cX6_turned 18 = .ok (.getfield 34, 3) := by decide +kernel
theorem dX6_turned_21 : decode cX6_turned 21 = .ok (.iload_n 1, 1) := by decide +kernel
theorem dX6_turned_22 : decode cX6_turned 22 = .ok (.iconst 0, 1) := by decide +kernel
theorem dX6_turned_23 : decode cX6_turned 23 = .ok (.invokevirtual 163, 3) := by decide +kernel
theorem dX6_turned_26 : decode cX6_turned 26 = .ok (.istore_n 2, 1) := by decide +kernel
theorem dX6_turned_27 : decode cX6_turned 27 = .ok (.iconst 0, 1) := by decide +kernel
theorem dX6_turned_28 : decode cX6_turned 28 = .ok (.istore_n 3, 1) := by decide +kernel
theorem dX6_turned_29 : decode cX6_turned 29 = .ok (.iconst 0, 1) := by decide +kernel
theorem dX6_turned_30 : decode cX6_turned 30 = .ok (.istore 4, 2) := by decide +kernel
theorem dX6_turned_32 : decode cX6_turned 32 = .ok (.iload 4, 2) := by decide +kernel
theorem dX6_turned_34 : decode cX6_turned 34 = .ok (.aload_n 0, 1) := by decide +kernel
theorem dX6_turned_35 : decode cX6_turned 35 = .ok (.getfield 10, 3) := by decide +kernel
theorem dX6_turned_38 : decode cX6_turned 38 = .ok (.getfield 100, 3) := by decide +kernel
theorem dX6_turned_41 : decode cX6_turned 41 = .ok (.if_icmp .ge 123, 3) := by decide +kernel
theorem dX6_turned_44 : decode cX6_turned 44 = .ok (.aload_n 0, 1) := by decide +kernel
theorem dX6_turned_45 : decode cX6_turned 45 = .ok (.getfield 10, 3) := by decide +kernel
theorem dX6_turned_48 : decode cX6_turned 48 = .ok (.iload_n 1, 1) := by decide +kernel
theorem dX6_turned_49 : decode cX6_turned 49 = .ok (.iload 4, 2) := by decide +kernel
theorem dX6_turned_51 : decode cX6_turned 51 = .ok (.invokevirtual 227, 3) := by decide +kernel
theorem dX6_turned_54 : decode cX6_turned 54 = .ok (.ifCond .ne 6, 3) := by decide +kernel
theorem dX6_turned_57 : decode cX6_turned 57 = .ok (.goto 101, 3) := by decide +kernel
theorem dX6_turned_60 : decode cX6_turned 60 = .ok (.aload_n 0, 1) := by decide +kernel
theorem dX6_turned_61 : decode cX6_turned 61 = .ok (.getfield 10, 3) := by decide +kernel
theorem dX6_turned_64 : decode cX6_turned 64 = .ok (.getfield 110, 3) := by decide +kernel
theorem dX6_turned_67 : decode cX6_turned 67 = .ok (.iload 4, 2) := by decide +kernel
theorem dX6_turned_69 : decode cX6_turned 69 = .ok (.iaload, 1) := by decide +kernel
theorem dX6_turned_70 : decode cX6_turned 70 = .ok (.istore 5, 2) := by decide +kernel
theorem dX6_turned_72 : decode cX6_turned 72 = .ok (.iconst 1, 1) := by decide +kernel
theorem dX6_turned_73 : decode cX6_turned 73 = .ok (.istore 6, 2) := by decide +kernel
theorem dX6_turned_75 : decode cX6_turned 75 = .ok (.iload 6, 2) := by decide +kernel
theorem dX6_turned_77 : decode cX6_turned 77 = .ok (.aload_n 0, 1) := by decide +kernel
theorem dX6_turned_78 : decode cX6_turned 78 = .ok (.getfield 10, 3) := by decide +kernel
theorem dX6_turned_81 : decode cX6_turned 81 = .ok (.getfield 94, 3) := by decide +kernel
theorem dX6_turned_84 : decode cX6_turned 84 = .ok (.if_icmp .ge 62, 3) := by decide +kernel
theorem dX6_turned_87 : decode cX6_turned 87 = .ok (.aload_n 0, 1) := by decide +kernel
theorem dX6_turned_88 : decode cX6_turned 88 = .ok (.getfield 10, 3) := by decide +kernel
theorem dX6_turned_91 : decode cX6_turned 91 = .ok (.getfield 110, 3) := by decide +kernel
theorem dX6_turned_94 : decode cX6_turned 94 = .ok (.iload 4, 2) := by decide +kernel
theorem dX6_turned_96 : decode cX6_turned 96 = .ok (.aload_n 0, 1) := by decide +kernel
theorem dX6_turned_97 : decode cX6_turned 97 = .ok (.getfield 10, 3) := by decide +kernel
theorem dX6_turned_100 : decode cX6_turned 100 = .ok (.iload 5, 2) := by decide +kernel
theorem dX6_turned_102 : decode cX6_turned 102 = .ok (.iload 6, 2) := by decide +kernel
theorem dX6_turned_104 : decode cX6_turned 104 = .ok (.invokevirtual 230, 3) := by decide +kernel
theorem dX6_turned_107 : decode cX6_turned 107 = .ok (.iastore, 1) := by decide +kernel
theorem dX6_turned_108 : decode cX6_turned 108 = .ok (.aload_n 0, 1) := by decide +kernel
theorem dX6_turned_109 : decode cX6_turned 109 = .ok (.getfield 34, 3) := by decide +kernel
theorem dX6_turned_112 : decode cX6_turned 112 = .ok (.iload_n 1, 1) := by decide +kernel
theorem dX6_turned_113 : decode cX6_turned 113 = .ok (.iconst 0, 1) := by decide +kernel
theorem dX6_turned_114 : decode cX6_turned 114 = .ok (.invokevirtual 163, 3) := by decide +kernel
theorem dX6_turned_117 : decode cX6_turned 117 = .ok (.istore 7, 2) := by decide +kernel
theorem dX6_turned_119 : decode cX6_turned 119 = .ok (.iload 7, 2) := by decide +kernel
theorem dX6_turned_121 : decode cX6_turned 121 = .ok (.iload_n 2, 1) := by decide +kernel
theorem dX6_turned_122 : decode cX6_turned 122 = .ok (.invokestatic 233, 3) := by decide +kernel
theorem dX6_turned_125 : decode cX6_turned 125 = .ok (.ifCond .eq 15, 3) := by decide +kernel
theorem dX6_turned_128 : decode cX6_turned 128 = .ok (.iload 7, 2) := by decide +kernel
theorem dX6_turned_130 : decode cX6_turned 130 = .ok (.istore_n 2, 1) := by decide +kernel
theorem dX6_turned_131 : decode cX6_turned 131 = .ok (.bipush 100, 2) := by decide +kernel
theorem dX6_turned_133 : decode cX6_turned 133 = .ok (.iload 4, 2) := by decide +kernel
theorem dX6_turned_135 : decode cX6_turned 135 = .ok (.imul, 1) := by decide +kernel
theorem dX6_turned_136 : decode cX6_turned 136 = .ok (.iload 6, 2) := by decide +kernel
theorem dX6_turned_138 : decode cX6_turned 138 = .ok (.iadd, 1) := by decide +kernel
theorem dX6_turned_139 : decode cX6_turned 139 = .ok (.istore_n 3, 1) := by decide +kernel
theorem dX6_turned_140 : decode cX6_turned 140 = .ok (.iinc 6 1, 3) := by decide +kernel
theorem dX6_turned_143 : decode cX6_turned 143 = .ok (.goto (-68), 3) := by decide +kernel
theorem dX6_turned_146 : decode cX6_turned 146 = .ok (.aload_n 0, 1) := by decide +kernel
theorem dX6_turned_147 : decode cX6_turned 147 = .ok (.getfield 10, 3) := by decide +kernel
theorem dX6_turned_150 : decode cX6_turned 150 = .ok (.getfield 110, 3) := by decide +kernel
theorem dX6_turned_153 : decode cX6_turned 153 = .ok (.iload 4, 2) := by decide +kernel
theorem dX6_turned_155 : decode cX6_turned 155 = .ok (.iload 5, 2) := by decide +kernel
theorem dX6_turned_157 : decode cX6_turned 157 = .ok (.iastore, 1) := by decide +kernel
theorem dX6_turned_158 : decode cX6_turned 158 = .ok (.iinc 4 1, 3) := by decide +kernel
theorem dX6_turned_161 : decode cX6_turned 161 = .ok (.goto (-129), 3) := by decide +kernel
theorem dX6_turned_164 : decode cX6_turned 164 = .ok (.iload_n 3, 1) := by decide +kernel
theorem dX6_turned_165 : decode cX6_turned 165 = .ok (.ireturn, 1) := by decide +kernel
theorem dX6_roundFor_0 : decode cX6_roundFor 0 = .ok (.aload_n 0, 1) := by decide +kernel
theorem dX6_roundFor_1 : decode cX6_roundFor 1 = .ok (.getfield 10, 3) := by decide +kernel
theorem dX6_roundFor_4 : decode cX6_roundFor 4 = .ok (.iload_n 1, 1) := by decide +kernel
theorem dX6_roundFor_5 : decode cX6_roundFor 5 = .ok (.invokevirtual 127, 3) := by decide +kernel
theorem dX6_roundFor_8 : decode cX6_roundFor 8 = .ok (.ifCond .eq 14, 3) := by decide +kernel
theorem dX6_roundFor_11 : decode cX6_roundFor 11 = .ok (.iload_n 2, 1) := by decide +kernel
theorem dX6_roundFor_12 : decode cX6_roundFor 12 = .ok (.iconst 0, 1) := by decide +kernel
theorem dX6_roundFor_13 : decode cX6_roundFor 13 = .ok (.sipush 999, 3) := by decide +kernel
theorem dX6_roundFor_16 : decode cX6_roundFor 16 = .ok (.invokestatic 71, 3) := by decide +kernel
theorem dX6_roundFor_19 : decode cX6_roundFor 19 = .ok (.ifCond .ne 9, 3) := by decide +kernel
theorem dX6_roundFor_22 : decode cX6_roundFor 22 = .ok (.aload_n 0, 1) := by decide +kernel
theorem dX6_roundFor_23 : decode cX6_roundFor 23 = .ok (.iconst 0, 1) := by decide +kernel
theorem dX6_roundFor_24 : decode cX6_roundFor 24 = .ok (.invokevirtual 75, 3) := by decide +kernel
theorem dX6_roundFor_27 : decode cX6_roundFor 27 = .ok (.ireturn, 1) := by decide +kernel
theorem dX6_roundFor_28 : decode cX6_roundFor 28 = .ok (.aload_n 0, 1) := by decide +kernel
theorem dX6_roundFor_29 : decode cX6_roundFor 29 = .ok (.getfield 10, 3) := by decide +kernel
theorem dX6_roundFor_32 : decode cX6_roundFor 32 = .ok (.getfield 94, 3) := by decide +kernel
theorem dX6_roundFor_35 : decode cX6_roundFor 35 = .ok (.istore_n 3, 1) := by decide +kernel
theorem dX6_roundFor_36 : decode cX6_roundFor 36 = .ok (.iconst (-1), 1) := by decide +kernel
theorem dX6_roundFor_37 : decode cX6_roundFor 37 = .ok (.istore 4, 2) := by decide +kernel
theorem dX6_roundFor_39 : decode cX6_roundFor 39 = .ok (.iconst 0, 1) := by decide +kernel
theorem dX6_roundFor_40 : decode cX6_roundFor 40 = .ok (.istore 5, 2) := by decide +kernel
theorem dX6_roundFor_42 : decode cX6_roundFor 42 = .ok (.iconst 1, 1) := by decide +kernel
theorem dX6_roundFor_43 : decode cX6_roundFor 43 = .ok (.istore 6, 2) := by decide +kernel
theorem dX6_roundFor_45 : decode cX6_roundFor 45 = .ok (.iload 6, 2) := by decide +kernel
theorem dX6_roundFor_47 : decode cX6_roundFor 47 = .ok (.bipush 12, 2) := by decide +kernel
theorem dX6_roundFor_49 : decode cX6_roundFor 49 = .ok (.if_icmp .gt 47, 3) := by decide +kernel
theorem dX6_roundFor_52 : decode cX6_roundFor 52 = .ok (.aload_n 0, 1) := by decide +kernel
theorem dX6_roundFor_53 : decode cX6_roundFor 53 = .ok (.getfield 10, 3) := by decide +kernel
theorem dX6_roundFor_56 : decode cX6_roundFor 56 = .ok (.iload 6, 2) := by decide +kernel
theorem dX6_roundFor_58 : decode cX6_roundFor 58 = .ok (.putfield 94, 3) := by decide +kernel
theorem dX6_roundFor_61 : decode cX6_roundFor 61 = .ok (.aload_n 0, 1) := by decide +kernel
theorem dX6_roundFor_62 : decode cX6_roundFor 62 = .ok (.getfield 34, 3) := by decide +kernel
theorem dX6_roundFor_65 : decode cX6_roundFor 65 = .ok (.iload_n 1, 1) := by decide +kernel
theorem dX6_roundFor_66 : decode cX6_roundFor 66 = .ok (.iload_n 2, 1) := by decide +kernel
theorem dX6_roundFor_67 : decode cX6_roundFor 67 = .ok (.invokevirtual 163, 3) := by decide +kernel
theorem dX6_roundFor_70 : decode cX6_roundFor 70 = .ok (.istore 7, 2) := by decide +kernel
theorem dX6_roundFor_72 : decode cX6_roundFor 72 = .ok (.iload 7, 2) := by decide +kernel
theorem dX6_roundFor_74 : decode cX6_roundFor 74 = .ok (.iload 4, 2) := by decide +kernel
theorem dX6_roundFor_76 : decode cX6_roundFor 76 = .ok (.invokestatic 233, 3) := by decide +kernel
theorem dX6_roundFor_79 : decode cX6_roundFor 79 = .ok (.ifCond .eq 11, 3) := by decide +kernel
theorem dX6_roundFor_82 : decode cX6_roundFor 82 = .ok (.iload 7, 2) := by decide +kernel
theorem dX6_roundFor_84 : decode cX6_roundFor 84 = .ok (.istore 4, 2) := by decide +kernel
theorem dX6_roundFor_86 : decode cX6_roundFor 86 = .ok (.iload 6, 2) := by decide +kernel
theorem dX6_roundFor_88 : decode cX6_roundFor 88 = .ok (.istore 5, 2) := by decide +kernel
theorem dX6_roundFor_90 : decode cX6_roundFor 90 = .ok (.iinc 6 1, 3) := by decide +kernel
theorem dX6_roundFor_93 : decode cX6_roundFor 93 = .ok (.goto (-48), 3) := by decide +kernel
theorem dX6_roundFor_96 : decode cX6_roundFor 96 = .ok (.aload_n 0, 1) := by decide +kernel
theorem dX6_roundFor_97 : decode cX6_roundFor 97 = .ok (.getfield 10, 3) := by decide +kernel
theorem dX6_roundFor_100 : decode cX6_roundFor 100 = .ok (.iload_n 3, 1) := by decide +kernel
theorem dX6_roundFor_101 : decode cX6_roundFor 101 = .ok (.putfield 94, 3) := by decide +kernel
theorem dX6_roundFor_104 : decode cX6_roundFor 104 = .ok (.iload 4, 2) := by decide +kernel
theorem dX6_roundFor_106 : decode cX6_roundFor 106 = .ok (.ifCond .ge 11, 3) := by decide +kernel
theorem dX6_roundFor_109 : decode cX6_roundFor 109 = .ok (.aload_n 0, 1) := by decide +kernel
theorem dX6_roundFor_110 : decode cX6_roundFor 110 = .ok (.iconst 3, 1) := by decide +kernel
theorem dX6_roundFor_111 : decode cX6_roundFor 111 = .ok (.invokevirtual 75, 3) := by decide +kernel
theorem dX6_roundFor_114 : decode cX6_roundFor 114 = .ok (.goto 5, 3) := by decide +kernel
theorem dX6_roundFor_117 : decode cX6_roundFor 117 = .ok (.iload 5, 2) := by decide +kernel
theorem dX6_roundFor_119 : decode cX6_roundFor 119 = .ok (.ireturn, 1) := by decide +kernel
theorem dX6_nearFor_0 : decode cX6_nearFor 0 = .ok (.aload_n 0, 1) := by decide +kernel
theorem dX6_nearFor_1 : decode cX6_nearFor 1 = .ok (.getfield 10, 3) := by decide +kernel
theorem dX6_nearFor_4 : decode cX6_nearFor 4 = .ok (.iload_n 1, 1) := by decide +kernel
theorem dX6_nearFor_5 : decode cX6_nearFor 5 = .ok (.invokevirtual 127, 3) := by decide +kernel
theorem dX6_nearFor_8 : decode cX6_nearFor 8 = .ok (.ifCond .eq 14, 3) := by decide +kernel
theorem dX6_nearFor_11 : decode cX6_nearFor 11 = .ok (.iload_n 2, 1) := by decide +kernel
theorem dX6_nearFor_12 : decode cX6_nearFor 12 = .ok (.iconst 0, 1) := by decide +kernel
theorem dX6_nearFor_13 : decode cX6_nearFor 13 = .ok (.sipush 999, 3) := by decide +kernel
theorem dX6_nearFor_16 : decode cX6_nearFor 16 = .ok (.invokestatic 71, 3) := by decide +kernel
theorem dX6_nearFor_19 : decode cX6_nearFor 19 = .ok (.ifCond .ne 9, 3) := by decide +kernel
theorem dX6_nearFor_22 : decode cX6_nearFor 22 = .ok (.aload_n 0, 1) := by decide +kernel
theorem dX6_nearFor_23 : decode cX6_nearFor 23 = .ok (.iconst 0, 1) := by decide +kernel
theorem dX6_nearFor_24 : decode cX6_nearFor 24 = .ok (.invokevirtual 75, 3) := by decide +kernel
theorem dX6_nearFor_27 : decode cX6_nearFor 27 = .ok (.ireturn, 1) := by decide +kernel
theorem dX6_nearFor_28 : decode cX6_nearFor 28 = .ok (.aload_n 0, 1) := by decide +kernel
theorem dX6_nearFor_29 : decode cX6_nearFor 29 = .ok (.getfield 10, 3) := by decide +kernel
theorem dX6_nearFor_32 : decode cX6_nearFor 32 = .ok (.getfield 97, 3) := by decide +kernel
theorem dX6_nearFor_35 : decode cX6_nearFor 35 = .ok (.istore_n 3, 1) := by decide +kernel
theorem dX6_nearFor_36 : decode cX6_nearFor 36 = .ok (.iconst (-1), 1) := by decide +kernel
theorem dX6_nearFor_37 : decode cX6_nearFor 37 = .ok (.istore 4, 2) := by decide +kernel
theorem dX6_nearFor_39 : decode cX6_nearFor 39 = .ok (.iconst (-1), 1) := by decide +kernel
theorem dX6_nearFor_40 : decode cX6_nearFor 40 = .ok (.istore 5, 2) := by decide +kernel
theorem dX6_nearFor_42 : decode cX6_nearFor 42 = .ok (.iconst (-1), 1) := by decide +kernel
theorem dX6_nearFor_43 : decode cX6_nearFor 43 = .ok (.istore 6, 2) := by decide +kernel
theorem dX6_nearFor_45 : decode cX6_nearFor 45 = .ok (.iload 6, 2) := by decide +kernel
theorem dX6_nearFor_47 : decode cX6_nearFor 47 = .ok (.bipush 11, 2) := by decide +kernel
theorem dX6_nearFor_49 : decode cX6_nearFor 49 = .ok (.if_icmp .gt 47, 3) := by decide +kernel
theorem dX6_nearFor_52 : decode cX6_nearFor 52 = .ok (.aload_n 0, 1) := by decide +kernel
theorem dX6_nearFor_53 : decode cX6_nearFor 53 = .ok (.getfield 10, 3) := by decide +kernel
theorem dX6_nearFor_56 : decode cX6_nearFor 56 = .ok (.iload 6, 2) := by decide +kernel
theorem dX6_nearFor_58 : decode cX6_nearFor 58 = .ok (.putfield 97, 3) := by decide +kernel
theorem dX6_nearFor_61 : decode cX6_nearFor 61 = .ok (.aload_n 0, 1) := by decide +kernel
theorem dX6_nearFor_62 : decode cX6_nearFor 62 = .ok (.getfield 34, 3) := by decide +kernel
theorem dX6_nearFor_65 : decode cX6_nearFor 65 = .ok (.iload_n 1, 1) := by decide +kernel
theorem dX6_nearFor_66 : decode cX6_nearFor 66 = .ok (.iload_n 2, 1) := by decide +kernel
theorem dX6_nearFor_67 : decode cX6_nearFor 67 = .ok (.invokevirtual 163, 3) := by decide +kernel
theorem dX6_nearFor_70 : decode cX6_nearFor 70 = .ok (.istore 7, 2) := by decide +kernel
theorem dX6_nearFor_72 : decode cX6_nearFor 72 = .ok (.iload 7, 2) := by decide +kernel
theorem dX6_nearFor_74 : decode cX6_nearFor 74 = .ok (.iload 4, 2) := by decide +kernel
theorem dX6_nearFor_76 : decode cX6_nearFor 76 = .ok (.invokestatic 233, 3) := by decide +kernel
theorem dX6_nearFor_79 : decode cX6_nearFor 79 = .ok (.ifCond .eq 11, 3) := by decide +kernel
theorem dX6_nearFor_82 : decode cX6_nearFor 82 = .ok (.iload 7, 2) := by decide +kernel
theorem dX6_nearFor_84 : decode cX6_nearFor 84 = .ok (.istore 4, 2) := by decide +kernel
theorem dX6_nearFor_86 : decode cX6_nearFor 86 = .ok (.iload 6, 2) := by decide +kernel
theorem dX6_nearFor_88 : decode cX6_nearFor 88 = .ok (.istore 5, 2) := by decide +kernel
theorem dX6_nearFor_90 : decode cX6_nearFor 90 = .ok (.iinc 6 1, 3) := by decide +kernel
theorem dX6_nearFor_93 : decode cX6_nearFor 93 = .ok (.goto (-48), 3) := by decide +kernel
theorem dX6_nearFor_96 : decode cX6_nearFor 96 = .ok (.aload_n 0, 1) := by decide +kernel
theorem dX6_nearFor_97 : decode cX6_nearFor 97 = .ok (.getfield 10, 3) := by decide +kernel
theorem dX6_nearFor_100 : decode cX6_nearFor 100 = .ok (.iload_n 3, 1) := by decide +kernel
theorem dX6_nearFor_101 : decode cX6_nearFor 101 = .ok (.putfield 97, 3) := by decide +kernel
theorem dX6_nearFor_104 : decode cX6_nearFor 104 = .ok (.iload 4, 2) := by decide +kernel
theorem dX6_nearFor_106 : decode cX6_nearFor 106 = .ok (.ifCond .ge 11, 3) := by decide +kernel
theorem dX6_nearFor_109 : decode cX6_nearFor 109 = .ok (.aload_n 0, 1) := by decide +kernel
theorem dX6_nearFor_110 : decode cX6_nearFor 110 = .ok (.iconst 3, 1) := by decide +kernel
theorem dX6_nearFor_111 : decode cX6_nearFor 111 = .ok (.invokevirtual 75, 3) := by decide +kernel
theorem dX6_nearFor_114 : decode cX6_nearFor 114 = .ok (.goto 5, 3) := by decide +kernel
theorem dX6_nearFor_117 : decode cX6_nearFor 117 = .ok (.iload 5, 2) := by decide +kernel
theorem dX6_nearFor_119 : decode cX6_nearFor 119 = .ok (.ireturn, 1) := by decide +kernel
theorem dX6_chance_0 : decode cX6_chance 0 = .ok (.aload_n 0, 1) := by decide +kernel
theorem dX6_chance_1 : decode cX6_chance 1 = .ok (.getfield 10, 3) := by decide +kernel
theorem dX6_chance_4 : decode cX6_chance 4 = .ok (.iload_n 1, 1) := by decide +kernel
theorem dX6_chance_5 : decode cX6_chance 5 = .ok (.invokevirtual 127, 3) := by decide +kernel
theorem dX6_chance_8 : decode cX6_chance 8 = .ok (.ifCond .eq 13, 3) := by decide +kernel
theorem dX6_chance_11 : decode cX6_chance 11 = .ok (.iload_n 2, 1) := by decide +kernel
theorem dX6_chance_12 : decode cX6_chance 12 = .ok (.iconst 1, 1) := by decide +kernel
theorem dX6_chance_13 : decode cX6_chance 13 = .ok (.bipush 40, 2) := by decide +kernel
theorem dX6_chance_15 : decode cX6_chance 15 = .ok (.invokestatic 71, 3) := by decide +kernel
theorem dX6_chance_18 : decode cX6_chance 18 = .ok (.ifCond .ne 9, 3) := by decide +kernel
theorem dX6_chance_21 : decode cX6_chance 21 = .ok (.aload_n 0, 1) := by decide +kernel
theorem dX6_chance_22 : decode cX6_chance 22 = .ok (.iconst 0, 1) := by decide +kernel
theorem dX6_chance_23 : decode cX6_chance 23 = .ok (.invokevirtual 75, 3) := by decide +kernel
theorem dX6_chance_26 : decode cX6_chance 26 = .ok (.ireturn, 1) := by decide +kernel
theorem dX6_chance_27 : decode cX6_chance 27 = .ok (.iconst 0, 1) := by decide +kernel
theorem dX6_chance_28 : decode cX6_chance 28 = .ok (.istore_n 3, 1) := by decide +kernel
theorem dX6_chance_29 : decode cX6_chance 29 = .ok (.iconst 0, 1) := by decide +kernel
theorem dX6_chance_30 : decode cX6_chance 30 = .ok (.istore 4, 2) := by decide +kernel
theorem dX6_chance_32 : decode cX6_chance 32 = .ok (.iload 4, 2) := by decide +kernel
theorem dX6_chance_34 : decode cX6_chance 34 = .ok (.iload_n 2, 1) := by decide +kernel
theorem dX6_chance_35 : decode cX6_chance 35 = .ok (.if_icmp .ge 33, 3) := by decide +kernel
theorem dX6_chance_38 : decode cX6_chance 38 = .ok (.aload_n 0, 1) := by decide +kernel
theorem dX6_chance_39 : decode cX6_chance 39 = .ok (.getfield 34, 3) := by decide +kernel
theorem dX6_chance_42 : decode cX6_chance 42 = .ok (.iload_n 1, 1) := by decide +kernel
theorem dX6_chance_43 : decode cX6_chance 43 = .ok (.aload_n 0, 1) := by decide +kernel
theorem dX6_chance_44 : decode cX6_chance 44 = .ok (.getfield 10, 3) := by decide +kernel
theorem dX6_chance_47 : decode cX6_chance 47 = .ok (.invokevirtual 236, 3) := by decide +kernel
theorem dX6_chance_50 : decode cX6_chance 50 = .ok (.bipush 60, 2) := by decide +kernel
theorem dX6_chance_52 : decode cX6_chance 52 = .ok (.irem, 1) := by decide +kernel
theorem dX6_chance_53 : decode cX6_chance 53 = .ok (.invokevirtual 156, 3) := by decide +kernel
theorem dX6_chance_56 : decode cX6_chance 56 = .ok (.ifCond .ge 6, 3) := by decide +kernel
theorem dX6_chance_59 : decode cX6_chance 59 = .ok (.iinc 3 1, 3) := by decide +kernel
theorem dX6_chance_62 : decode cX6_chance 62 = .ok (.iinc 4 1, 3) := by decide +kernel
theorem dX6_chance_65 : decode cX6_chance 65 = .ok (.goto (-33), 3) := by decide +kernel
theorem dX6_chance_68 : decode cX6_chance 68 = .ok (.iload_n 3, 1) := by decide +kernel
theorem dX6_chance_69 : decode cX6_chance 69 = .ok (.ireturn, 1) := by decide +kernel
theorem dX6_seed_0 : decode cX6_seed 0 = .ok (.aload_n 0, 1) := by decide +kernel
theorem dX6_seed_1 : decode cX6_seed 1 = .ok (.getfield 10, 3) := by decide +kernel
theorem dX6_seed_4 : decode cX6_seed 4 = .ok (.getfield 239, 3) := by decide +kernel
theorem dX6_seed_7 : decode cX6_seed 7 = .ok (.istore_n 2, 1) := by decide +kernel
theorem dX6_seed_8 : decode cX6_seed 8 = .ok (.aload_n 0, 1) := by decide +kernel
theorem dX6_seed_9 : decode cX6_seed 9 = .ok (.getfield 10, 3) := by decide +kernel
theorem dX6_seed_12 : decode cX6_seed 12 = .ok (.iload_n 1, 1) := by decide +kernel
theorem dX6_seed_13 : decode cX6_seed 13 = .ok (.putfield 239, 3) := by decide +kernel
theorem dX6_seed_16 : decode cX6_seed 16 = .ok (.iload_n 2, 1) := by decide +kernel
theorem dX6_seed_17 : decode cX6_seed 17 = .ok (.ireturn, 1) := by decide +kernel
theorem dX6_hold_0 : decode cX6_hold 0 = .ok (.iload_n 1, 1) := by decide +kernel
theorem dX6_hold_1 : decode cX6_hold 1 = .ok (.iconst 0, 1) := by decide +kernel
theorem dX6_hold_2 : decode cX6_hold 2 = .ok (.bipush 9, 2) := by decide +kernel
theorem dX6_hold_4 : decode cX6_hold 4 = .ok (.invokestatic 71, 3) := by decide +kernel
theorem dX6_hold_7 : decode cX6_hold 7 = .ok (.ifCond .eq 20, 3) := by decide +kernel
theorem dX6_hold_10 : decode cX6_hold 10 = .ok (.iload_n 2, 1) := by decide +kernel
theorem dX6_hold_11 : decode cX6_hold 11 = .ok (.iconst (-1), 1) := by decide +kernel
theorem dX6_hold_12 : decode cX6_hold 12 = .ok (.aload_n 0, 1) := by decide +kernel
theorem dX6_hold_13 : decode cX6_hold 13 = .ok (.getfield 10, 3) := by decide +kernel
theorem dX6_hold_16 : decode cX6_hold 16 = .ok (.getfield 117, 3) := by decide +kernel
theorem dX6_hold_19 : decode cX6_hold 19 = .ok (.iconst 1, 1) := by decide +kernel
theorem dX6_hold_20 : decode cX6_hold 20 = .ok (.isub, 1) := by decide +kernel
theorem dX6_hold_21 : decode cX6_hold 21 = .ok (.invokestatic 71, 3) := by decide +kernel
theorem dX6_hold_24 : decode cX6_hold 24 = .ok (.ifCond .ne 9, 3) := by decide +kernel
theorem dX6_hold_27 : decode cX6_hold 27 = .ok (.aload_n 0, 1) := by decide +kernel
theorem dX6_hold_28 : decode cX6_hold 28 = .ok (.iconst 0, 1) := by decide +kernel
theorem dX6_hold_29 : decode cX6_hold 29 = .ok (.invokevirtual 75, 3) := by decide +kernel
theorem dX6_hold_32 : decode cX6_hold 32 = .ok (.ireturn, 1) := by decide +kernel
theorem dX6_hold_33 : decode cX6_hold 33 = .ok (.aload_n 0, 1) := by decide +kernel
theorem dX6_hold_34 : decode cX6_hold 34 = .ok (.getfield 10, 3) := by decide +kernel
theorem dX6_hold_37 : decode cX6_hold 37 = .ok (.getfield 242, 3) := by decide +kernel
theorem dX6_hold_40 : decode cX6_hold 40 = .ok (.iload_n 1, 1) := by decide +kernel
theorem dX6_hold_41 : decode cX6_hold 41 = .ok (.iload_n 2, 1) := by decide +kernel
theorem dX6_hold_42 : decode cX6_hold 42 = .ok (.iastore, 1) := by decide +kernel
theorem dX6_hold_43 : decode cX6_hold 43 = .ok (.iconst 1, 1) := by decide +kernel
theorem dX6_hold_44 : decode cX6_hold 44 = .ok (.ireturn, 1) := by decide +kernel
theorem dX6_as_0 : decode cX6_as 0 = .ok (.iload_n 1, 1) := by decide +kernel
theorem dX6_as_1 : decode cX6_as 1 = .ok (.iconst 0, 1) := by decide +kernel
theorem dX6_as_2 : decode cX6_as 2 = .ok (.bipush 9, 2) := by decide +kernel
theorem dX6_as_4 : decode cX6_as 4 = .ok (.invokestatic 71, 3) := by decide +kernel
theorem dX6_as_7 : decode cX6_as 7 = .ok (.ifCond .eq 13, 3) := by decide +kernel
theorem dX6_as_10 : decode cX6_as 10 = .ok (.iload_n 2, 1) := by decide +kernel
theorem dX6_as_11 : decode cX6_as 11 = .ok (.iconst 0, 1) := by decide +kernel
theorem dX6_as_12 : decode cX6_as 12 = .ok (.bipush 6, 2) := by decide +kernel
theorem dX6_as_14 : decode cX6_as 14 = .ok (.invokestatic 71, 3) := by decide +kernel
theorem dX6_as_17 : decode cX6_as 17 = .ok (.ifCond .ne 9, 3) := by decide +kernel
theorem dX6_as_20 : decode cX6_as 20 = .ok (.aload_n 0, 1) := by decide +kernel
theorem dX6_as_21 : decode cX6_as 21 = .ok (.iconst 0, 1) := by decide +kernel
theorem dX6_as_22 : decode cX6_as 22 = .ok (.invokevirtual 75, 3) := by decide +kernel
theorem dX6_as_25 : decode cX6_as 25 = .ok (.ireturn, 1) := by decide +kernel
theorem dX6_as_26 : decode cX6_as 26 = .ok (.aload_n 0, 1) := by decide +kernel
theorem dX6_as_27 : decode cX6_as 27 = .ok (.getfield 10, 3) := by decide +kernel
theorem dX6_as_30 : decode cX6_as 30 = .ok (.getfield 242, 3) := by decide +kernel
theorem dX6_as_33 : decode cX6_as 33 = .ok (.iload_n 1, 1) := by decide +kernel
theorem dX6_as_34 : decode cX6_as 34 = .ok (.iaload, 1) := by decide +kernel
theorem dX6_as_35 : decode cX6_as 35 = .ok (.istore_n 3, 1) := by decide +kernel
theorem dX6_as_36 : decode cX6_as 36 = .ok (.aload_n 0, 1) := by decide +kernel
theorem dX6_as_37 : decode cX6_as 37 = .ok (.getfield 10, 3) := by decide +kernel
theorem dX6_as_40 : decode cX6_as 40 = .ok (.iload_n 3, 1) := by decide +kernel
theorem dX6_as_41 : decode cX6_as 41 = .ok (.invokevirtual 127, 3) := by decide +kernel
theorem dX6_as_44 : decode cX6_as 44 = .ok (.ifCond .ne 9, 3) := by decide +kernel
theorem dX6_as_47 : decode cX6_as 47 = .ok (.aload_n 0, 1) := by decide +kernel
theorem dX6_as_48 : decode cX6_as 48 = .ok (.iconst 5, 1) := by decide +kernel
theorem dX6_as_49 : decode cX6_as 49 = .ok (.invokevirtual 75, 3) := by decide +kernel
theorem dX6_as_52 : decode cX6_as 52 = .ok (.ireturn, 1) := by decide +kernel
theorem dX6_as_53 : decode cX6_as 53 = .ok (.aload_n 0, 1) := by decide +kernel
theorem dX6_as_54 : decode cX6_as 54 = .ok (.getfield 10, 3) := by decide +kernel
theorem dX6_as_57 : decode cX6_as 57 = .ok (.getfield 133, 3) := by decide +kernel
theorem dX6_as_60 : decode cX6_as 60 = .ok (.iload_n 3, 1) := by decide +kernel
theorem dX6_as_61 : decode cX6_as 61 = .ok (.iaload, 1) := by decide +kernel
theorem dX6_as_62 : decode cX6_as 62 = .ok (.iload_n 2, 1) := by decide +kernel
theorem dX6_as_63 : decode cX6_as 63 = .ok (.invokestatic 245, 3) := by decide +kernel
theorem dX6_as_66 : decode cX6_as 66 = .ok (.ifCond .ne 9, 3) := by decide +kernel
theorem dX6_as_69 : decode cX6_as 69 = .ok (.aload_n 0, 1) := by decide +kernel
theorem dX6_as_70 : decode cX6_as 70 = .ok (.iconst 2, 1) := by decide +kernel
theorem dX6_as_71 : decode cX6_as 71 = .ok (.invokevirtual 75, 3) := by decide +kernel
theorem dX6_as_74 : decode cX6_as 74 = .ok (.ireturn, 1) := by decide +kernel
theorem dX6_as_75 : decode cX6_as 75 = .ok (.iload_n 3, 1) := by decide +kernel
theorem dX6_as_76 : decode cX6_as 76 = .ok (.ireturn, 1) := by decide +kernel
theorem dX6_sheet_0 : decode cX6_sheet 0 = .ok (.iload_n 1, 1) := by decide +kernel
theorem dX6_sheet_1 : decode cX6_sheet 1 = .ok (.invokestatic 248, 3) := by decide +kernel
theorem dX6_sheet_4 : decode cX6_sheet 4 = .ok (.ifCond .eq 25, 3) := by decide +kernel
theorem dX6_sheet_7 : decode cX6_sheet 7 = .ok (.iload_n 2, 1) := by decide +kernel
theorem dX6_sheet_8 : decode cX6_sheet 8 = .ok (.ifCond .eq 27, 3) := by decide +kernel
theorem dX6_sheet_11 : decode cX6_sheet 11 = .ok (.iload_n 2, 1) := by decide +kernel
theorem dX6_sheet_12 : decode cX6_sheet 12 = .ok (.bipush 8, 2) := by decide +kernel
theorem dX6_sheet_14 : decode cX6_sheet 14 = .ok (.if_icmp .eq 21, 3) := by decide +kernel
theorem dX6_sheet_17 : decode cX6_sheet 17 = .ok (.iload_n 2, 1) := by decide +kernel
theorem dX6_sheet_18 : decode cX6_sheet 18 = .ok (.bipush 16, 2) := by decide +kernel
theorem dX6_sheet_20 : decode cX6_sheet 20 = .ok (.if_icmp .eq 15, 3) := by decide +kernel
theorem dX6_sheet_23 : decode cX6_sheet 23 = .ok (.iload_n 2, 1) := by decide +kernel
theorem dX6_sheet_24 : decode cX6_sheet 24 = .ok (.bipush 32, 2) := by decide +kernel
theorem dX6_sheet_26 : decode cX6_sheet 26 = .ok (.if_icmp .eq 9, 3) := by decide +kernel
theorem dX6_sheet_29 : decode cX6_sheet 29 = .ok (.aload_n 0, 1) := by decide +kernel
theorem dX6_sheet_30 : decode cX6_sheet 30 = .ok (.iconst 0, 1) := by decide +kernel
theorem dX6_sheet_31 : decode cX6_sheet 31 = .ok (.invokevirtual 75, 3) := by decide +kernel
theorem dX6_sheet_34 : decode cX6_sheet 34 = .ok (.ireturn, 1) := by decide +kernel
theorem dX6_sheet_35 : decode cX6_sheet 35 = .ok (.iload_n 3, 1) := by decide +kernel
theorem dX6_sheet_36 : decode cX6_sheet 36 = .ok (.ifCond .ge 10, 3) := by decide +kernel
theorem dX6_sheet_39 : decode cX6_sheet 39 = .ok (.aload_n 0, 1) := by decide +kernel
theorem dX6_sheet_40 : decode cX6_sheet 40 = .ok (.bipush 6, 2) := by decide +kernel
theorem dX6_sheet_42 : decode cX6_sheet 42 = .ok (.invokevirtual 75, 3) := by decide +kernel
theorem dX6_sheet_45 : decode cX6_sheet 45 = .ok (.ireturn, 1) := by decide +kernel
theorem dX6_sheet_46 : decode cX6_sheet 46 = .ok (.iload_n 3, 1) := by decide +kernel
theorem dX6_sheet_47 : decode cX6_sheet 47 = .ok (.bipush 40, 2) := by decide +kernel
theorem dX6_sheet_49 : decode cX6_sheet 49 = .ok (.if_icmp .le 9, 3) := by decide +kernel
theorem dX6_sheet_52 : decode cX6_sheet 52 = .ok (.aload_n 0, 1) := by decide +kernel
theorem dX6_sheet_53 : decode cX6_sheet 53 = .ok (.iconst 0, 1) := by decide +kernel
theorem dX6_sheet_54 : decode cX6_sheet 54 = .ok (.invokevirtual 75, 3) := by decide +kernel
theorem dX6_sheet_57 : decode cX6_sheet 57 = .ok (.ireturn, 1) := by decide +kernel
theorem dX6_sheet_58 : decode cX6_sheet 58 = .ok (.aload_n 0, 1) := by decide +kernel
theorem dX6_sheet_59 : decode cX6_sheet 59 = .ok (.getfield 58, 3) := by decide +kernel
theorem dX6_sheet_62 : decode cX6_sheet 62 = .ok (.iload_n 1, 1) := by decide +kernel
theorem dX6_sheet_63 : decode cX6_sheet 63 = .ok (.aaload, 1) := by decide +kernel
theorem dX6_sheet_64 : decode cX6_sheet 64 = .ok (.iload_n 2, 1) := by decide +kernel
theorem dX6_sheet_65 : decode cX6_sheet 65 = .ok (.iload_n 3, 1) := by decide +kernel
theorem dX6_sheet_66 : decode cX6_sheet 66 = .ok (.invokevirtual 251, 3) := by decide +kernel
theorem dX6_sheet_69 : decode cX6_sheet 69 = .ok (.aload_n 0, 1) := by decide +kernel
theorem dX6_sheet_70 : decode cX6_sheet 70 = .ok (.getfield 58, 3) := by decide +kernel
theorem dX6_sheet_73 : decode cX6_sheet 73 = .ok (.iload_n 1, 1) := by decide +kernel
theorem dX6_sheet_74 : decode cX6_sheet 74 = .ok (.aaload, 1) := by decide +kernel
theorem dX6_sheet_75 : decode cX6_sheet 75 = .ok (.getfield 254, 3) := by decide +kernel
theorem dX6_sheet_78 : decode cX6_sheet 78 = .ok (.ireturn, 1) := by decide +kernel
theorem dX6_write_0 : decode cX6_write 0 = .ok (.iload_n 1, 1) := by decide +kernel
theorem dX6_write_1 : decode cX6_write 1 = .ok (.invokestatic 248, 3) := by decide +kernel
theorem dX6_write_4 : decode cX6_write 4 = .ok (.ifCond .ne 9, 3) := by decide +kernel
theorem dX6_write_7 : decode cX6_write 7 = .ok (.aload_n 0, 1) := by decide +kernel
theorem dX6_write_8 : decode cX6_write 8 = .ok (.iconst 0, 1) := by decide +kernel
theorem dX6_write_9 : decode cX6_write 9 = .ok (.invokevirtual 75, 3) := by decide +kernel
theorem dX6_write_12 : decode cX6_write 12 = .ok (.ireturn, 1) := by decide +kernel
theorem dX6_write_13 : decode cX6_write 13 = .ok (.aload_n 0, 1) := by decide +kernel
theorem dX6_write_14 : decode cX6_write 14 = .ok (.getfield 58, 3) := by decide +kernel
theorem dX6_write_17 : decode cX6_write 17 = .ok (.iload_n 1, 1) := by decide +kernel
theorem dX6_write_18 : decode cX6_write 18 = .ok (.aaload, 1) := by decide +kernel
theorem dX6_write_19 : decode cX6_write 19 = .ok (.getfield 255, 3) := by decide +kernel
theorem dX6_write_22 : decode cX6_write 22 = .ok (.ifCond .ne 9, 3) := by decide +kernel
theorem dX6_write_25 : decode cX6_write 25 = .ok (.aload_n 0, 1) := by decide +kernel
theorem dX6_write_26 : decode cX6_write 26 = .ok (.iconst 5, 1) := by decide +kernel
theorem dX6_write_27 : decode cX6_write 27 = .ok (.invokevirtual 75, 3) := by decide +kernel
theorem dX6_write_30 : decode cX6_write 30 = .ok (.ireturn, 1) := by decide +kernel
theorem dX6_write_31 : decode cX6_write 31 = .ok (.iload_n 2, 1) := by decide +kernel
theorem dX6_write_32 : decode cX6_write 32 = .ok (.iconst 0, 1) := by decide +kernel
theorem dX6_write_33 : decode cX6_write 33 = .ok (.aload_n 0, 1) := by decide +kernel
theorem dX6_write_34 : decode cX6_write 34 = .ok (.getfield 58, 3) := by decide +kernel
theorem dX6_write_37 : decode cX6_write 37 = .ok (.iload_n 1, 1) := by decide +kernel
theorem dX6_write_38 : decode cX6_write 38 = .ok (.aaload, 1) := by decide +kernel
theorem dX6_write_39 : decode cX6_write 39 = .ok (.getfield 254, 3) := by decide +kernel
theorem dX6_write_42 : decode cX6_write 42 = .ok (.iconst 1, 1) := by decide +kernel
theorem dX6_write_43 : decode cX6_write 43 = .ok (.isub, 1) := by decide +kernel
theorem dX6_write_44 : decode cX6_write 44 = .ok (.invokestatic 71, 3) := by decide +kernel
theorem dX6_write_47 : decode cX6_write 47 = .ok (.ifCond .ne 9, 3) := by decide +kernel
theorem dX6_write_50 : decode cX6_write 50 = .ok (.aload_n 0, 1) := by decide +kernel
theorem dX6_write_51 : decode cX6_write 51 = .ok (.iconst 0, 1) := by decide +kernel
theorem dX6_write_52 : decode cX6_write 52 = .ok (.invokevirtual 75, 3) := by decide +kernel
theorem dX6_write_55 : decode cX6_write 55 = .ok (.ireturn, 1) := by decide +kernel
theorem dX6_write_56 : decode cX6_write 56 = .ok (.aload_n 0, 1) := by decide +kernel
theorem dX6_write_57 : decode cX6_write 57 = .ok (.getfield 58, 3) := by decide +kernel
theorem dX6_write_60 : decode cX6_write 60 = .ok (.iload_n 1, 1) := by decide +kernel
theorem dX6_write_61 : decode cX6_write 61 = .ok (.aaload, 1) := by decide +kernel
theorem dX6_write_62 : decode cX6_write 62 = .ok (.iload_n 2, 1) := by decide +kernel
theorem dX6_write_63 : decode cX6_write 63 = .ok (.iload_n 3, 1) := by decide +kernel
theorem dX6_write_64 : decode cX6_write 64 = .ok (.invokevirtual 258, 3) := by decide +kernel
theorem dX6_write_67 : decode cX6_write 67 = .ok (.iconst 1, 1) := by decide +kernel
theorem dX6_write_68 : decode cX6_write 68 = .ok (.ireturn, 1) := by decide +kernel
theorem dX6_copy_0 : decode cX6_copy 0 = .ok (.iload_n 1, 1) := by decide +kernel
theorem dX6_copy_1 : decode cX6_copy 1 = .ok (.invokestatic 248, 3) := by decide +kernel
theorem dX6_copy_4 : decode cX6_copy 4 = .ok (.ifCond .eq 10, 3) := by decide +kernel
theorem dX6_copy_7 : decode cX6_copy 7 = .ok (.iload_n 3, 1) := by decide +kernel
theorem dX6_copy_8 : decode cX6_copy 8 = .ok (.invokestatic 248, 3) := by decide +kernel
theorem dX6_copy_11 : decode cX6_copy 11 = .ok (.ifCond .ne 9, 3) := by decide +kernel
theorem dX6_copy_14 : decode cX6_copy 14 = .ok (.aload_n 0, 1) := by decide +kernel
theorem dX6_copy_15 : decode cX6_copy 15 = .ok (.iconst 0, 1) := by decide +kernel
theorem dX6_copy_16 : decode cX6_copy 16 = .ok (.invokevirtual 75, 3) := by decide +kernel
theorem dX6_copy_19 : decode cX6_copy 19 = .ok (.ireturn, 1) := by decide +kernel
theorem dX6_copy_20 : decode cX6_copy 20 = .ok (.aload_n 0, 1) := by decide +kernel
theorem dX6_copy_21 : decode cX6_copy 21 = .ok (.getfield 58, 3) := by decide +kernel
theorem dX6_copy_24 : decode cX6_copy 24 = .ok (.iload_n 1, 1) := by decide +kernel
theorem dX6_copy_25 : decode cX6_copy 25 = .ok (.aaload, 1) := by decide +kernel
theorem dX6_copy_26 : decode cX6_copy 26 = .ok (.getfield 255, 3) := by decide +kernel
theorem dX6_copy_29 : decode cX6_copy 29 = .ok (.ifCond .eq 15, 3) := by decide +kernel
theorem dX6_copy_32 : decode cX6_copy 32 = .ok (.aload_n 0, 1) := by decide +kernel
theorem dX6_copy_33 : decode cX6_copy 33 = .ok (.getfield 58, 3) := by decide +kernel
theorem dX6_copy_36 : decode cX6_copy 36 = .ok (.iload_n 3, 1) := by decide +kernel
theorem dX6_copy_37 : decode cX6_copy 37 = .ok (.aaload, 1) := by decide +kernel
theorem dX6_copy_38 : decode cX6_copy 38 = .ok (.getfield 255, 3) := by decide +kernel
theorem dX6_copy_41 : decode cX6_copy 41 = .ok (.ifCond .ne 9, 3) := by decide +kernel
theorem dX6_copy_44 : decode cX6_copy 44 = .ok (.aload_n 0, 1) := by decide +kernel
theorem dX6_copy_45 : decode cX6_copy 45 = .ok (.iconst 5, 1) := by decide +kernel
theorem dX6_copy_46 : decode cX6_copy 46 = .ok (.invokevirtual 75, 3) := by decide +kernel
theorem dX6_copy_49 : decode cX6_copy 49 = .ok (.ireturn, 1) := by decide +kernel
theorem dX6_copy_50 : decode cX6_copy 50 = .ok (.aload_n 0, 1) := by decide +kernel
theorem dX6_copy_51 : decode cX6_copy 51 = .ok (.getfield 58, 3) := by decide +kernel
theorem dX6_copy_54 : decode cX6_copy 54 = .ok (.iload_n 1, 1) := by decide +kernel
theorem dX6_copy_55 : decode cX6_copy 55 = .ok (.aaload, 1) := by decide +kernel
theorem dX6_copy_56 : decode cX6_copy 56 = .ok (.getfield 255, 3) := by decide +kernel
theorem dX6_copy_59 : decode cX6_copy 59 = .ok (.aload_n 0, 1) := by decide +kernel
theorem dX6_copy_60 : decode cX6_copy 60 = .ok (.getfield 58, 3) := by decide +kernel
theorem dX6_copy_63 : decode cX6_copy 63 = .ok (.iload_n 3, 1) := by decide +kernel
theorem dX6_copy_64 : decode cX6_copy 64 = .ok (.aaload, 1) := by decide +kernel
theorem dX6_copy_65 : decode cX6_copy 65 = .ok (.getfield 255, 3) := by decide +kernel
theorem dX6_copy_68 : decode cX6_copy 68 = .ok (.if_icmp .eq 9, 3) := by decide +kernel
theorem dX6_copy_71 : decode cX6_copy 71 = .ok (.aload_n 0, 1) := by decide +kernel
theorem dX6_copy_72 : decode cX6_copy 72 = .ok (.iconst 2, 1) := by decide +kernel
theorem dX6_copy_73 : decode cX6_copy 73 = .ok (.invokevirtual 75, 3) := by decide +kernel
theorem dX6_copy_76 : decode cX6_copy 76 = .ok (.ireturn, 1) := by decide +kernel
theorem dX6_copy_77 : decode cX6_copy 77 = .ok (.aload_n 0, 1) := by decide +kernel
theorem dX6_copy_78 : decode cX6_copy 78 = .ok (.getfield 58, 3) := by decide +kernel
theorem dX6_copy_81 : decode cX6_copy 81 = .ok (.iload_n 1, 1) := by decide +kernel
theorem dX6_copy_82 : decode cX6_copy 82 = .ok (.aaload, 1) := by decide +kernel
theorem dX6_copy_83 : decode cX6_copy 83 = .ok (.iload_n 2, 1) := by decide +kernel
theorem dX6_copy_84 : decode cX6_copy 84 = .ok (.iload 5, 2) := by decide +kernel
theorem dX6_copy_86 : decode cX6_copy 86 = .ok (.invokevirtual 261, 3) := by decide +kernel
theorem dX6_copy_89 : decode cX6_copy 89 = .ok (.ifCond .eq 19, 3) := by decide +kernel
theorem dX6_copy_92 : decode cX6_copy 92 = .ok (.aload_n 0, 1) := by decide +kernel
theorem dX6_copy_93 : decode cX6_copy 93 = .ok (.getfield 58, 3) := by decide +kernel
theorem dX6_copy_96 : decode cX6_copy 96 = .ok (.iload_n 3, 1) := by decide +kernel
theorem dX6_copy_97 : decode cX6_copy 97 = .ok (.aaload, 1) := by decide +kernel
theorem dX6_copy_98 : decode cX6_copy 98 = .ok (.iload 4, 2) := by decide +kernel
theorem dX6_copy_100 : decode cX6_copy 100 = .ok (.iload 5, 2) := by decide +kernel
theorem dX6_copy_102 : decode cX6_copy 102 = .ok (.invokevirtual 261, 3) := by decide +kernel
theorem dX6_copy_105 : decode cX6_copy 105 = .ok (.ifCond .ne 9, 3) := by decide +kernel
theorem dX6_copy_108 : decode cX6_copy 108 = .ok (.aload_n 0, 1) := by decide +kernel
theorem dX6_copy_109 : decode cX6_copy 109 = .ok (.iconst 0, 1) := by decide +kernel
theorem dX6_copy_110 : decode cX6_copy 110 = .ok (.invokevirtual 75, 3) := by decide +kernel
theorem dX6_copy_113 : decode cX6_copy 113 = .ok (.ireturn, 1) := by decide +kernel
theorem dX6_copy_114 : decode cX6_copy 114 = .ok (.aload_n 0, 1) := by decide +kernel
theorem dX6_copy_115 : decode cX6_copy 115 = .ok (.getfield 58, 3) := by decide +kernel
theorem dX6_copy_118 : decode cX6_copy 118 = .ok (.iload_n 1, 1) := by decide +kernel
theorem dX6_copy_119 : decode cX6_copy 119 = .ok (.aaload, 1) := by decide +kernel
theorem dX6_copy_120 : decode cX6_copy 120 = .ok (.getfield 264, 3) := by decide +kernel
theorem dX6_copy_123 : decode cX6_copy 123 = .ok (.iload_n 2, 1) := by decide +kernel
theorem dX6_copy_124 : decode cX6_copy 124 = .ok (.aload_n 0, 1) := by decide +kernel
theorem dX6_copy_125 : decode cX6_copy 125 = .ok (.getfield 58, 3) := by decide +kernel
theorem dX6_copy_128 : decode cX6_copy 128 = .ok (.iload_n 3, 1) := by decide +kernel
theorem dX6_copy_129 : decode cX6_copy 129 = .ok (.aaload, 1) := by decide +kernel
theorem dX6_copy_130 : decode cX6_copy 130 = .ok (.getfield 264, 3) := by decide +kernel
theorem dX6_copy_133 : decode cX6_copy 133 = .ok (.iload 4, 2) := by decide +kernel
theorem dX6_copy_135 : decode cX6_copy 135 = .ok (.iload 5, 2) := by decide +kernel
theorem dX6_copy_137 : decode cX6_copy 137 = .ok (.invokestatic 267, 3) := by decide +kernel
theorem dX6_copy_140 : decode cX6_copy 140 = .ok (.iload 5, 2) := by decide +kernel
theorem dX6_copy_142 : decode cX6_copy 142 = .ok (.ireturn, 1) := by decide +kernel
theorem dX6_load_0 : decode cX6_load 0 = .ok (.iload_n 1, 1) := by decide +kernel
theorem dX6_load_1 : decode cX6_load 1 = .ok (.invokestatic 248, 3) := by decide +kernel
theorem dX6_load_4 : decode cX6_load 4 = .ok (.ifCond .ne 9, 3) := by decide +kernel
theorem dX6_load_7 : decode cX6_load 7 = .ok (.aload_n 0, 1) := by decide +kernel
theorem dX6_load_8 : decode cX6_load 8 = .ok (.iconst 0, 1) := by decide +kernel
theorem dX6_load_9 : decode cX6_load 9 = .ok (.invokevirtual 75, 3) := by decide +kernel
theorem dX6_load_12 : decode cX6_load 12 = .ok (.ireturn, 1) := by decide +kernel
theorem dX6_load_13 : decode cX6_load 13 = .ok (.aload_n 0, 1) := by decide +kernel
theorem dX6_load_14 : decode cX6_load 14 = .ok (.getfield 58, 3) := by decide +kernel
theorem dX6_load_17 : decode cX6_load 17 = .ok (.iload_n 1, 1) := by decide +kernel
theorem dX6_load_18 : decode cX6_load 18 = .ok (.aaload, 1) := by decide +kernel
theorem dX6_load_19 : decode cX6_load 19 = .ok (.astore_n 2, 1) := by decide +kernel
theorem dX6_load_20 : decode cX6_load 20 = .ok (.aload_n 2, 1) := by decide +kernel
theorem dX6_load_21 : decode cX6_load 21 = .ok (.getfield 255, 3) := by decide +kernel
theorem dX6_load_24 : decode cX6_load 24 = .ok (.ifCond .ne 9, 3) := by decide +kernel
theorem dX6_load_27 : decode cX6_load 27 = .ok (.aload_n 0, 1) := by decide +kernel
theorem dX6_load_28 : decode cX6_load 28 = .ok (.iconst 5, 1) := by decide +kernel
theorem dX6_load_29 : decode cX6_load 29 = .ok (.invokevirtual 75, 3) := by decide +kernel
theorem dX6_load_32 : decode cX6_load 32 = .ok (.ireturn, 1) := by decide +kernel
theorem dX6_load_33 : decode cX6_load 33 = .ok (.iconst 0, 1) := by decide +kernel
theorem dX6_load_34 : decode cX6_load 34 = .ok (.istore_n 3, 1) := by decide +kernel
theorem dX6_load_35 : decode cX6_load 35 = .ok (.iload_n 3, 1) := by decide +kernel
theorem dX6_load_36 : decode cX6_load 36 = .ok (.aload_n 2, 1) := by decide +kernel
theorem dX6_load_37 : decode cX6_load 37 = .ok (.getfield 254, 3) := by decide +kernel
theorem dX6_load_40 : decode cX6_load 40 = .ok (.if_icmp .ge 51, 3) := by decide +kernel
theorem dX6_load_43 : decode cX6_load 43 = .ok (.iload_n 3, 1) := by decide +kernel
theorem dX6_load_44 : decode cX6_load 44 = .ok (.aload_n 0, 1) := by decide +kernel
theorem dX6_load_45 : decode cX6_load 45 = .ok (.getfield 10, 3) := by decide +kernel
theorem dX6_load_48 : decode cX6_load 48 = .ok (.getfield 100, 3) := by decide +kernel
theorem dX6_load_51 : decode cX6_load 51 = .ok (.if_icmp .ge 40, 3) := by decide +kernel
theorem dX6_load_54 : decode cX6_load 54 = .ok (.aload_n 2, 1) := by decide +kernel
theorem dX6_load_55 : decode cX6_load 55 = .ok (.getfield 264, 3) := by decide +kernel
theorem dX6_load_58 : decode cX6_load 58 = .ok (.iload_n 3, 1) := by decide +kernel
theorem dX6_load_59 : decode cX6_load 59 = .ok (.iaload, 1) := by decide +kernel
theorem dX6_load_60 : decode cX6_load 60 = .ok (.iconst 0, 1) := by decide +kernel
theorem dX6_load_61 : decode cX6_load 61 = .ok (.sipush 4095, 3) := by decide +kernel
theorem dX6_load_64 : decode cX6_load 64 = .ok (.invokestatic 71, 3) := by decide +kernel
theorem dX6_load_67 : decode cX6_load 67 = .ok (.ifCond .eq 24, 3) := by decide +kernel
theorem dX6_load_70 : decode cX6_load 70 = .ok (.aload_n 0, 1) := by decide +kernel
theorem dX6_load_71 : decode cX6_load 71 = .ok (.getfield 10, 3) := by decide +kernel
theorem dX6_load_74 : decode cX6_load 74 = .ok (.getfield 110, 3) := by decide +kernel
theorem dX6_load_77 : decode cX6_load 77 = .ok (.iload_n 3, 1) := by decide +kernel
theorem dX6_load_78 : decode cX6_load 78 = .ok (.aload_n 2, 1) := by decide +kernel
theorem dX6_load_79 : decode cX6_load 79 = .ok (.getfield 264, 3) := by decide +kernel
theorem dX6_load_82 : decode cX6_load 82 = .ok (.iload_n 3, 1) := by decide +kernel
theorem dX6_load_83 : decode cX6_load 83 = .ok (.iaload, 1) := by decide +kernel
theorem dX6_load_84 : decode cX6_load 84 = .ok (.iastore, 1) := by decide +kernel
theorem dX6_load_85 : decode cX6_load 85 = .ok (.iinc 3 1, 3) := by decide +kernel
theorem dX6_load_88 : decode cX6_load 88 = .ok (.goto (-53), 3) := by decide +kernel
theorem dX6_load_91 : decode cX6_load 91 = .ok (.iload_n 3, 1) := by decide +kernel
theorem dX6_load_92 : decode cX6_load 92 = .ok (.ireturn, 1) := by decide +kernel
theorem dX6_judge_0 : decode cX6_judge 0 = .ok (.iload_n 1, 1) := by decide +kernel
theorem dX6_judge_1 : decode cX6_judge 1 = .ok (.invokestatic 248, 3) := by decide +kernel
theorem dX6_judge_4 : decode cX6_judge 4 = .ok (.ifCond .ne 9, 3) := by decide +kernel
theorem dX6_judge_7 : decode cX6_judge 7 = .ok (.aload_n 0, 1) := by decide +kernel
theorem dX6_judge_8 : decode cX6_judge 8 = .ok (.iconst 0, 1) := by decide +kernel
theorem dX6_judge_9 : decode cX6_judge 9 = .ok (.invokevirtual 75, 3) := by decide +kernel
theorem dX6_judge_12 : decode cX6_judge 12 = .ok (.ireturn, 1) := by decide +kernel
theorem dX6_judge_13 : decode cX6_judge 13 = .ok (.aload_n 0, 1) := by decide +kernel
theorem dX6_judge_14 : decode cX6_judge 14 = .ok (.getfield 58, 3) := by decide +kernel
theorem dX6_judge_17 : decode cX6_judge 17 = .ok (.iload_n 1, 1) := by decide +kernel
theorem dX6_judge_18 : decode cX6_judge 18 = .ok (.aaload, 1) := by decide +kernel
theorem dX6_judge_19 : decode cX6_judge 19 = .ok (.getfield 255, 3) := by decide +kernel
theorem dX6_judge_22 : decode cX6_judge 22 = .ok (.ifCond .ne 9, 3) := by decide +kernel
theorem dX6_judge_25 : decode cX6_judge 25 = .ok (.aload_n 0, 1) := by decide +kernel
theorem dX6_judge_26 : decode cX6_judge 26 = .ok (.iconst 5, 1) := by decide +kernel
theorem dX6_judge_27 : decode cX6_judge 27 = .ok (.invokevirtual 75, 3) := by decide +kernel
theorem dX6_judge_30 : decode cX6_judge 30 = .ok (.ireturn, 1) := by decide +kernel
theorem dX6_judge_31 : decode cX6_judge 31 = .ok (.aload_n 0, 1) := by decide +kernel
theorem dX6_judge_32 : decode cX6_judge 32 = .ok (.getfield 10, 3) := by decide +kernel
theorem dX6_judge_35 : decode cX6_judge 35 = .ok (.iload_n 2, 1) := by decide +kernel
theorem dX6_judge_36 : decode cX6_judge 36 = .ok (.invokevirtual 127, 3) := by decide +kernel
theorem dX6_judge_39 : decode cX6_judge 39 = .ok (.ifCond .ne 9, 3) := by decide +kernel
theorem dX6_judge_42 : decode cX6_judge 42 = .ok (.aload_n 0, 1) := by decide +kernel
theorem dX6_judge_43 : decode cX6_judge 43 = .ok (.iconst 0, 1) := by decide +kernel
theorem dX6_judge_44 : decode cX6_judge 44 = .ok (.invokevirtual 75, 3) := by decide +kernel
theorem dX6_judge_47 : decode cX6_judge 47 = .ok (.ireturn, 1) := by decide +kernel
theorem dX6_judge_48 : decode cX6_judge 48 = .ok (.aload_n 0, 1) := by decide +kernel
theorem dX6_judge_49 : decode cX6_judge 49 = .ok (.getfield 10, 3) := by decide +kernel
theorem dX6_judge_52 : decode cX6_judge 52 = .ok (.getfield 130, 3) := by decide +kernel
theorem dX6_judge_55 : decode cX6_judge 55 = .ok (.iload_n 2, 1) := by decide +kernel
theorem dX6_judge_56 : decode cX6_judge 56 = .ok (.iaload, 1) := by decide +kernel
theorem dX6_judge_57 : decode cX6_judge 57 = .ok (.istore_n 3, 1) := by decide +kernel
theorem dX6_judge_58 : decode cX6_judge 58 = .ok (.aload_n 0, 1) := by decide +kernel
theorem dX6_judge_59 : decode cX6_judge 59 = .ok (.getfield 34, 3) := by decide +kernel
theorem dX6_judge_62 : decode cX6_judge 62 = .ok (.iload_n 2, 1) := by decide +kernel
theorem dX6_judge_63 : decode cX6_judge 63 = .ok (.aload_n 0, 1) := by decide +kernel
theorem dX6_judge_64 : decode cX6_judge 64 = .ok (.getfield 58, 3) := by decide +kernel
theorem dX6_judge_67 : decode cX6_judge 67 = .ok (.iload_n 1, 1) := by decide +kernel
theorem dX6_judge_68 : decode cX6_judge 68 = .ok (.aaload, 1) := by decide +kernel
theorem dX6_judge_69 : decode cX6_judge 69 = .ok (.invokevirtual 273, 3) := by decide +kernel
theorem dX6_judge_72 : decode cX6_judge 72 = .ok (.istore 4, 2) := by decide +kernel
theorem dX6_judge_74 : decode cX6_judge 74 = .ok (.iload 4, 2) := by decide +kernel
theorem dX6_judge_76 : decode cX6_judge 76 = .ok (.iload_n 3, 1) := by decide +kernel
theorem dX6_judge_77 : decode cX6_judge 77 = .ok (.if_icmp .ne 20, 3) := by decide +kernel
theorem dX6_judge_80 : decode cX6_judge 80 = .ok (.aload_n 0, 1) := by decide +kernel
theorem dX6_judge_81 : decode cX6_judge 81 = .ok (.getfield 58, 3) := by decide +kernel
theorem dX6_judge_84 : decode cX6_judge 84 = .ok (.iload_n 1, 1) := by decide +kernel
theorem dX6_judge_85 : decode cX6_judge 85 = .ok (.aaload, 1) := by decide +kernel
theorem dX6_judge_86 : decode cX6_judge 86 = .ok (.getfield 254, 3) := by decide +kernel
theorem dX6_judge_89 : decode cX6_judge 89 = .ok (.iload_n 3, 1) := by decide +kernel
theorem dX6_judge_90 : decode cX6_judge 90 = .ok (.if_icmp .ne 7, 3) := by decide +kernel
theorem dX6_judge_93 : decode cX6_judge 93 = .ok (.iconst 0, 1) := by decide +kernel
theorem dX6_judge_94 : decode cX6_judge 94 = .ok (.goto 7, 3) := by decide +kernel
theorem dX6_judge_97 : decode cX6_judge 97 = .ok (.iload 4, 2) := by decide +kernel
theorem dX6_judge_99 : decode cX6_judge 99 = .ok (.iconst 1, 1) := by decide +kernel
theorem dX6_judge_100 : decode cX6_judge 100 = .ok (.iadd, 1) := by decide +kernel
theorem dX6_judge_101 : decode cX6_judge 101 = .ok (.ireturn, 1) := by decide +kernel
theorem dX6_image_0 : decode cX6_image 0 = .ok (.aload_n 0, 1) := by decide +kernel
theorem dX6_image_1 : decode cX6_image 1 = .ok (.getfield 16, 3) := by decide +kernel
theorem dX6_image_4 : decode cX6_image 4 = .ok (.aload_n 0, 1) := by decide +kernel
theorem dX6_image_5 : decode cX6_image 5 = .ok (.getfield 10, 3) := by decide +kernel
theorem dX6_image_8 : decode cX6_image 8 = .ok (.invokevirtual 87, 3) := by decide +kernel
theorem dX6_image_11 : decode cX6_image 11 = .ok (.aload_n 0, 1) := by decide +kernel
theorem dX6_image_12 : decode cX6_image 12 = .ok (.iconst 1, 1) := by decide +kernel
theorem dX6_image_13 : decode cX6_image 13 = .ok (.putfield 66, 3) := by decide +kernel
theorem dX6_image_16 : decode cX6_image 16 = .ok (.iconst 1, 1) := by decide +kernel
theorem dX6_image_17 : decode cX6_image 17 = .ok (.ireturn, 1) := by decide +kernel
theorem dX6_undo_0 : decode cX6_undo 0 = .ok (.aload_n 0, 1) := by decide +kernel
theorem dX6_undo_1 : decode cX6_undo 1 = .ok (.getfield 66, 3) := by decide +kernel
theorem dX6_undo_4 : decode cX6_undo 4 = .ok (.ifCond .ne 9, 3) := by decide +kernel
theorem dX6_undo_7 : decode cX6_undo 7 = .ok (.aload_n 0, 1) := by decide +kernel
theorem dX6_undo_8 : decode cX6_undo 8 = .ok (.iconst 3, 1) := by decide +kernel
theorem dX6_undo_9 : decode cX6_undo 9 = .ok (.invokevirtual 75, 3) := by decide +kernel
theorem dX6_undo_12 : decode cX6_undo 12 = .ok (.ireturn, 1) := by decide +kernel
theorem dX6_undo_13 : decode cX6_undo 13 = .ok (.aload_n 0, 1) := by decide +kernel
theorem dX6_undo_14 : decode cX6_undo 14 = .ok (.getfield 10, 3) := by decide +kernel
theorem dX6_undo_17 : decode cX6_undo 17 = .ok (.aload_n 0, 1) := by decide +kernel
theorem dX6_undo_18 : decode cX6_undo 18 = .ok (.getfield 16, 3) := by decide +kernel
theorem dX6_undo_21 : decode cX6_undo 21 = .ok (.invokevirtual 87, 3) := by decide +kernel
theorem dX6_undo_24 : decode cX6_undo 24 = .ok (.aload_n 0, 1) := by decide +kernel
theorem dX6_undo_25 : decode cX6_undo 25 = .ok (.getfield 10, 3) := by decide +kernel
theorem dX6_undo_28 : decode cX6_undo 28 = .ok (.getfield 117, 3) := by decide +kernel
theorem dX6_undo_31 : decode cX6_undo 31 = .ok (.ireturn, 1) := by decide +kernel
theorem dX6_tear_0 : decode cX6_tear 0 = .ok (.aload_n 0, 1) := by decide +kernel
theorem dX6_tear_1 : decode cX6_tear 1 = .ok (.getfield 66, 3) := by decide +kernel
theorem dX6_tear_4 : decode cX6_tear 4 = .ok (.ifCond .eq 7, 3) := by decide +kernel
theorem dX6_tear_7 : decode cX6_tear 7 = .ok (.iconst 1, 1) := by decide +kernel
theorem dX6_tear_8 : decode cX6_tear 8 = .ok (.goto 4, 3) := by decide +kernel
theorem dX6_tear_11 : decode cX6_tear 11 = .ok (.iconst 0, 1) := by decide +kernel
theorem dX6_tear_12 : decode cX6_tear 12 = .ok (.istore_n 1, 1) := by decide +kernel
theorem dX6_tear_13 : decode cX6_tear 13 = .ok (.aload_n 0, 1) := by decide +kernel
theorem dX6_tear_14 : decode cX6_tear 14 = .ok (.iconst 0, 1) := by decide +kernel
theorem dX6_tear_15 : decode cX6_tear 15 = .ok (.putfield 66, 3) := by decide +kernel
theorem dX6_tear_18 : decode cX6_tear 18 = .ok (.iload_n 1, 1) := by decide +kernel
theorem dX6_tear_19 : decode cX6_tear 19 = .ok (.ireturn, 1) := by decide +kernel
theorem dX6_count_0 : decode cX6_count 0 = .ok (.iload_n 1, 1) := by decide +kernel
theorem dX6_count_1 : decode cX6_count 1 = .ok (.tableswitch 111 0 7 #[47, 55, 63, 71, 79, 87, 95, 103], 47) := by decide +kernel
theorem dX6_count_48 : decode cX6_count 48 = .ok (.aload_n 0, 1) := by decide +kernel
theorem dX6_count_49 : decode cX6_count 49 = .ok (.getfield 10, 3) := by decide +kernel
theorem dX6_count_52 : decode cX6_count 52 = .ok (.getfield 94, 3) := by decide +kernel
theorem dX6_count_55 : decode cX6_count 55 = .ok (.ireturn, 1) := by decide +kernel
theorem dX6_count_56 : decode cX6_count 56 = .ok (.aload_n 0, 1) := by decide +kernel
theorem dX6_count_57 : decode cX6_count 57 = .ok (.getfield 10, 3) := by decide +kernel
theorem dX6_count_60 : decode cX6_count 60 = .ok (.getfield 97, 3) := by decide +kernel
theorem dX6_count_63 : decode cX6_count 63 = .ok (.ireturn, 1) := by decide +kernel
theorem dX6_count_64 : decode cX6_count 64 = .ok (.aload_n 0, 1) := by decide +kernel
theorem dX6_count_65 : decode cX6_count 65 = .ok (.getfield 10, 3) := by decide +kernel
theorem dX6_count_68 : decode cX6_count 68 = .ok (.getfield 100, 3) := by decide +kernel
theorem dX6_count_71 : decode cX6_count 71 = .ok (.ireturn, 1) := by decide +kernel
theorem dX6_count_72 : decode cX6_count 72 = .ok (.aload_n 0, 1) := by decide +kernel
theorem dX6_count_73 : decode cX6_count 73 = .ok (.getfield 10, 3) := by decide +kernel
theorem dX6_count_76 : decode cX6_count 76 = .ok (.getfield 117, 3) := by decide +kernel
theorem dX6_count_79 : decode cX6_count 79 = .ok (.ireturn, 1) := by decide +kernel
theorem dX6_count_80 : decode cX6_count 80 = .ok (.aload_n 0, 1) := by decide +kernel
theorem dX6_count_81 : decode cX6_count 81 = .ok (.getfield 10, 3) := by decide +kernel
theorem dX6_count_84 : decode cX6_count 84 = .ok (.getfield 175, 3) := by decide +kernel
theorem dX6_count_87 : decode cX6_count 87 = .ok (.ireturn, 1) := by decide +kernel
theorem dX6_count_88 : decode cX6_count 88 = .ok (.aload_n 0, 1) := by decide +kernel
theorem dX6_count_89 : decode cX6_count 89 = .ok (.getfield 25, 3) := by decide +kernel
theorem dX6_count_92 : decode cX6_count 92 = .ok (.getfield 79, 3) := by decide +kernel
theorem dX6_count_95 : decode cX6_count 95 = .ok (.ireturn, 1) := by decide +kernel
theorem dX6_count_96 : decode cX6_count 96 = .ok (.aload_n 0, 1) := by decide +kernel
theorem dX6_count_97 : decode cX6_count 97 = .ok (.getfield 10, 3) := by decide +kernel
theorem dX6_count_100 : decode cX6_count 100 = .ok (.getfield 239, 3) := by decide +kernel
theorem dX6_count_103 : decode cX6_count 103 = .ok (.ireturn, 1) := by decide +kernel
theorem dX6_count_104 : decode cX6_count 104 = .ok (.aload_n 0, 1) := by decide +kernel
theorem dX6_count_105 : decode cX6_count 105 = .ok (.getfield 10, 3) := by decide +kernel
theorem dX6_count_108 : decode cX6_count 108 = .ok (.invokevirtual 277, 3) := by decide +kernel
theorem dX6_count_111 : decode cX6_count 111 = .ok (.ireturn, 1) := by decide +kernel
theorem dX6_count_112 : decode cX6_count 112 = .ok (.aload_n 0, 1) := by decide +kernel
theorem dX6_count_113 : decode cX6_count 113 = .ok (.iconst 0, 1) := by decide +kernel
theorem dX6_count_114 : decode cX6_count 114 = .ok (.invokevirtual 75, 3) := by decide +kernel
theorem dX6_count_117 : decode cX6_count 117 = .ok (.ireturn, 1) := by decide +kernel
theorem dX6_status_0 : decode cX6_status 0 = .ok (.iload_n 1, 1) := by decide +kernel
theorem dX6_status_1 : decode cX6_status 1 = .ok (.iconst (-1), 1) := by decide +kernel
theorem dX6_status_2 : decode cX6_status 2 = .ok (.bipush 6, 2) := by decide +kernel
theorem dX6_status_4 : decode cX6_status 4 = .ok (.invokestatic 71, 3) := by decide +kernel
theorem dX6_status_7 : decode cX6_status 7 = .ok (.ifCond .ne 9, 3) := by decide +kernel
theorem dX6_status_10 : decode cX6_status 10 = .ok (.aload_n 0, 1) := by decide +kernel
theorem dX6_status_11 : decode cX6_status 11 = .ok (.iconst 0, 1) := by decide +kernel
theorem dX6_status_12 : decode cX6_status 12 = .ok (.invokevirtual 75, 3) := by decide +kernel
theorem dX6_status_15 : decode cX6_status 15 = .ok (.ireturn, 1) := by decide +kernel
theorem dX6_status_16 : decode cX6_status 16 = .ok (.iload_n 1, 1) := by decide +kernel
theorem dX6_status_17 : decode cX6_status 17 = .ok (.ifCond .lt 10, 3) := by decide +kernel
theorem dX6_status_20 : decode cX6_status 20 = .ok (.aload_n 0, 1) := by decide +kernel
theorem dX6_status_21 : decode cX6_status 21 = .ok (.getfield 62, 3) := by decide +kernel
theorem dX6_status_24 : decode cX6_status 24 = .ok (.iload_n 1, 1) := by decide +kernel
theorem dX6_status_25 : decode cX6_status 25 = .ok (.iaload, 1) := by decide +kernel
theorem dX6_status_26 : decode cX6_status 26 = .ok (.ireturn, 1) := by decide +kernel
theorem dX6_status_27 : decode cX6_status 27 = .ok (.iconst 0, 1) := by decide +kernel
theorem dX6_status_28 : decode cX6_status 28 = .ok (.istore_n 2, 1) := by decide +kernel
theorem dX6_status_29 : decode cX6_status 29 = .ok (.iconst 0, 1) := by decide +kernel
theorem dX6_status_30 : decode cX6_status 30 = .ok (.istore_n 3, 1) := by decide +kernel
theorem dX6_status_31 : decode cX6_status 31 = .ok (.iload_n 3, 1) := by decide +kernel
theorem dX6_status_32 : decode cX6_status 32 = .ok (.bipush 7, 2) := by decide +kernel
theorem dX6_status_34 : decode cX6_status 34 = .ok (.if_icmp .ge 18, 3) := by decide +kernel
theorem dX6_status_37 : decode cX6_status 37 = .ok (.iload_n 2, 1) := by decide +kernel
theorem dX6_status_38 : decode cX6_status 38 = .ok (.aload_n 0, 1) := by decide +kernel
theorem dX6_status_39 : decode cX6_status 39 = .ok (.getfield 62, 3) := by decide +kernel
theorem dX6_status_42 : decode cX6_status 42 = .ok (.iload_n 3, 1) := by decide +kernel
theorem dX6_status_43 : decode cX6_status 43 = .ok (.iaload, 1) := by decide +kernel
theorem dX6_status_44 : decode cX6_status 44 = .ok (.iadd, 1) := by decide +kernel
theorem dX6_status_45 : decode cX6_status 45 = .ok (.istore_n 2, 1) := by decide +kernel
theorem dX6_status_46 : decode cX6_status 46 = .ok (.iinc 3 1, 3) := by decide +kernel
theorem dX6_status_49 : decode cX6_status 49 = .ok (.goto (-18), 3) := by decide +kernel
theorem dX6_status_52 : decode cX6_status 52 = .ok (.iload_n 2, 1) := by decide +kernel
theorem dX6_status_53 : decode cX6_status 53 = .ok (.ireturn, 1) := by decide +kernel
theorem dX6_found_0 : decode cX6_found 0 = .ok (.iload_n 1, 1) := by decide +kernel
theorem dX6_found_1 : decode cX6_found 1 = .ok (.iconst 0, 1) := by decide +kernel
theorem dX6_found_2 : decode cX6_found 2 = .ok (.bipush 6, 2) := by decide +kernel
theorem dX6_found_4 : decode cX6_found 4 = .ok (.invokestatic 71, 3) := by decide +kernel
theorem dX6_found_7 : decode cX6_found 7 = .ok (.ifCond .eq 13, 3) := by decide +kernel
theorem dX6_found_10 : decode cX6_found 10 = .ok (.aload_n 0, 1) := by decide +kernel
theorem dX6_found_11 : decode cX6_found 11 = .ok (.getfield 62, 3) := by decide +kernel
theorem dX6_found_14 : decode cX6_found 14 = .ok (.iload_n 1, 1) := by decide +kernel
theorem dX6_found_15 : decode cX6_found 15 = .ok (.dup2, 1) := by decide +kernel
theorem dX6_found_16 : decode cX6_found 16 = .ok (.iaload, 1) := by decide +kernel
theorem dX6_found_17 : decode cX6_found 17 = .ok (.iconst 1, 1) := by decide +kernel
theorem dX6_found_18 : decode cX6_found 18 = .ok (.iadd, 1) := by decide +kernel
theorem dX6_found_19 : decode cX6_found 19 = .ok (.iastore, 1) := by decide +kernel
theorem dX6_found_20 : decode cX6_found 20 = .ok (.ldc_w 280, 3) := by decide +kernel
theorem dX6_found_23 : decode cX6_found 23 = .ok (.iload_n 1, 1) := by decide +kernel
theorem dX6_found_24 : decode cX6_found 24 = .ok (.isub, 1) := by decide +kernel
theorem dX6_found_25 : decode cX6_found 25 = .ok (.ireturn, 1) := by decide +kernel
theorem dX6_dayOrNone_0 : decode cX6_dayOrNone 0 = .ok (.iload_n 1, 1) := by decide +kernel
theorem dX6_dayOrNone_1 : decode cX6_dayOrNone 1 = .ok (.ifCond .ge 11, 3) := by decide +kernel
theorem dX6_dayOrNone_4 : decode cX6_dayOrNone 4 = .ok (.aload_n 0, 1) := by decide +kernel
theorem dX6_dayOrNone_5 : decode cX6_dayOrNone 5 = .ok (.iconst 3, 1) := by decide +kernel
theorem dX6_dayOrNone_6 : decode cX6_dayOrNone 6 = .ok (.invokevirtual 75, 3) := by decide +kernel
theorem dX6_dayOrNone_9 : decode cX6_dayOrNone 9 = .ok (.goto 4, 3) := by decide +kernel
theorem dX6_dayOrNone_12 : decode cX6_dayOrNone 12 = .ok (.iload_n 1, 1) := by decide +kernel
theorem dX6_dayOrNone_13 : decode cX6_dayOrNone 13 = .ok (.ireturn, 1) := by decide +kernel
theorem dX6_within_0 : decode cX6_within 0 = .ok (.iload_n 0, 1) := by decide +kernel
theorem dX6_within_1 : decode cX6_within 1 = .ok (.iload_n 1, 1) := by decide +kernel
theorem dX6_within_2 : decode cX6_within 2 = .ok (.if_icmp .lt 12, 3) := by decide +kernel
theorem dX6_within_5 : decode cX6_within 5 = .ok (.iload_n 0, 1) := by decide +kernel
theorem dX6_within_6 : decode cX6_within 6 = .ok (.iload_n 2, 1) := by decide +kernel
theorem dX6_within_7 : decode cX6_within 7 = .ok (.if_icmp .gt 7, 3) := by decide +kernel
theorem dX6_within_10 : decode cX6_within 10 = .ok (.iconst 1, 1) := by decide +kernel
theorem dX6_within_11 : decode cX6_within 11 = .ok (.goto 4, 3) := by decide +kernel
theorem dX6_within_14 : decode cX6_within 14 = .ok (.iconst 0, 1) := by decide +kernel
theorem dX6_within_15 : decode cX6_within 15 = .ok (.ireturn, 1) := by decide +kernel
theorem dX6_isSheet_0 : decode cX6_isSheet 0 = .ok (.iload_n 0, 1) := by decide +kernel
theorem dX6_isSheet_1 : decode cX6_isSheet 1 = .ok (.iconst 0, 1) := by decide +kernel
theorem dX6_isSheet_2 : decode cX6_isSheet 2 = .ok (.iconst 3, 1) := by decide +kernel
theorem dX6_isSheet_3 : decode cX6_isSheet 3 = .ok (.invokestatic 71, 3) := by decide +kernel
theorem dX6_isSheet_6 : decode cX6_isSheet 6 = .ok (.ireturn, 1) := by decide +kernel
theorem dX6_isSooner_0 : decode cX6_isSooner 0 = .ok (.iload_n 0, 1) := by decide +kernel
theorem dX6_isSooner_1 : decode cX6_isSooner 1 = .ok (.ifCond .lt 16, 3) := by decide +kernel
theorem dX6_isSooner_4 : decode cX6_isSooner 4 = .ok (.iload_n 1, 1) := by decide +kernel
theorem dX6_isSooner_5 : decode cX6_isSooner 5 = .ok (.ifCond .lt 8, 3) := by decide +kernel
theorem dX6_isSooner_8 : decode cX6_isSooner 8 = .ok (.iload_n 0, 1) := by decide +kernel
theorem dX6_isSooner_9 : decode cX6_isSooner 9 = .ok (.iload_n 1, 1) := by decide +kernel
theorem dX6_isSooner_10 : decode cX6_isSooner 10 = .ok (.if_icmp .ge 7, 3) := by decide +kernel
theorem dX6_isSooner_13 : decode cX6_isSooner 13 = .ok (.iconst 1, 1) := by decide +kernel
theorem dX6_isSooner_14 : decode cX6_isSooner 14 = .ok (.goto 4, 3) := by decide +kernel
theorem dX6_isSooner_17 : decode cX6_isSooner 17 = .ok (.iconst 0, 1) := by decide +kernel
theorem dX6_isSooner_18 : decode cX6_isSooner 18 = .ok (.ireturn, 1) := by decide +kernel
theorem dX6_isUnder_0 : decode cX6_isUnder 0 = .ok (.iload_n 0, 1) := by decide +kernel
theorem dX6_isUnder_1 : decode cX6_isUnder 1 = .ok (.istore_n 2, 1) := by decide +kernel
theorem dX6_isUnder_2 : decode cX6_isUnder 2 = .ok (.iconst 0, 1) := by decide +kernel
theorem dX6_isUnder_3 : decode cX6_isUnder 3 = .ok (.istore_n 3, 1) := by decide +kernel
theorem dX6_isUnder_4 : decode cX6_isUnder 4 = .ok (.iload_n 3, 1) := by decide +kernel
theorem dX6_isUnder_5 : decode cX6_isUnder 5 = .ok (.bipush 7, 2) := by decide +kernel
theorem dX6_isUnder_7 : decode cX6_isUnder 7 = .ok (.if_icmp .ge 23, 3) := by decide +kernel
theorem dX6_isUnder_10 : decode cX6_isUnder 10 = .ok (.iload_n 2, 1) := by decide +kernel
theorem dX6_isUnder_11 : decode cX6_isUnder 11 = .ok (.iload_n 1, 1) := by decide +kernel
theorem dX6_isUnder_12 : decode cX6_isUnder 12 = .ok (.if_icmp .eq 18, 3) := by decide +kernel
theorem dX6_isUnder_15 : decode cX6_isUnder 15 = .ok (.iload_n 2, 1) := by decide +kernel
theorem dX6_isUnder_16 : decode cX6_isUnder 16 = .ok (.ifCond .lt 14, 3) := by decide +kernel
theorem dX6_isUnder_19 : decode cX6_isUnder 19 = .ok (.iload_n 2, 1) := by decide +kernel
theorem dX6_isUnder_20 : decode cX6_isUnder 20 = .ok (.invokestatic 281, 3) := by decide +kernel
theorem dX6_isUnder_23 : decode cX6_isUnder 23 = .ok (.istore_n 2, 1) := by decide +kernel
theorem dX6_isUnder_24 : decode cX6_isUnder 24 = .ok (.iinc 3 1, 3) := by decide +kernel
theorem dX6_isUnder_27 : decode cX6_isUnder 27 = .ok (.goto (-23), 3) := by decide +kernel
theorem dX6_isUnder_30 : decode cX6_isUnder 30 = .ok (.iload_n 2, 1) := by decide +kernel
theorem dX6_isUnder_31 : decode cX6_isUnder 31 = .ok (.iload_n 1, 1) := by decide +kernel
theorem dX6_isUnder_32 : decode cX6_isUnder 32 = .ok (.if_icmp .ne 7, 3) := by decide +kernel
theorem dX6_isUnder_35 : decode cX6_isUnder 35 = .ok (.iconst 1, 1) := by decide +kernel
theorem dX6_isUnder_36 : decode cX6_isUnder 36 = .ok (.goto 4, 3) := by decide +kernel
theorem dX6_isUnder_39 : decode cX6_isUnder 39 = .ok (.iconst 0, 1) := by decide +kernel
theorem dX6_isUnder_40 : decode cX6_isUnder 40 = .ok (.ireturn, 1) := by decide +kernel
theorem dX6_kindAbove_0 : decode cX6_kindAbove 0 = .ok (.iload_n 0, 1) := by decide +kernel
theorem dX6_kindAbove_1 : decode cX6_kindAbove 1 = .ok (.tableswitch 47 1 6 #[39, 39, 39, 41, 43, 45], 39) := by decide +kernel
theorem dX6_kindAbove_40 : decode cX6_kindAbove 40 = .ok (.iconst 0, 1) := by decide +kernel
theorem dX6_kindAbove_41 : decode cX6_kindAbove 41 = .ok (.ireturn, 1) := by decide +kernel
theorem dX6_kindAbove_42 : decode cX6_kindAbove 42 = .ok (.iconst 1, 1) := by decide +kernel
theorem dX6_kindAbove_43 : decode cX6_kindAbove 43 = .ok (.ireturn, 1) := by decide +kernel
theorem dX6_kindAbove_44 : decode cX6_kindAbove 44 = .ok (.iconst 4, 1) := by decide +kernel
theorem dX6_kindAbove_45 : decode cX6_kindAbove 45 = .ok (.ireturn, 1) := by decide +kernel
theorem dX6_kindAbove_46 : decode cX6_kindAbove 46 = .ok (.iconst 3, 1) := by decide +kernel
theorem dX6_kindAbove_47 : decode cX6_kindAbove 47 = .ok (.ireturn, 1) := by decide +kernel
theorem dX6_kindAbove_48 : decode cX6_kindAbove 48 = .ok (.iconst (-1), 1) := by decide +kernel
theorem dX6_kindAbove_49 : decode cX6_kindAbove 49 = .ok (.ireturn, 1) := by decide +kernel
end
section
theorem dX7_init_0 : decode cX7_init 0 = .ok (.aload_n 0, 1) := by decide +kernel
theorem dX7_init_1 : decode cX7_init 1 = .ok (.invokespecial 3, 3) := by decide +kernel
theorem dX7_init_4 : decode cX7_init 4 = .ok (.aload_n 0, 1) := by decide +kernel
theorem dX7_init_5 : decode cX7_init 5 = .ok (.sipush 247, 3) := by decide +kernel
theorem dX7_init_8 : decode cX7_init 8 = .ok (.newarray .int, 2) := by decide +kernel
theorem dX7_init_10 : decode cX7_init 10 = .ok (.putfield 9, 3) := by decide +kernel
theorem dX7_init_13 : decode cX7_init 13 = .ok (.aload_n 0, 1) := by decide +kernel
theorem dX7_init_14 : decode cX7_init 14 = .ok (.sipush 247, 3) := by decide +kernel
theorem dX7_init_17 : decode cX7_init 17 = .ok (.newarray .int, 2) := by decide +kernel
theorem dX7_init_19 : decode cX7_init 19 = .ok (.putfield 13, 3) := by decide +kernel
theorem dX7_init_22 : decode cX7_init 22 = .ok (.aload_n 0, 1) := by decide +kernel
theorem dX7_init_23 : decode cX7_init 23 = .ok (.bipush 7, 2) := by decide +kernel
theorem dX7_init_25 : decode cX7_init 25 = .ok (.newarray .int, 2) := by decide +kernel
theorem dX7_init_27 : decode cX7_init 27 = .ok (.putfield 16, 3) := by decide +kernel
theorem dX7_init_30 : decode cX7_init 30 = .ok (.aload_n 0, 1) := by decide +kernel
theorem dX7_init_31 : decode cX7_init 31 = .ok (.bipush 120, 2) := by decide +kernel
theorem dX7_init_33 : decode cX7_init 33 = .ok (.newarray .int, 2) := by decide +kernel
theorem dX7_init_35 : decode cX7_init 35 = .ok (.putfield 19, 3) := by decide +kernel
theorem dX7_init_38 : decode cX7_init 38 = .ok (.aload_n 0, 1) := by decide +kernel
theorem dX7_init_39 : decode cX7_init 39 = .ok (.sipush 247, 3) := by decide +kernel
theorem dX7_init_42 : decode cX7_init 42 = .ok (.newarray .int, 2) := by decide +kernel
theorem dX7_init_44 : decode cX7_init 44 = .ok (.putfield 22, 3) := by decide +kernel
theorem dX7_init_47 : decode cX7_init 47 = .ok (.aload_n 0, 1) := by decide +kernel
theorem dX7_init_48 : decode cX7_init 48 = .ok (.bipush 8, 2) := by decide +kernel
theorem dX7_init_50 : decode cX7_init 50 = .ok (.newarray .int, 2) := by decide +kernel
theorem dX7_init_52 : decode cX7_init 52 = .ok (.putfield 25, 3) := by decide +kernel
theorem dX7_init_55 : decode cX7_init 55 = .ok (.aload_n 0, 1) := by decide +kernel
theorem dX7_init_56 : decode cX7_init 56 = .ok (.sipush 3200, 3) := by decide +kernel
theorem dX7_init_59 : decode cX7_init 59 = .ok (.newarray .int, 2) := by decide +kernel
theorem dX7_init_61 : decode cX7_init 61 = .ok (.putfield 28, 3) := by decide +kernel
theorem dX7_init_64 : decode cX7_init 64 = .ok (.aload_n 0, 1) := by decide +kernel
theorem dX7_init_65 : decode cX7_init 65 = .ok (.iconst 4, 1) := by decide +kernel
theorem dX7_init_66 : decode cX7_init 66 = .ok (.newarray .int, 2) := by decide +kernel
theorem dX7_init_68 : decode cX7_init 68 = .ok (.putfield 31, 3) := by decide +kernel
theorem dX7_init_71 : decode cX7_init 71 = .ok (.aload_n 0, 1) := by decide +kernel
theorem dX7_init_72 : decode cX7_init 72 = .ok (.iconst 4, 1) := by decide +kernel
theorem dX7_init_73 : decode cX7_init 73 = .ok (.newarray .int, 2) := by decide +kernel
theorem dX7_init_75 : decode cX7_init 75 = .ok (.putfield 34, 3) := by decide +kernel
theorem dX7_init_78 : decode cX7_init 78 = .ok (.aload_n 0, 1) := by decide +kernel
theorem dX7_init_79 : decode cX7_init 79 = .ok (.sipush 160, 3) := by decide +kernel
theorem dX7_init_82 : decode cX7_init 82 = .ok (.newarray .int, 2) := by decide +kernel
theorem dX7_init_84 : decode cX7_init 84 = .ok (.putfield 37, 3) := by decide +kernel
theorem dX7_init_87 : decode cX7_init 87 = .ok (.aload_n 0, 1) := by decide +kernel
theorem dX7_init_88 : decode cX7_init 88 = .ok (.getfield 9, 3) := by decide +kernel
theorem dX7_init_91 : decode cX7_init 91 = .ok (.iconst 0, 1) := by decide +kernel
theorem dX7_init_92 : decode cX7_init 92 = .ok (.bipush 7, 2) := by decide +kernel
theorem dX7_init_94 : decode cX7_init 94 = .ok (.iastore, 1) := by decide +kernel
theorem dX7_init_95 : decode cX7_init 95 = .ok (.aload_n 0, 1) := by decide +kernel
theorem dX7_init_96 : decode cX7_init 96 = .ok (.getfield 9, 3) := by decide +kernel
theorem dX7_init_99 : decode cX7_init 99 = .ok (.iconst 1, 1) := by decide +kernel
theorem dX7_init_100 : decode cX7_init 100 = .ok (.iconst (-1), 1) := by decide +kernel
theorem dX7_init_101 : decode cX7_init 101 = .ok (.iastore, 1) := by decide +kernel
theorem dX7_init_102 : decode cX7_init 102 = .ok (.aload_n 0, 1) := by decide +kernel
theorem dX7_init_103 : decode cX7_init 103 = .ok (.getfield 9, 3) := by decide +kernel
theorem dX7_init_106 : decode cX7_init 106 = .ok (.iconst 5, 1) := by decide +kernel
theorem dX7_init_107 : decode cX7_init 107 = .ok (.iconst 1, 1) := by decide +kernel
theorem dX7_init_108 : decode cX7_init 108 = .ok (.iastore, 1) := by decide +kernel
theorem dX7_init_109 : decode cX7_init 109 = .ok (.iconst 0, 1) := by decide +kernel
theorem dX7_init_110 : decode cX7_init 110 = .ok (.istore_n 1, 1) := by decide +kernel
theorem dX7_init_111 : decode cX7_init 111 = .ok (.iload_n 1, 1) := by decide +kernel
theorem dX7_init_112 : decode cX7_init 112 = .ok (.bipush 10, 2) := by decide +kernel
theorem dX7_init_114 : decode cX7_init 114 = .ok (.if_icmp .ge 20, 3) := by decide +kernel
theorem dX7_init_117 : decode cX7_init 117 = .ok (.aload_n 0, 1) := by decide +kernel
theorem dX7_init_118 : decode cX7_init 118 = .ok (.getfield 9, 3) := by decide +kernel
theorem dX7_init_121 : decode cX7_init 121 = .ok (.sipush 237, 3) := by decide +kernel
theorem dX7_init_124 : decode cX7_init 124 = .ok (.iload_n 1, 1) := by decide +kernel
theorem dX7_init_125 : decode cX7_init 125 = .ok (.iadd, 1) := by decide +kernel
theorem dX7_init_126 : decode cX7_init 126 = .ok (.iconst (-1), 1) := by decide +kernel
theorem dX7_init_127 : decode cX7_init 127 = .ok (.iastore, 1) := by decide +kernel
theorem dX7_init_128 : decode cX7_init 128 = .ok (.iinc 1 1, 3) := by decide +kernel
theorem dX7_init_131 : decode cX7_init 131 = .ok (.goto (-20), 3) := by decide +kernel
theorem dX7_init_134 : decode cX7_init 134 = .ok (.return_, 1) := by decide +kernel
theorem dX7_finds_0 : decode cX7_finds 0 = .ok (.aload_n 0, 1) := by decide +kernel
theorem dX7_finds_1 : decode cX7_finds 1 = .ok (.getfield 16, 3) := by decide +kernel
theorem dX7_finds_4 : decode cX7_finds 4 = .ok (.ldc 40, 2) := by decide +kernel
theorem dX7_finds_6 : decode cX7_finds 6 = .ok (.iload_n 1, 1) := by decide +kernel
theorem dX7_finds_7 : decode cX7_finds 7 = .ok (.isub, 1) := by decide +kernel
theorem dX7_finds_8 : decode cX7_finds 8 = .ok (.dup2, 1) := by decide +kernel
theorem dX7_finds_9 : decode cX7_finds 9 = .ok (.iaload, 1) := by decide +kernel
theorem dX7_finds_10 : decode cX7_finds 10 = .ok (.iconst 1, 1) := by decide +kernel
theorem dX7_finds_11 : decode cX7_finds 11 = .ok (.iadd, 1) := by decide +kernel
theorem dX7_finds_12 : decode cX7_finds 12 = .ok (.iastore, 1) := by decide +kernel
theorem dX7_finds_13 : decode cX7_finds 13 = .ok (.iload_n 1, 1) := by decide +kernel
theorem dX7_finds_14 : decode cX7_finds 14 = .ok (.ireturn, 1) := by decide +kernel
theorem dX7_orNone_0 : decode cX7_orNone 0 = .ok (.iload_n 1, 1) := by decide +kernel
theorem dX7_orNone_1 : decode cX7_orNone 1 = .ok (.ifCond .ge 12, 3) := by decide +kernel
theorem dX7_orNone_4 : decode cX7_orNone 4 = .ok (.aload_n 0, 1) := by decide +kernel
theorem dX7_orNone_5 : decode cX7_orNone 5 = .ok (.ldc 41, 2) := by decide +kernel
theorem dX7_orNone_7 : decode cX7_orNone 7 = .ok (.invokevirtual 42, 3) := by decide +kernel
theorem dX7_orNone_10 : decode cX7_orNone 10 = .ok (.goto 4, 3) := by decide +kernel
theorem dX7_orNone_13 : decode cX7_orNone 13 = .ok (.iload_n 1, 1) := by decide +kernel
theorem dX7_orNone_14 : decode cX7_orNone 14 = .ok (.ireturn, 1) := by decide +kernel
theorem dX7_in_0 : decode cX7_in 0 = .ok (.lload_n 0, 1) := by decide +kernel
theorem dX7_in_1 : decode cX7_in 1 = .ok (.lload_n 2, 1) := by decide +kernel
theorem dX7_in_2 : decode cX7_in 2 = .ok (.lcmp, 1) := by decide +kernel
theorem dX7_in_3 : decode cX7_in 3 = .ok (.ifCond .lt 14, 3) := by decide +kernel
theorem dX7_in_6 : decode cX7_in 6 = .ok (.lload_n 0, 1) := by decide +kernel
theorem dX7_in_7 : decode cX7_in 7 = .ok (.lload 4, 2) := by decide +kernel
theorem dX7_in_9 : decode cX7_in 9 = .ok (.lcmp, 1) := by decide +kernel
theorem dX7_in_10 : decode cX7_in 10 = .ok (.ifCond .gt 7, 3) := by decide +kernel
theorem dX7_in_13 : decode cX7_in 13 = .ok (.iconst 1, 1) := by decide +kernel
theorem dX7_in_14 : decode cX7_in 14 = .ok (.goto 4, 3) := by decide +kernel
theorem dX7_in_17 : decode cX7_in 17 = .ok (.iconst 0, 1) := by decide +kernel
theorem dX7_in_18 : decode cX7_in 18 = .ok (.ireturn, 1) := by decide +kernel
theorem dX7_has_0 : decode cX7_has 0 = .ok (.iload_n 0, 1) := by decide +kernel
theorem dX7_has_1 : decode cX7_has 1 = .ok (.iload_n 1, 1) := by decide +kernel
theorem dX7_has_2 : decode cX7_has 2 = .ok (.ishr, 1) := by decide +kernel
theorem dX7_has_3 : decode cX7_has 3 = .ok (.iconst 1, 1) := by decide +kernel
theorem dX7_has_4 : decode cX7_has 4 = .ok (.iand, 1) := by decide +kernel
theorem dX7_has_5 : decode cX7_has 5 = .ok (.iconst 1, 1) := by decide +kernel
theorem dX7_has_6 : decode cX7_has 6 = .ok (.if_icmp .ne 7, 3) := by decide +kernel
theorem dX7_has_9 : decode cX7_has 9 = .ok (.iconst 1, 1) := by decide +kernel
theorem dX7_has_10 : decode cX7_has 10 = .ok (.goto 4, 3) := by decide +kernel
theorem dX7_has_13 : decode cX7_has 13 = .ok (.iconst 0, 1) := by decide +kernel
theorem dX7_has_14 : decode cX7_has 14 = .ok (.ireturn, 1) := by decide +kernel
theorem dX7_isTool_0 : decode cX7_isTool 0 = .ok (.iload_n 1, 1) := by decide +kernel
theorem dX7_isTool_1 : decode cX7_isTool 1 = .ok (.i2l, 1) := by decide +kernel
theorem dX7_isTool_2 : decode cX7_isTool 2 = .ok (.lconst 0, 1) := by decide +kernel
theorem dX7_isTool_3 : decode cX7_isTool 3 = .ok (.aload_n 0, 1) := by decide +kernel
theorem dX7_isTool_4 : decode cX7_isTool 4 = .ok (.getfield 9, 3) := by decide +kernel
theorem dX7_isTool_7 : decode cX7_isTool 7 = .ok (.iconst 2, 1) := by decide +kernel
theorem dX7_isTool_8 : decode cX7_isTool 8 = .ok (.iaload, 1) := by decide +kernel
theorem dX7_isTool_9 : decode cX7_isTool 9 = .ok (.iconst 1, 1) := by decide +kernel
theorem dX7_isTool_10 : decode cX7_isTool 10 = .ok (.isub, 1) := by decide +kernel
theorem dX7_isTool_11 : decode cX7_isTool 11 = .ok (.i2l, 1) := by decide +kernel
theorem dX7_isTool_12 : decode cX7_isTool 12 = .ok (.invokestatic 46, 3) := by decide +kernel
theorem dX7_isTool_15 : decode cX7_isTool 15 = .ok (.ireturn, 1) := by decide +kernel
theorem dX7_isThing_0 : decode cX7_isThing 0 = .ok (.iload_n 1, 1) := by decide +kernel
theorem dX7_isThing_1 : decode cX7_isThing 1 = .ok (.i2l, 1) := by decide +kernel
theorem dX7_isThing_2 : decode cX7_isThing 2 = .ok (.lconst 0, 1) := by decide +kernel
theorem dX7_isThing_3 : decode cX7_isThing 3 = .ok (.aload_n 0, 1) := by decide +kernel
theorem dX7_isThing_4 : decode cX7_isThing 4 = .ok (.getfield 9, 3) := by decide +kernel
theorem dX7_isThing_7 : decode cX7_isThing 7 = .ok (.iconst 3, 1) := by decide +kernel
theorem dX7_isThing_8 : decode cX7_isThing 8 = .ok (.iaload, 1) := by decide +kernel
theorem dX7_isThing_9 : decode cX7_isThing 9 = .ok (.iconst 1, 1) := by decide +kernel
theorem dX7_isThing_10 : decode cX7_isThing 10 = .ok (.isub, 1) := by decide +kernel
theorem dX7_isThing_11 : decode cX7_isThing 11 = .ok (.i2l, 1) := by decide +kernel
theorem dX7_isThing_12 : decode cX7_isThing 12 = .ok (.invokestatic 46, 3) := by decide +kernel
theorem dX7_isThing_15 : decode cX7_isThing 15 = .ok (.ireturn, 1) := by decide +kernel
theorem dX7_isDay_0 : decode cX7_isDay 0 = .ok (.iload_n 0, 1) := by decide +kernel
theorem dX7_isDay_1 : decode cX7_isDay 1 = .ok (.i2l, 1) := by decide +kernel
theorem dX7_isDay_2 : decode cX7_isDay 2 = .ok (.lconst 0, 1) := by decide +kernel
theorem dX7_isDay_3 : decode cX7_isDay 3 = .ok (.ldc2_w 50, 3) := by decide +kernel
theorem dX7_isDay_6 : decode cX7_isDay 6 = .ok (.invokestatic 46, 3) := by decide +kernel
theorem dX7_isDay_9 : decode cX7_isDay 9 = .ok (.ireturn, 1) := by decide +kernel
theorem dX7_isKind_0 : decode cX7_isKind 0 = .ok (.iload_n 0, 1) := by decide +kernel
theorem dX7_isKind_1 : decode cX7_isKind 1 = .ok (.i2l, 1) := by decide +kernel
theorem dX7_isKind_2 : decode cX7_isKind 2 = .ok (.lconst 0, 1) := by decide +kernel
theorem dX7_isKind_3 : decode cX7_isKind 3 = .ok (.ldc2_w 52, 3) := by decide +kernel
theorem dX7_isKind_6 : decode cX7_isKind 6 = .ok (.invokestatic 46, 3) := by decide +kernel
theorem dX7_isKind_9 : decode cX7_isKind 9 = .ok (.ireturn, 1) := by decide +kernel
theorem dX7_becomes_0 : decode cX7_becomes 0 = .ok (.aload_n 0, 1) := by decide +kernel
theorem dX7_becomes_1 : decode cX7_becomes 1 = .ok (.getfield 9, 3) := by decide +kernel
theorem dX7_becomes_4 : decode cX7_becomes 4 = .ok (.iload_n 1, 1) := by decide +kernel
theorem dX7_becomes_5 : decode cX7_becomes 5 = .ok (.iaload, 1) := by decide +kernel
theorem dX7_becomes_6 : decode cX7_becomes 6 = .ok (.istore_n 3, 1) := by decide +kernel
theorem dX7_becomes_7 : decode cX7_becomes 7 = .ok (.aload_n 0, 1) := by decide +kernel
theorem dX7_becomes_8 : decode cX7_becomes 8 = .ok (.getfield 9, 3) := by decide +kernel
theorem dX7_becomes_11 : decode cX7_becomes 11 = .ok (.iload_n 1, 1) := by decide +kernel
theorem dX7_becomes_12 : decode cX7_becomes 12 = .ok (.iload_n 2, 1) := by decide +kernel
theorem dX7_becomes_13 : decode cX7_becomes 13 = .ok (.iastore, 1) := by decide +kernel
theorem dX7_becomes_14 : decode cX7_becomes 14 = .ok (.iload_n 3, 1) := by decide +kernel
theorem dX7_becomes_15 : decode cX7_becomes 15 = .ok (.ireturn, 1) := by decide +kernel
theorem dX7_kindOf_0 : decode cX7_kindOf 0 = .ok (.aload_n 0, 1) := by decide +kernel
theorem dX7_kindOf_1 : decode cX7_kindOf 1 = .ok (.getfield 9, 3) := by decide +kernel
theorem dX7_kindOf_4 : decode cX7_kindOf 4 = .ok (.bipush 14, 2) := by decide +kernel
theorem dX7_kindOf_6 : decode cX7_kindOf 6 = .ok (.bipush 26, 2) := by decide +kernel
theorem dX7_kindOf_8 : decode cX7_kindOf 8 = .ok (.iload_n 1, 1) := by decide +kernel
theorem dX7_kindOf_9 : decode cX7_kindOf 9 = .ok (.imul, 1) := by decide +kernel
theorem dX7_kindOf_10 : decode cX7_kindOf 10 = .ok (.iadd, 1) := by decide +kernel
theorem dX7_kindOf_11 : decode cX7_kindOf 11 = .ok (.iaload, 1) := by decide +kernel
theorem dX7_kindOf_12 : decode cX7_kindOf 12 = .ok (.ireturn, 1) := by decide +kernel
theorem dX7_steps_0 : decode cX7_steps 0 = .ok (.aload_n 0, 1) := by decide +kernel
theorem dX7_steps_1 : decode cX7_steps 1 = .ok (.getfield 9, 3) := by decide +kernel
theorem dX7_steps_4 : decode cX7_steps 4 = .ok (.bipush 14, 2) := by decide +kernel
theorem dX7_steps_6 : decode cX7_steps 6 = .ok (.bipush 26, 2) := by decide +kernel
theorem dX7_steps_8 : decode cX7_steps 8 = .ok (.iload_n 1, 1) := by decide +kernel
theorem dX7_steps_9 : decode cX7_steps 9 = .ok (.imul, 1) := by decide +kernel
theorem dX7_steps_10 : decode cX7_steps 10 = .ok (.iadd, 1) := by decide +kernel
theorem dX7_steps_11 : decode cX7_steps 11 = .ok (.iconst 1, 1) := by decide +kernel
theorem dX7_steps_12 : decode cX7_steps 12 = .ok (.iadd, 1) := by decide +kernel
theorem dX7_steps_13 : decode cX7_steps 13 = .ok (.iaload, 1) := by decide +kernel
theorem dX7_steps_14 : decode cX7_steps 14 = .ok (.ireturn, 1) := by decide +kernel
theorem dX7_at_0 : decode cX7_at 0 = .ok (.bipush 14, 2) := by decide +kernel
theorem dX7_at_2 : decode cX7_at 2 = .ok (.bipush 26, 2) := by decide +kernel
theorem dX7_at_4 : decode cX7_at 4 = .ok (.iload_n 0, 1) := by decide +kernel
theorem dX7_at_5 : decode cX7_at 5 = .ok (.imul, 1) := by decide +kernel
theorem dX7_at_6 : decode cX7_at 6 = .ok (.iadd, 1) := by decide +kernel
theorem dX7_at_7 : decode cX7_at 7 = .ok (.iconst 2, 1) := by decide +kernel
theorem dX7_at_8 : decode cX7_at 8 = .ok (.iadd, 1) := by decide +kernel
theorem dX7_at_9 : decode cX7_at 9 = .ok (.iconst 3, 1) := by decide +kernel
theorem dX7_at_10 : decode cX7_at 10 = .ok (.iload_n 1, 1) := by decide +kernel
theorem dX7_at_11 : decode cX7_at 11 = .ok (.imul, 1) := by decide +kernel
theorem dX7_at_12 : decode cX7_at 12 = .ok (.iadd, 1) := by decide +kernel
theorem dX7_at_13 : decode cX7_at 13 = .ok (.iload_n 2, 1) := by decide +kernel
theorem dX7_at_14 : decode cX7_at 14 = .ok (.iadd, 1) := by decide +kernel
theorem dX7_at_15 : decode cX7_at 15 = .ok (.ireturn, 1) := by decide +kernel
theorem dX7_of_0 : decode cX7_of 0 = .ok (.aload_n 0, 1) := by decide +kernel
theorem dX7_of_1 : decode cX7_of 1 = .ok (.getfield 9, 3) := by decide +kernel
theorem dX7_of_4 : decode cX7_of 4 = .ok (.iload_n 1, 1) := by decide +kernel
theorem dX7_of_5 : decode cX7_of 5 = .ok (.iload_n 2, 1) := by decide +kernel
theorem dX7_of_6 : decode cX7_of 6 = .ok (.iload_n 3, 1) := by decide +kernel
theorem dX7_of_7 : decode cX7_of 7 = .ok (.invokestatic 54, 3) := by decide +kernel
theorem dX7_of_10 : decode cX7_of 10 = .ok (.iaload, 1) := by decide +kernel
theorem dX7_of_11 : decode cX7_of 11 = .ok (.ireturn, 1) := by decide +kernel
theorem dX7_isStep_0 : decode cX7_isStep 0 = .ok (.aload_n 0, 1) := by decide +kernel
theorem dX7_isStep_1 : decode cX7_isStep 1 = .ok (.iload_n 1, 1) := by decide +kernel
theorem dX7_isStep_2 : decode cX7_isStep 2 = .ok (.invokevirtual 58, 3) := by decide +kernel
theorem dX7_isStep_5 : decode cX7_isStep 5 = .ok (.ifCond .eq 24, 3) := by decide +kernel
theorem dX7_isStep_8 : decode cX7_isStep 8 = .ok (.iload_n 2, 1) := by decide +kernel
theorem dX7_isStep_9 : decode cX7_isStep 9 = .ok (.i2l, 1) := by decide +kernel
theorem dX7_isStep_10 : decode cX7_isStep 10 = .ok (.lconst 0, 1) := by decide +kernel
theorem dX7_isStep_11 : decode cX7_isStep 11 = .ok (.aload_n 0, 1) := by decide +kernel
theorem dX7_isStep_12 : decode cX7_isStep 12 = .ok (.iload_n 1, 1) := by decide +kernel
theorem dX7_isStep_13 : decode cX7_isStep 13 = .ok (.invokevirtual 62, 3) := by decide +kernel
theorem dX7_isStep_16 : decode cX7_isStep 16 = .ok (.iconst 1, 1) := by decide +kernel
theorem dX7_isStep_17 : decode cX7_isStep 17 = .ok (.isub, 1) := by decide +kernel
theorem dX7_isStep_18 : decode cX7_isStep 18 = .ok (.i2l, 1) := by decide +kernel
theorem dX7_isStep_19 : decode cX7_isStep 19 = .ok (.invokestatic 46, 3) := by decide +kernel
theorem dX7_isStep_22 : decode cX7_isStep 22 = .ok (.ifCond .eq 7, 3) := by decide +kernel
theorem dX7_isStep_25 : decode cX7_isStep 25 = .ok (.iconst 1, 1) := by decide +kernel
theorem dX7_isStep_26 : decode cX7_isStep 26 = .ok (.goto 4, 3) := by decide +kernel
theorem dX7_isStep_29 : decode cX7_isStep 29 = .ok (.iconst 0, 1) := by decide +kernel
theorem dX7_isStep_30 : decode cX7_isStep 30 = .ok (.ireturn, 1) := by decide +kernel
theorem dX7_feed_0 : decode cX7_feed 0 = .ok (.iload_n 2, 1) := by decide +kernel
theorem dX7_feed_1 : decode cX7_feed 1 = .ok (.i2l, 1) := by decide +kernel
theorem dX7_feed_2 : decode cX7_feed 2 = .ok (.lconst 1, 1) := by decide +kernel
theorem dX7_feed_3 : decode cX7_feed 3 = .ok (.ldc2_w 65, 3) := by decide +kernel
theorem dX7_feed_6 : decode cX7_feed 6 = .ok (.invokestatic 46, 3) := by decide +kernel
theorem dX7_feed_9 : decode cX7_feed 9 = .ok (.ifCond .ne 10, 3) := by decide +kernel
theorem dX7_feed_12 : decode cX7_feed 12 = .ok (.aload_n 0, 1) := by decide +kernel
theorem dX7_feed_13 : decode cX7_feed 13 = .ok (.ldc 40, 2) := by decide +kernel
theorem dX7_feed_15 : decode cX7_feed 15 = .ok (.invokevirtual 42, 3) := by decide +kernel
theorem dX7_feed_18 : decode cX7_feed 18 = .ok (.ireturn, 1) := by decide +kernel
theorem dX7_feed_19 : decode cX7_feed 19 = .ok (.aload_n 0, 1) := by decide +kernel
theorem dX7_feed_20 : decode cX7_feed 20 = .ok (.getfield 67, 3) := by decide +kernel
theorem dX7_feed_23 : decode cX7_feed 23 = .ok (.iload_n 2, 1) := by decide +kernel
theorem dX7_feed_24 : decode cX7_feed 24 = .ok (.iadd, 1) := by decide +kernel
theorem dX7_feed_25 : decode cX7_feed 25 = .ok (.bipush 120, 2) := by decide +kernel
theorem dX7_feed_27 : decode cX7_feed 27 = .ok (.if_icmp .le 10, 3) := by decide +kernel
theorem dX7_feed_30 : decode cX7_feed 30 = .ok (.aload_n 0, 1) := by decide +kernel
theorem dX7_feed_31 : decode cX7_feed 31 = .ok (.ldc 71, 2) := by decide +kernel
theorem dX7_feed_33 : decode cX7_feed 33 = .ok (.invokevirtual 42, 3) := by decide +kernel
theorem dX7_feed_36 : decode cX7_feed 36 = .ok (.ireturn, 1) := by decide +kernel
theorem dX7_feed_37 : decode cX7_feed 37 = .ok (.iload_n 2, 1) := by decide +kernel
theorem dX7_feed_38 : decode cX7_feed 38 = .ok (.iconst 1, 1) := by decide +kernel
theorem dX7_feed_39 : decode cX7_feed 39 = .ok (.isub, 1) := by decide +kernel
theorem dX7_feed_40 : decode cX7_feed 40 = .ok (.istore_n 3, 1) := by decide +kernel
theorem dX7_feed_41 : decode cX7_feed 41 = .ok (.iload_n 3, 1) := by decide +kernel
theorem dX7_feed_42 : decode cX7_feed 42 = .ok (.ifCond .lt 38, 3) := by decide +kernel
theorem dX7_feed_45 : decode cX7_feed 45 = .ok (.aload_n 0, 1) := by decide +kernel
theorem dX7_feed_46 : decode cX7_feed 46 = .ok (.getfield 19, 3) := by decide +kernel
theorem dX7_feed_49 : decode cX7_feed 49 = .ok (.aload_n 0, 1) := by decide +kernel
theorem dX7_feed_50 : decode cX7_feed 50 = .ok (.getfield 67, 3) := by decide +kernel
theorem dX7_feed_53 : decode cX7_feed 53 = .ok (.iload_n 1, 1) := by decide +kernel
theorem dX7_feed_54 : decode cX7_feed 54 = .ok (.bipush 8, 2) := by decide +kernel
theorem dX7_feed_56 : decode cX7_feed 56 = .ok (.iload_n 3, 1) := by decide +kernel
theorem dX7_feed_57 : decode cX7_feed 57 = .ok (.imul, 1) := by decide +kernel
theorem dX7_feed_58 : decode cX7_feed 58 = .ok (.ishr, 1) := by decide +kernel
theorem dX7_feed_59 : decode cX7_feed 59 = .ok (.sipush 255, 3) := by decide +kernel
theorem dX7_feed_62 : decode cX7_feed 62 = .ok (.iand, 1) := by decide +kernel
theorem dX7_feed_63 : decode cX7_feed 63 = .ok (.iastore, 1) := by decide +kernel
theorem dX7_feed_64 : decode cX7_feed 64 = .ok (.aload_n 0, 1) := by decide +kernel
theorem dX7_feed_65 : decode cX7_feed 65 = .ok (.dup, 1) := by decide +kernel
theorem dX7_feed_66 : decode cX7_feed 66 = .ok (.getfield 67, 3) := by decide +kernel
theorem dX7_feed_69 : decode cX7_feed 69 = .ok (.iconst 1, 1) := by decide +kernel
theorem dX7_feed_70 : decode cX7_feed 70 = .ok (.iadd, 1) := by decide +kernel
theorem dX7_feed_71 : decode cX7_feed 71 = .ok (.putfield 67, 3) := by decide +kernel
theorem dX7_feed_74 : decode cX7_feed 74 = .ok (.iinc 3 (-1), 3) := by decide +kernel
theorem dX7_feed_77 : decode cX7_feed 77 = .ok (.goto (-36), 3) := by decide +kernel
theorem dX7_feed_80 : decode cX7_feed 80 = .ok (.aload_n 0, 1) := by decide +kernel
theorem dX7_feed_81 : decode cX7_feed 81 = .ok (.getfield 67, 3) := by decide +kernel
theorem dX7_feed_84 : decode cX7_feed 84 = .ok (.ireturn, 1) := by decide +kernel
theorem dX7_wipe_0 : decode cX7_wipe 0 = .ok (.aload_n 0, 1) := by decide +kernel
theorem dX7_wipe_1 : decode cX7_wipe 1 = .ok (.getfield 67, 3) := by decide +kernel
theorem dX7_wipe_4 : decode cX7_wipe 4 = .ok (.istore_n 1, 1) := by decide +kernel
theorem dX7_wipe_5 : decode cX7_wipe 5 = .ok (.aload_n 0, 1) := by decide +kernel
theorem dX7_wipe_6 : decode cX7_wipe 6 = .ok (.iconst 0, 1) := by decide +kernel
theorem dX7_wipe_7 : decode cX7_wipe 7 = .ok (.putfield 67, 3) := by decide +kernel
theorem dX7_wipe_10 : decode cX7_wipe 10 = .ok (.iload_n 1, 1) := by decide +kernel
theorem dX7_wipe_11 : decode cX7_wipe 11 = .ok (.ireturn, 1) := by decide +kernel
theorem dX7_isByte_0 : decode cX7_isByte 0 = .ok (.iload_n 1, 1) := by decide +kernel
theorem dX7_isByte_1 : decode cX7_isByte 1 = .ok (.aload_n 0, 1) := by decide +kernel
theorem dX7_isByte_2 : decode cX7_isByte 2 = .ok (.getfield 67, 3) := by decide +kernel
theorem dX7_isByte_5 : decode cX7_isByte 5 = .ok (.if_icmp .ge 24, 3) := by decide +kernel
theorem dX7_isByte_8 : decode cX7_isByte 8 = .ok (.aload_n 0, 1) := by decide +kernel
theorem dX7_isByte_9 : decode cX7_isByte 9 = .ok (.getfield 19, 3) := by decide +kernel
theorem dX7_isByte_12 : decode cX7_isByte 12 = .ok (.iload_n 1, 1) := by decide +kernel
theorem dX7_isByte_13 : decode cX7_isByte 13 = .ok (.iaload, 1) := by decide +kernel
theorem dX7_isByte_14 : decode cX7_isByte 14 = .ok (.i2l, 1) := by decide +kernel
theorem dX7_isByte_15 : decode cX7_isByte 15 = .ok (.iload_n 2, 1) := by decide +kernel
theorem dX7_isByte_16 : decode cX7_isByte 16 = .ok (.i2l, 1) := by decide +kernel
theorem dX7_isByte_17 : decode cX7_isByte 17 = .ok (.iload_n 3, 1) := by decide +kernel
theorem dX7_isByte_18 : decode cX7_isByte 18 = .ok (.i2l, 1) := by decide +kernel
theorem dX7_isByte_19 : decode cX7_isByte 19 = .ok (.invokestatic 46, 3) := by decide +kernel
theorem dX7_isByte_22 : decode cX7_isByte 22 = .ok (.ifCond .eq 7, 3) := by decide +kernel
theorem dX7_isByte_25 : decode cX7_isByte 25 = .ok (.iconst 1, 1) := by decide +kernel
theorem dX7_isByte_26 : decode cX7_isByte 26 = .ok (.goto 4, 3) := by decide +kernel
theorem dX7_isByte_29 : decode cX7_isByte 29 = .ok (.iconst 0, 1) := by decide +kernel
theorem dX7_isByte_30 : decode cX7_isByte 30 = .ok (.ireturn, 1) := by decide +kernel
theorem dX7_token_0 : decode cX7_token 0 = .ok (.aload_n 0, 1) := by decide +kernel
theorem dX7_token_1 : decode cX7_token 1 = .ok (.aload_n 0, 1) := by decide +kernel
theorem dX7_token_2 : decode cX7_token 2 = .ok (.getfield 72, 3) := by decide +kernel
theorem dX7_token_5 : decode cX7_token 5 = .ok (.putfield 75, 3) := by decide +kernel
theorem dX7_token_8 : decode cX7_token 8 = .ok (.aload_n 0, 1) := by decide +kernel
theorem dX7_token_9 : decode cX7_token 9 = .ok (.aload_n 0, 1) := by decide +kernel
theorem dX7_token_10 : decode cX7_token 10 = .ok (.getfield 75, 3) := by decide +kernel
theorem dX7_token_13 : decode cX7_token 13 = .ok (.bipush 32, 2) := by decide +kernel
theorem dX7_token_15 : decode cX7_token 15 = .ok (.bipush 32, 2) := by decide +kernel
theorem dX7_token_17 : decode cX7_token 17 = .ok (.invokevirtual 78, 3) := by decide +kernel
theorem dX7_token_20 : decode cX7_token 20 = .ok (.ifCond .eq 16, 3) := by decide +kernel
theorem dX7_token_23 : decode cX7_token 23 = .ok (.aload_n 0, 1) := by decide +kernel
theorem dX7_token_24 : decode cX7_token 24 = .ok (.dup, 1) := by decide +kernel
theorem dX7_token_25 : decode cX7_token 25 = .ok (.getfield 75, 3) := by decide +kernel
theorem dX7_token_28 : decode cX7_token 28 = .ok (.iconst 1, 1) := by decide +kernel
theorem dX7_token_29 : decode cX7_token 29 = .ok (.iadd, 1) := by decide +kernel
theorem dX7_token_30 : decode cX7_token 30 = .ok (.putfield 75, 3) := by decide +kernel
theorem dX7_token_33 : decode cX7_token 33 = .ok (.goto (-25), 3) := by decide +kernel
theorem dX7_token_36 : decode cX7_token 36 = .ok (.aload_n 0, 1) := by decide +kernel
theorem dX7_token_37 : decode cX7_token 37 = .ok (.aload_n 0, 1) := by decide +kernel
theorem dX7_token_38 : decode cX7_token 38 = .ok (.getfield 75, 3) := by decide +kernel
theorem dX7_token_41 : decode cX7_token 41 = .ok (.putfield 72, 3) := by decide +kernel
theorem dX7_token_44 : decode cX7_token 44 = .ok (.aload_n 0, 1) := by decide +kernel
theorem dX7_token_45 : decode cX7_token 45 = .ok (.iconst 0, 1) := by decide +kernel
theorem dX7_token_46 : decode cX7_token 46 = .ok (.putfield 82, 3) := by decide +kernel
theorem dX7_token_49 : decode cX7_token 49 = .ok (.aload_n 0, 1) := by decide +kernel
theorem dX7_token_50 : decode cX7_token 50 = .ok (.aload_n 0, 1) := by decide +kernel
theorem dX7_token_51 : decode cX7_token 51 = .ok (.getfield 75, 3) := by decide +kernel
theorem dX7_token_54 : decode cX7_token 54 = .ok (.aload_n 0, 1) := by decide +kernel
theorem dX7_token_55 : decode cX7_token 55 = .ok (.getfield 67, 3) := by decide +kernel
theorem dX7_token_58 : decode cX7_token 58 = .ok (.if_icmp .ne 7, 3) := by decide +kernel
theorem dX7_token_61 : decode cX7_token 61 = .ok (.iconst 0, 1) := by decide +kernel
theorem dX7_token_62 : decode cX7_token 62 = .ok (.goto 42, 3) := by decide +kernel
theorem dX7_token_65 : decode cX7_token 65 = .ok (.aload_n 0, 1) := by decide +kernel
theorem dX7_token_66 : decode cX7_token 66 = .ok (.aload_n 0, 1) := by decide +kernel
theorem dX7_token_67 : decode cX7_token 67 = .ok (.getfield 75, 3) := by decide +kernel
theorem dX7_token_70 : decode cX7_token 70 = .ok (.bipush 97, 2) := by decide +kernel
theorem dX7_token_72 : decode cX7_token 72 = .ok (.bipush 122, 2) := by decide +kernel
theorem dX7_token_74 : decode cX7_token 74 = .ok (.invokevirtual 78, 3) := by decide +kernel
theorem dX7_token_77 : decode cX7_token 77 = .ok (.ifCond .eq 7, 3) := by decide +kernel
theorem dX7_token_80 : decode cX7_token 80 = .ok (.iconst 1, 1) := by decide +kernel
theorem dX7_token_81 : decode cX7_token 81 = .ok (.goto 23, 3) := by decide +kernel
theorem dX7_token_84 : decode cX7_token 84 = .ok (.aload_n 0, 1) := by decide +kernel
theorem dX7_token_85 : decode cX7_token 85 = .ok (.aload_n 0, 1) := by decide +kernel
theorem dX7_token_86 : decode cX7_token 86 = .ok (.getfield 75, 3) := by decide +kernel
theorem dX7_token_89 : decode cX7_token 89 = .ok (.bipush 48, 2) := by decide +kernel
theorem dX7_token_91 : decode cX7_token 91 = .ok (.bipush 57, 2) := by decide +kernel
theorem dX7_token_93 : decode cX7_token 93 = .ok (.invokevirtual 78, 3) := by decide +kernel
theorem dX7_token_96 : decode cX7_token 96 = .ok (.ifCond .eq 7, 3) := by decide +kernel
theorem dX7_token_99 : decode cX7_token 99 = .ok (.iconst 2, 1) := by decide +kernel
theorem dX7_token_100 : decode cX7_token 100 = .ok (.goto 4, 3) := by decide +kernel
theorem dX7_token_103 : decode cX7_token 103 = .ok (.iconst 3, 1) := by decide +kernel
theorem dX7_token_104 : decode cX7_token 104 = .ok (.putfield 85, 3) := by decide +kernel
theorem dX7_token_107 : decode cX7_token 107 = .ok (.aload_n 0, 1) := by decide +kernel
theorem dX7_token_108 : decode cX7_token 108 = .ok (.getfield 85, 3) := by decide +kernel
theorem dX7_token_111 : decode cX7_token 111 = .ok (.iconst 3, 1) := by decide +kernel
theorem dX7_token_112 : decode cX7_token 112 = .ok (.if_icmp .ne 13, 3) := by decide +kernel
theorem dX7_token_115 : decode cX7_token 115 = .ok (.aload_n 0, 1) := by decide +kernel
theorem dX7_token_116 : decode cX7_token 116 = .ok (.dup, 1) := by decide +kernel
theorem dX7_token_117 : decode cX7_token 117 = .ok (.getfield 72, 3) := by decide +kernel
theorem dX7_token_120 : decode cX7_token 120 = .ok (.iconst 1, 1) := by decide +kernel
theorem dX7_token_121 : decode cX7_token 121 = .ok (.iadd, 1) := by decide +kernel
theorem dX7_token_122 : decode cX7_token 122 = .ok (.putfield 72, 3) := by decide +kernel
theorem dX7_token_125 : decode cX7_token 125 = .ok (.aload_n 0, 1) := by decide +kernel
theorem dX7_token_126 : decode cX7_token 126 = .ok (.getfield 85, 3) := by decide +kernel
theorem dX7_token_129 : decode cX7_token 129 = .ok (.iconst 1, 1) := by decide +kernel
theorem dX7_token_130 : decode cX7_token 130 = .ok (.if_icmp .ne 31, 3) := by decide +kernel
theorem dX7_token_133 : decode cX7_token 133 = .ok (.aload_n 0, 1) := by decide +kernel
theorem dX7_token_134 : decode cX7_token 134 = .ok (.aload_n 0, 1) := by decide +kernel
theorem dX7_token_135 : decode cX7_token 135 = .ok (.getfield 72, 3) := by decide +kernel
theorem dX7_token_138 : decode cX7_token 138 = .ok (.bipush 97, 2) := by decide +kernel
theorem dX7_token_140 : decode cX7_token 140 = .ok (.bipush 122, 2) := by decide +kernel
theorem dX7_token_142 : decode cX7_token 142 = .ok (.invokevirtual 78, 3) := by decide +kernel
theorem dX7_token_145 : decode cX7_token 145 = .ok (.ifCond .eq 16, 3) := by decide +kernel
theorem dX7_token_148 : decode cX7_token 148 = .ok (.aload_n 0, 1) := by decide +kernel
theorem dX7_token_149 : decode cX7_token 149 = .ok (.dup, 1) := by decide +kernel
theorem dX7_token_150 : decode cX7_token 150 = .ok (.getfield 72, 3) := by decide +kernel
theorem dX7_token_153 : decode cX7_token 153 = .ok (.iconst 1, 1) := by decide +kernel
theorem dX7_token_154 : decode cX7_token 154 = .ok (.iadd, 1) := by decide +kernel
theorem dX7_token_155 : decode cX7_token 155 = .ok (.putfield 72, 3) := by decide +kernel
theorem dX7_token_158 : decode cX7_token 158 = .ok (.goto (-33), 3) := by decide +kernel
theorem dX7_token_161 : decode cX7_token 161 = .ok (.aload_n 0, 1) := by decide +kernel
theorem dX7_token_162 : decode cX7_token 162 = .ok (.getfield 85, 3) := by decide +kernel
theorem dX7_token_165 : decode cX7_token 165 = .ok (.iconst 2, 1) := by decide +kernel
theorem dX7_token_166 : decode cX7_token 166 = .ok (.if_icmp .ne 72, 3) := by decide +kernel
theorem dX7_token_169 : decode cX7_token 169 = .ok (.aload_n 0, 1) := by decide +kernel
theorem dX7_token_170 : decode cX7_token 170 = .ok (.aload_n 0, 1) := by decide +kernel
theorem dX7_token_171 : decode cX7_token 171 = .ok (.getfield 72, 3) := by decide +kernel
theorem dX7_token_174 : decode cX7_token 174 = .ok (.bipush 48, 2) := by decide +kernel
theorem dX7_token_176 : decode cX7_token 176 = .ok (.bipush 57, 2) := by decide +kernel
theorem dX7_token_178 : decode cX7_token 178 = .ok (.invokevirtual 78, 3) := by decide +kernel
theorem dX7_token_181 : decode cX7_token 181 = .ok (.ifCond .eq 57, 3) := by decide +kernel
theorem dX7_token_184 : decode cX7_token 184 = .ok (.aload_n 0, 1) := by decide +kernel
theorem dX7_token_185 : decode cX7_token 185 = .ok (.aload_n 0, 1) := by decide +kernel
theorem dX7_token_186 : decode cX7_token 186 = .ok (.getfield 82, 3) := by decide +kernel
theorem dX7_token_189 : decode cX7_token 189 = .ok (.sipush 999, 3) := by decide +kernel
theorem dX7_token_192 : decode cX7_token 192 = .ok (.if_icmp .le 10, 3) := by decide +kernel
theorem dX7_token_195 : decode cX7_token 195 = .ok (.aload_n 0, 1) := by decide +kernel
theorem dX7_token_196 : decode cX7_token 196 = .ok (.getfield 82, 3) := by decide +kernel
theorem dX7_token_199 : decode cX7_token 199 = .ok (.goto 23, 3) := by decide +kernel
theorem dX7_token_202 : decode cX7_token 202 = .ok (.bipush 10, 2) := by decide +kernel
theorem dX7_token_204 : decode cX7_token 204 = .ok (.aload_n 0, 1) := by decide +kernel
theorem dX7_token_205 : decode cX7_token 205 = .ok (.getfield 82, 3) := by decide +kernel
theorem dX7_token_208 : decode cX7_token 208 = .ok (.imul, 1) := by decide +kernel
theorem dX7_token_209 : decode cX7_token 209 = .ok (.aload_n 0, 1) := by decide +kernel
theorem dX7_token_210 : decode cX7_token 210 = .ok (.getfield 19, 3) := by decide +kernel
theorem dX7_token_213 : decode cX7_token 213 = .ok (.aload_n 0, 1) := by decide +kernel
theorem dX7_token_214 : decode cX7_token 214 = .ok (.getfield 72, 3) := by decide +kernel
theorem dX7_token_217 : decode cX7_token 217 = .ok (.iaload, 1) := by decide +kernel
theorem dX7_token_218 : decode cX7_token 218 = .ok (.iadd, 1) := by decide +kernel
theorem dX7_token_219 : decode cX7_token 219 = .ok (.bipush 48, 2) := by decide +kernel
theorem dX7_token_221 : decode cX7_token 221 = .ok (.isub, 1) := by decide +kernel
theorem dX7_token_222 : decode cX7_token 222 = .ok (.putfield 82, 3) := by decide +kernel
theorem dX7_token_225 : decode cX7_token 225 = .ok (.aload_n 0, 1) := by decide +kernel
theorem dX7_token_226 : decode cX7_token 226 = .ok (.dup, 1) := by decide +kernel
theorem dX7_token_227 : decode cX7_token 227 = .ok (.getfield 72, 3) := by decide +kernel
theorem dX7_token_230 : decode cX7_token 230 = .ok (.iconst 1, 1) := by decide +kernel
theorem dX7_token_231 : decode cX7_token 231 = .ok (.iadd, 1) := by decide +kernel
theorem dX7_token_232 : decode cX7_token 232 = .ok (.putfield 72, 3) := by decide +kernel
theorem dX7_token_235 : decode cX7_token 235 = .ok (.goto (-74), 3) := by decide +kernel
theorem dX7_token_238 : decode cX7_token 238 = .ok (.return_, 1) := by decide +kernel
theorem dX7_isWord_0 : decode cX7_isWord 0 = .ok (.aload_n 0, 1) := by decide +kernel
theorem dX7_isWord_1 : decode cX7_isWord 1 = .ok (.getfield 88, 3) := by decide +kernel
theorem dX7_isWord_4 : decode cX7_isWord 4 = .ok (.ifCond .ne 31, 3) := by decide +kernel
theorem dX7_isWord_7 : decode cX7_isWord 7 = .ok (.aload_n 0, 1) := by decide +kernel
theorem dX7_isWord_8 : decode cX7_isWord 8 = .ok (.getfield 85, 3) := by decide +kernel
theorem dX7_isWord_11 : decode cX7_isWord 11 = .ok (.iconst 1, 1) := by decide +kernel
theorem dX7_isWord_12 : decode cX7_isWord 12 = .ok (.if_icmp .ne 23, 3) := by decide +kernel
theorem dX7_isWord_15 : decode cX7_isWord 15 = .ok (.aload_n 0, 1) := by decide +kernel
theorem dX7_isWord_16 : decode cX7_isWord 16 = .ok (.getfield 72, 3) := by decide +kernel
theorem dX7_isWord_19 : decode cX7_isWord 19 = .ok (.aload_n 0, 1) := by decide +kernel
theorem dX7_isWord_20 : decode cX7_isWord 20 = .ok (.getfield 75, 3) := by decide +kernel
theorem dX7_isWord_23 : decode cX7_isWord 23 = .ok (.isub, 1) := by decide +kernel
theorem dX7_isWord_24 : decode cX7_isWord 24 = .ok (.aload_n 1, 1) := by decide +kernel
theorem dX7_isWord_25 : decode cX7_isWord 25 = .ok (.invokevirtual 92, 3) := by decide +kernel
theorem dX7_isWord_28 : decode cX7_isWord 28 = .ok (.if_icmp .ne 7, 3) := by decide +kernel
theorem dX7_isWord_31 : decode cX7_isWord 31 = .ok (.iconst 1, 1) := by decide +kernel
theorem dX7_isWord_32 : decode cX7_isWord 32 = .ok (.goto 4, 3) := by decide +kernel
theorem dX7_isWord_35 : decode cX7_isWord 35 = .ok (.iconst 0, 1) := by decide +kernel
theorem dX7_isWord_36 : decode cX7_isWord 36 = .ok (.istore_n 2, 1) := by decide +kernel
theorem dX7_isWord_37 : decode cX7_isWord 37 = .ok (.iconst 0, 1) := by decide +kernel
theorem dX7_isWord_38 : decode cX7_isWord 38 = .ok (.istore_n 3, 1) := by decide +kernel
theorem dX7_isWord_39 : decode cX7_isWord 39 = .ok (.iload_n 2, 1) := by decide +kernel
theorem dX7_isWord_40 : decode cX7_isWord 40 = .ok (.ifCond .eq 42, 3) := by decide +kernel
theorem dX7_isWord_43 : decode cX7_isWord 43 = .ok (.iload_n 3, 1) := by decide +kernel
theorem dX7_isWord_44 : decode cX7_isWord 44 = .ok (.aload_n 1, 1) := by decide +kernel
theorem dX7_isWord_45 : decode cX7_isWord 45 = .ok (.invokevirtual 92, 3) := by decide +kernel
theorem dX7_isWord_48 : decode cX7_isWord 48 = .ok (.if_icmp .ge 34, 3) := by decide +kernel
theorem dX7_isWord_51 : decode cX7_isWord 51 = .ok (.aload_n 0, 1) := by decide +kernel
theorem dX7_isWord_52 : decode cX7_isWord 52 = .ok (.getfield 19, 3) := by decide +kernel
theorem dX7_isWord_55 : decode cX7_isWord 55 = .ok (.aload_n 0, 1) := by decide +kernel
theorem dX7_isWord_56 : decode cX7_isWord 56 = .ok (.getfield 75, 3) := by decide +kernel
theorem dX7_isWord_59 : decode cX7_isWord 59 = .ok (.iload_n 3, 1) := by decide +kernel
theorem dX7_isWord_60 : decode cX7_isWord 60 = .ok (.iadd, 1) := by decide +kernel
theorem dX7_isWord_61 : decode cX7_isWord 61 = .ok (.iaload, 1) := by decide +kernel
theorem dX7_isWord_62 : decode cX7_isWord 62 = .ok (.aload_n 1, 1) := by decide +kernel
theorem dX7_isWord_63 : decode cX7_isWord 63 = .ok (.iload_n 3, 1) := by decide +kernel
theorem dX7_isWord_64 : decode cX7_isWord 64 = .ok (.invokevirtual 98, 3) := by decide +kernel
theorem dX7_isWord_67 : decode cX7_isWord 67 = .ok (.if_icmp .ne 7, 3) := by decide +kernel
theorem dX7_isWord_70 : decode cX7_isWord 70 = .ok (.iconst 1, 1) := by decide +kernel
theorem dX7_isWord_71 : decode cX7_isWord 71 = .ok (.goto 4, 3) := by decide +kernel
theorem dX7_isWord_74 : decode cX7_isWord 74 = .ok (.iconst 0, 1) := by decide +kernel
theorem dX7_isWord_75 : decode cX7_isWord 75 = .ok (.istore_n 2, 1) := by decide +kernel
theorem dX7_isWord_76 : decode cX7_isWord 76 = .ok (.iinc 3 1, 3) := by decide +kernel
theorem dX7_isWord_79 : decode cX7_isWord 79 = .ok (.goto (-40), 3) := by decide +kernel
theorem dX7_isWord_82 : decode cX7_isWord 82 = .ok (.iload_n 2, 1) := by decide +kernel
theorem dX7_isWord_83 : decode cX7_isWord 83 = .ok (.ireturn, 1) := by decide +kernel
theorem dX7_takes_0 : decode cX7_takes 0 = .ok (.aload_n 0, 1) := by decide +kernel
theorem dX7_takes_1 : decode cX7_takes 1 = .ok (.aload_n 1, 1) := by decide +kernel
theorem dX7_takes_2 : decode cX7_takes 2 = .ok (.invokevirtual 102, 3) := by decide +kernel
theorem dX7_takes_5 : decode cX7_takes 5 = .ok (.ifCond .ne 5, 3) := by decide +kernel
theorem dX7_takes_8 : decode cX7_takes 8 = .ok (.iconst 0, 1) := by decide +kernel
theorem dX7_takes_9 : decode cX7_takes 9 = .ok (.ireturn, 1) := by decide +kernel
theorem dX7_takes_10 : decode cX7_takes 10 = .ok (.aload_n 0, 1) := by decide +kernel
theorem dX7_takes_11 : decode cX7_takes 11 = .ok (.invokevirtual 106, 3) := by decide +kernel
theorem dX7_takes_14 : decode cX7_takes 14 = .ok (.iconst 1, 1) := by decide +kernel
theorem dX7_takes_15 : decode cX7_takes 15 = .ok (.ireturn, 1) := by decide +kernel
theorem dX7_isSign_0 : decode cX7_isSign 0 = .ok (.aload_n 0, 1) := by decide +kernel
theorem dX7_isSign_1 : decode cX7_isSign 1 = .ok (.getfield 88, 3) := by decide +kernel
theorem dX7_isSign_4 : decode cX7_isSign 4 = .ok (.ifCond .ne 28, 3) := by decide +kernel
theorem dX7_isSign_7 : decode cX7_isSign 7 = .ok (.aload_n 0, 1) := by decide +kernel
theorem dX7_isSign_8 : decode cX7_isSign 8 = .ok (.getfield 85, 3) := by decide +kernel
theorem dX7_isSign_11 : decode cX7_isSign 11 = .ok (.iconst 3, 1) := by decide +kernel
theorem dX7_isSign_12 : decode cX7_isSign 12 = .ok (.if_icmp .ne 20, 3) := by decide +kernel
theorem dX7_isSign_15 : decode cX7_isSign 15 = .ok (.aload_n 0, 1) := by decide +kernel
theorem dX7_isSign_16 : decode cX7_isSign 16 = .ok (.getfield 19, 3) := by decide +kernel
theorem dX7_isSign_19 : decode cX7_isSign 19 = .ok (.aload_n 0, 1) := by decide +kernel
theorem dX7_isSign_20 : decode cX7_isSign 20 = .ok (.getfield 75, 3) := by decide +kernel
theorem dX7_isSign_23 : decode cX7_isSign 23 = .ok (.iaload, 1) := by decide +kernel
theorem dX7_isSign_24 : decode cX7_isSign 24 = .ok (.iload_n 1, 1) := by decide +kernel
theorem dX7_isSign_25 : decode cX7_isSign 25 = .ok (.if_icmp .ne 7, 3) := by decide +kernel
theorem dX7_isSign_28 : decode cX7_isSign 28 = .ok (.iconst 1, 1) := by decide +kernel
theorem dX7_isSign_29 : decode cX7_isSign 29 = .ok (.goto 4, 3) := by decide +kernel
theorem dX7_isSign_32 : decode cX7_isSign 32 = .ok (.iconst 0, 1) := by decide +kernel
theorem dX7_isSign_33 : decode cX7_isSign 33 = .ok (.ireturn, 1) := by decide +kernel
theorem dX7_number_0 : decode cX7_number 0 = .ok (.aload_n 0, 1) := by decide +kernel
theorem dX7_number_1 : decode cX7_number 1 = .ok (.aload_n 0, 1) := by decide +kernel
theorem dX7_number_2 : decode cX7_number 2 = .ok (.getfield 88, 3) := by decide +kernel
theorem dX7_number_5 : decode cX7_number 5 = .ok (.ifCond .ne 26, 3) := by decide +kernel
theorem dX7_number_8 : decode cX7_number 8 = .ok (.aload_n 0, 1) := by decide +kernel
theorem dX7_number_9 : decode cX7_number 9 = .ok (.getfield 85, 3) := by decide +kernel
theorem dX7_number_12 : decode cX7_number 12 = .ok (.iconst 2, 1) := by decide +kernel
theorem dX7_number_13 : decode cX7_number 13 = .ok (.if_icmp .ne 18, 3) := by decide +kernel
theorem dX7_number_16 : decode cX7_number 16 = .ok (.aload_n 0, 1) := by decide +kernel
theorem dX7_number_17 : decode cX7_number 17 = .ok (.getfield 82, 3) := by decide +kernel
theorem dX7_number_20 : decode cX7_number 20 = .ok (.i2l, 1) := by decide +kernel
theorem dX7_number_21 : decode cX7_number 21 = .ok (.iload_n 1, 1) := by decide +kernel
theorem dX7_number_22 : decode cX7_number 22 = .ok (.i2l, 1) := by decide +kernel
theorem dX7_number_23 : decode cX7_number 23 = .ok (.iload_n 2, 1) := by decide +kernel
theorem dX7_number_24 : decode cX7_number 24 = .ok (.i2l, 1) := by decide +kernel
theorem dX7_number_25 : decode cX7_number 25 = .ok (.invokestatic 46, 3) := by decide +kernel
theorem dX7_number_28 : decode cX7_number 28 = .ok (.ifCond .ne 7, 3) := by decide +kernel
theorem dX7_number_31 : decode cX7_number 31 = .ok (.iconst 1, 1) := by decide +kernel
theorem dX7_number_32 : decode cX7_number 32 = .ok (.goto 4, 3) := by decide +kernel
theorem dX7_number_35 : decode cX7_number 35 = .ok (.iconst 0, 1) := by decide +kernel
theorem dX7_number_36 : decode cX7_number 36 = .ok (.putfield 88, 3) := by decide +kernel
theorem dX7_number_39 : decode cX7_number 39 = .ok (.aload_n 0, 1) := by decide +kernel
theorem dX7_number_40 : decode cX7_number 40 = .ok (.getfield 82, 3) := by decide +kernel
theorem dX7_number_43 : decode cX7_number 43 = .ok (.istore_n 3, 1) := by decide +kernel
theorem dX7_number_44 : decode cX7_number 44 = .ok (.aload_n 0, 1) := by decide +kernel
theorem dX7_number_45 : decode cX7_number 45 = .ok (.getfield 88, 3) := by decide +kernel
theorem dX7_number_48 : decode cX7_number 48 = .ok (.ifCond .ne 7, 3) := by decide +kernel
theorem dX7_number_51 : decode cX7_number 51 = .ok (.aload_n 0, 1) := by decide +kernel
theorem dX7_number_52 : decode cX7_number 52 = .ok (.invokevirtual 106, 3) := by decide +kernel
theorem dX7_number_55 : decode cX7_number 55 = .ok (.iload_n 3, 1) := by decide +kernel
theorem dX7_number_56 : decode cX7_number 56 = .ok (.ireturn, 1) := by decide +kernel
theorem dX7_word_0 : decode cX7_word 0 = .ok (.aload_n 0, 1) := by decide +kernel
theorem dX7_word_1 : decode cX7_word 1 = .ok (.aload_n 0, 1) := by decide +kernel
theorem dX7_word_2 : decode cX7_word 2 = .ok (.getfield 88, 3) := by decide +kernel
theorem dX7_word_5 : decode cX7_word 5 = .ok (.ifCond .ne 11, 3) := by decide +kernel
theorem dX7_word_8 : decode cX7_word 8 = .ok (.aload_n 0, 1) := by decide +kernel
theorem dX7_word_9 : decode cX7_word 9 = .ok (.aload_n 1, 1) := by decide +kernel
theorem dX7_word_10 : decode cX7_word 10 = .ok (.invokevirtual 102, 3) := by decide +kernel
theorem dX7_word_13 : decode cX7_word 13 = .ok (.ifCond .ne 7, 3) := by decide +kernel
theorem dX7_word_16 : decode cX7_word 16 = .ok (.iconst 1, 1) := by decide +kernel
theorem dX7_word_17 : decode cX7_word 17 = .ok (.goto 4, 3) := by decide +kernel
theorem dX7_word_20 : decode cX7_word 20 = .ok (.iconst 0, 1) := by decide +kernel
theorem dX7_word_21 : decode cX7_word 21 = .ok (.putfield 88, 3) := by decide +kernel
theorem dX7_word_24 : decode cX7_word 24 = .ok (.aload_n 0, 1) := by decide +kernel
theorem dX7_word_25 : decode cX7_word 25 = .ok (.getfield 88, 3) := by decide +kernel
theorem dX7_word_28 : decode cX7_word 28 = .ok (.ifCond .ne 7, 3) := by decide +kernel
theorem dX7_word_31 : decode cX7_word 31 = .ok (.aload_n 0, 1) := by decide +kernel
theorem dX7_word_32 : decode cX7_word 32 = .ok (.invokevirtual 106, 3) := by decide +kernel
theorem dX7_word_35 : decode cX7_word 35 = .ok (.return_, 1) := by decide +kernel
theorem dX7_kindHere_0 : decode cX7_kindHere 0 = .ok (.aload_n 0, 1) := by decide +kernel
theorem dX7_kindHere_1 : decode cX7_kindHere 1 = .ok (.ldc 109, 2) := by decide +kernel
theorem dX7_kindHere_3 : decode cX7_kindHere 3 = .ok (.invokevirtual 102, 3) := by decide +kernel
theorem dX7_kindHere_6 : decode cX7_kindHere 6 = .ok (.ifCond .eq 5, 3) := by decide +kernel
theorem dX7_kindHere_9 : decode cX7_kindHere 9 = .ok (.iconst 0, 1) := by decide +kernel
theorem dX7_kindHere_10 : decode cX7_kindHere 10 = .ok (.ireturn, 1) := by decide +kernel
theorem dX7_kindHere_11 : decode cX7_kindHere 11 = .ok (.aload_n 0, 1) := by decide +kernel
theorem dX7_kindHere_12 : decode cX7_kindHere 12 = .ok (.ldc 111, 2) := by decide +kernel
theorem dX7_kindHere_14 : decode cX7_kindHere 14 = .ok (.invokevirtual 102, 3) := by decide +kernel
theorem dX7_kindHere_17 : decode cX7_kindHere 17 = .ok (.ifCond .eq 5, 3) := by decide +kernel
theorem dX7_kindHere_20 : decode cX7_kindHere 20 = .ok (.iconst 1, 1) := by decide +kernel
theorem dX7_kindHere_21 : decode cX7_kindHere 21 = .ok (.ireturn, 1) := by decide +kernel
theorem dX7_kindHere_22 : decode cX7_kindHere 22 = .ok (.aload_n 0, 1) := by decide +kernel
theorem dX7_kindHere_23 : decode cX7_kindHere 23 = .ok (.ldc 113, 2) := by decide +kernel
theorem dX7_kindHere_25 : decode cX7_kindHere 25 = .ok (.invokevirtual 102, 3) := by decide +kernel
theorem dX7_kindHere_28 : decode cX7_kindHere 28 = .ok (.ifCond .eq 5, 3) := by decide +kernel
theorem dX7_kindHere_31 : decode cX7_kindHere 31 = .ok (.iconst 2, 1) := by decide +kernel
theorem dX7_kindHere_32 : decode cX7_kindHere 32 = .ok (.ireturn, 1) := by decide +kernel
theorem dX7_kindHere_33 : decode cX7_kindHere 33 = .ok (.aload_n 0, 1) := by decide +kernel
theorem dX7_kindHere_34 : decode cX7_kindHere 34 = .ok (.ldc 115, 2) := by decide +kernel
theorem dX7_kindHere_36 : decode cX7_kindHere 36 = .ok (.invokevirtual 102, 3) := by decide +kernel
theorem dX7_kindHere_39 : decode cX7_kindHere 39 = .ok (.ifCond .eq 5, 3) := by decide +kernel
theorem dX7_kindHere_42 : decode cX7_kindHere 42 = .ok (.iconst 3, 1) := by decide +kernel
theorem dX7_kindHere_43 : decode cX7_kindHere 43 = .ok (.ireturn, 1) := by decide +kernel
theorem dX7_kindHere_44 : decode cX7_kindHere 44 = .ok (.aload_n 0, 1) := by decide +kernel
theorem dX7_kindHere_45 : decode cX7_kindHere 45 = .ok (.ldc 117, 2) := by decide +kernel
theorem dX7_kindHere_47 : decode cX7_kindHere 47 = .ok (.invokevirtual 102, 3) := by decide +kernel
theorem dX7_kindHere_50 : decode cX7_kindHere 50 = .ok (.ifCond .eq 5, 3) := by decide +kernel
theorem dX7_kindHere_53 : decode cX7_kindHere 53 = .ok (.iconst 4, 1) := by decide +kernel
theorem dX7_kindHere_54 : decode cX7_kindHere 54 = .ok (.ireturn, 1) := by decide +kernel
theorem dX7_kindHere_55 : decode cX7_kindHere 55 = .ok (.aload_n 0, 1) := by decide +kernel
theorem dX7_kindHere_56 : decode cX7_kindHere 56 = .ok (.ldc 119, 2) := by decide +kernel
theorem dX7_kindHere_58 : decode cX7_kindHere 58 = .ok (.invokevirtual 102, 3) := by decide +kernel
theorem dX7_kindHere_61 : decode cX7_kindHere 61 = .ok (.ifCond .eq 7, 3) := by decide +kernel
theorem dX7_kindHere_64 : decode cX7_kindHere 64 = .ok (.iconst 5, 1) := by decide +kernel
theorem dX7_kindHere_65 : decode cX7_kindHere 65 = .ok (.goto 18, 3) := by decide +kernel
theorem dX7_kindHere_68 : decode cX7_kindHere 68 = .ok (.aload_n 0, 1) := by decide +kernel
theorem dX7_kindHere_69 : decode cX7_kindHere 69 = .ok (.ldc 121, 2) := by decide +kernel
theorem dX7_kindHere_71 : decode cX7_kindHere 71 = .ok (.invokevirtual 102, 3) := by decide +kernel
theorem dX7_kindHere_74 : decode cX7_kindHere 74 = .ok (.ifCond .eq 8, 3) := by decide +kernel
theorem dX7_kindHere_77 : decode cX7_kindHere 77 = .ok (.bipush 6, 2) := by decide +kernel
theorem dX7_kindHere_79 : decode cX7_kindHere 79 = .ok (.goto 4, 3) := by decide +kernel
theorem dX7_kindHere_82 : decode cX7_kindHere 82 = .ok (.iconst (-1), 1) := by decide +kernel
theorem dX7_kindHere_83 : decode cX7_kindHere 83 = .ok (.ireturn, 1) := by decide +kernel
theorem dX7_toolItem_0 : decode cX7_toolItem 0 = .ok (.aload_n 0, 1) := by decide +kernel
theorem dX7_toolItem_1 : decode cX7_toolItem 1 = .ok (.aload_n 0, 1) := by decide +kernel
theorem dX7_toolItem_2 : decode cX7_toolItem 2 = .ok (.getfield 9, 3) := by decide +kernel
theorem dX7_toolItem_5 : decode cX7_toolItem 5 = .ok (.iconst 2, 1) := by decide +kernel
theorem dX7_toolItem_6 : decode cX7_toolItem 6 = .ok (.iaload, 1) := by decide +kernel
theorem dX7_toolItem_7 : decode cX7_toolItem 7 = .ok (.bipush 8, 2) := by decide +kernel
theorem dX7_toolItem_9 : decode cX7_toolItem 9 = .ok (.if_icmp .ne 7, 3) := by decide +kernel
theorem dX7_toolItem_12 : decode cX7_toolItem 12 = .ok (.iconst 1, 1) := by decide +kernel
theorem dX7_toolItem_13 : decode cX7_toolItem 13 = .ok (.goto 4, 3) := by decide +kernel
theorem dX7_toolItem_16 : decode cX7_toolItem 16 = .ok (.iconst 0, 1) := by decide +kernel
theorem dX7_toolItem_17 : decode cX7_toolItem 17 = .ok (.putfield 88, 3) := by decide +kernel
theorem dX7_toolItem_20 : decode cX7_toolItem 20 = .ok (.aload_n 0, 1) := by decide +kernel
theorem dX7_toolItem_21 : decode cX7_toolItem 21 = .ok (.getfield 88, 3) := by decide +kernel
theorem dX7_toolItem_24 : decode cX7_toolItem 24 = .ok (.ifCond .eq 4, 3) := by decide +kernel
theorem dX7_toolItem_27 : decode cX7_toolItem 27 = .ok (.return_, 1) := by decide +kernel
theorem dX7_toolItem_28 : decode cX7_toolItem 28 = .ok (.aload_n 0, 1) := by decide +kernel
theorem dX7_toolItem_29 : decode cX7_toolItem 29 = .ok (.invokevirtual 106, 3) := by decide +kernel
theorem dX7_toolItem_32 : decode cX7_toolItem 32 = .ok (.iconst 0, 1) := by decide +kernel
theorem dX7_toolItem_33 : decode cX7_toolItem 33 = .ok (.istore_n 1, 1) := by decide +kernel
theorem dX7_toolItem_34 : decode cX7_toolItem 34 = .ok (.iconst 0, 1) := by decide +kernel
theorem dX7_toolItem_35 : decode cX7_toolItem 35 = .ok (.istore_n 2, 1) := by decide +kernel
theorem dX7_toolItem_36 : decode cX7_toolItem 36 = .ok (.aload_n 0, 1) := by decide +kernel
theorem dX7_toolItem_37 : decode cX7_toolItem 37 = .ok (.getfield 88, 3) := by decide +kernel
theorem dX7_toolItem_40 : decode cX7_toolItem 40 = .ok (.ifCond .ne 43, 3) := by decide +kernel
theorem dX7_toolItem_43 : decode cX7_toolItem 43 = .ok (.aload_n 0, 1) := by decide +kernel
theorem dX7_toolItem_44 : decode cX7_toolItem 44 = .ok (.getfield 85, 3) := by decide +kernel
theorem dX7_toolItem_47 : decode cX7_toolItem 47 = .ok (.iconst 2, 1) := by decide +kernel
theorem dX7_toolItem_48 : decode cX7_toolItem 48 = .ok (.if_icmp .ne 35, 3) := by decide +kernel
theorem dX7_toolItem_51 : decode cX7_toolItem 51 = .ok (.aload_n 0, 1) := by decide +kernel
theorem dX7_toolItem_52 : decode cX7_toolItem 52 = .ok (.iload_n 2, 1) := by decide +kernel
theorem dX7_toolItem_53 : decode cX7_toolItem 53 = .ok (.bipush 11, 2) := by decide +kernel
theorem dX7_toolItem_55 : decode cX7_toolItem 55 = .ok (.invokevirtual 123, 3) := by decide +kernel
theorem dX7_toolItem_58 : decode cX7_toolItem 58 = .ok (.istore_n 3, 1) := by decide +kernel
theorem dX7_toolItem_59 : decode cX7_toolItem 59 = .ok (.iload_n 1, 1) := by decide +kernel
theorem dX7_toolItem_60 : decode cX7_toolItem 60 = .ok (.aload_n 0, 1) := by decide +kernel
theorem dX7_toolItem_61 : decode cX7_toolItem 61 = .ok (.getfield 88, 3) := by decide +kernel
theorem dX7_toolItem_64 : decode cX7_toolItem 64 = .ok (.ifCond .eq 7, 3) := by decide +kernel
theorem dX7_toolItem_67 : decode cX7_toolItem 67 = .ok (.iconst 0, 1) := by decide +kernel
theorem dX7_toolItem_68 : decode cX7_toolItem 68 = .ok (.goto 6, 3) := by decide +kernel
theorem dX7_toolItem_71 : decode cX7_toolItem 71 = .ok (.iconst 1, 1) := by decide +kernel
theorem dX7_toolItem_72 : decode cX7_toolItem 72 = .ok (.iload_n 3, 1) := by decide +kernel
theorem dX7_toolItem_73 : decode cX7_toolItem 73 = .ok (.ishl, 1) := by decide +kernel
theorem dX7_toolItem_74 : decode cX7_toolItem 74 = .ok (.ior, 1) := by decide +kernel
theorem dX7_toolItem_75 : decode cX7_toolItem 75 = .ok (.istore_n 1, 1) := by decide +kernel
theorem dX7_toolItem_76 : decode cX7_toolItem 76 = .ok (.iload_n 3, 1) := by decide +kernel
theorem dX7_toolItem_77 : decode cX7_toolItem 77 = .ok (.iconst 1, 1) := by decide +kernel
theorem dX7_toolItem_78 : decode cX7_toolItem 78 = .ok (.iadd, 1) := by decide +kernel
theorem dX7_toolItem_79 : decode cX7_toolItem 79 = .ok (.istore_n 2, 1) := by decide +kernel
theorem dX7_toolItem_80 : decode cX7_toolItem 80 = .ok (.goto (-44), 3) := by decide +kernel
theorem dX7_toolItem_83 : decode cX7_toolItem 83 = .ok (.aload_n 0, 1) := by decide +kernel
theorem dX7_toolItem_84 : decode cX7_toolItem 84 = .ok (.getfield 9, 3) := by decide +kernel
theorem dX7_toolItem_87 : decode cX7_toolItem 87 = .ok (.bipush 6, 2) := by decide +kernel
theorem dX7_toolItem_89 : decode cX7_toolItem 89 = .ok (.aload_n 0, 1) := by decide +kernel
theorem dX7_toolItem_90 : decode cX7_toolItem 90 = .ok (.getfield 9, 3) := by decide +kernel
theorem dX7_toolItem_93 : decode cX7_toolItem 93 = .ok (.iconst 2, 1) := by decide +kernel
theorem dX7_toolItem_94 : decode cX7_toolItem 94 = .ok (.iaload, 1) := by decide +kernel
theorem dX7_toolItem_95 : decode cX7_toolItem 95 = .ok (.iadd, 1) := by decide +kernel
theorem dX7_toolItem_96 : decode cX7_toolItem 96 = .ok (.iload_n 1, 1) := by decide +kernel
theorem dX7_toolItem_97 : decode cX7_toolItem 97 = .ok (.iastore, 1) := by decide +kernel
theorem dX7_toolItem_98 : decode cX7_toolItem 98 = .ok (.aload_n 0, 1) := by decide +kernel
theorem dX7_toolItem_99 : decode cX7_toolItem 99 = .ok (.getfield 9, 3) := by decide +kernel
theorem dX7_toolItem_102 : decode cX7_toolItem 102 = .ok (.iconst 2, 1) := by decide +kernel
theorem dX7_toolItem_103 : decode cX7_toolItem 103 = .ok (.dup2, 1) := by decide +kernel
theorem dX7_toolItem_104 : decode cX7_toolItem 104 = .ok (.iaload, 1) := by decide +kernel
theorem dX7_toolItem_105 : decode cX7_toolItem 105 = .ok (.iconst 1, 1) := by decide +kernel
theorem dX7_toolItem_106 : decode cX7_toolItem 106 = .ok (.iadd, 1) := by decide +kernel
theorem dX7_toolItem_107 : decode cX7_toolItem 107 = .ok (.iastore, 1) := by decide +kernel
theorem dX7_toolItem_108 : decode cX7_toolItem 108 = .ok (.return_, 1) := by decide +kernel
theorem dX7_thingItem_0 : decode cX7_thingItem 0 = .ok (.aload_n 0, 1) := by decide +kernel
theorem dX7_thingItem_1 : decode cX7_thingItem 1 = .ok (.iload_n 1, 1) := by decide +kernel
theorem dX7_thingItem_2 : decode cX7_thingItem 2 = .ok (.ifCond .lt 14, 3) := by decide +kernel
theorem dX7_thingItem_5 : decode cX7_thingItem 5 = .ok (.aload_n 0, 1) := by decide +kernel
theorem dX7_thingItem_6 : decode cX7_thingItem 6 = .ok (.getfield 9, 3) := by decide +kernel
theorem dX7_thingItem_9 : decode cX7_thingItem 9 = .ok (.iconst 3, 1) := by decide +kernel
theorem dX7_thingItem_10 : decode cX7_thingItem 10 = .ok (.iaload, 1) := by decide +kernel
theorem dX7_thingItem_11 : decode cX7_thingItem 11 = .ok (.bipush 8, 2) := by decide +kernel
theorem dX7_thingItem_13 : decode cX7_thingItem 13 = .ok (.if_icmp .ne 7, 3) := by decide +kernel
theorem dX7_thingItem_16 : decode cX7_thingItem 16 = .ok (.iconst 1, 1) := by decide +kernel
theorem dX7_thingItem_17 : decode cX7_thingItem 17 = .ok (.goto 4, 3) := by decide +kernel
theorem dX7_thingItem_20 : decode cX7_thingItem 20 = .ok (.iconst 0, 1) := by decide +kernel
theorem dX7_thingItem_21 : decode cX7_thingItem 21 = .ok (.putfield 88, 3) := by decide +kernel
theorem dX7_thingItem_24 : decode cX7_thingItem 24 = .ok (.aload_n 0, 1) := by decide +kernel
theorem dX7_thingItem_25 : decode cX7_thingItem 25 = .ok (.getfield 88, 3) := by decide +kernel
theorem dX7_thingItem_28 : decode cX7_thingItem 28 = .ok (.ifCond .eq 4, 3) := by decide +kernel
theorem dX7_thingItem_31 : decode cX7_thingItem 31 = .ok (.return_, 1) := by decide +kernel
theorem dX7_thingItem_32 : decode cX7_thingItem 32 = .ok (.aload_n 0, 1) := by decide +kernel
theorem dX7_thingItem_33 : decode cX7_thingItem 33 = .ok (.invokevirtual 106, 3) := by decide +kernel
theorem dX7_thingItem_36 : decode cX7_thingItem 36 = .ok (.aload_n 0, 1) := by decide +kernel
theorem dX7_thingItem_37 : decode cX7_thingItem 37 = .ok (.getfield 9, 3) := by decide +kernel
theorem dX7_thingItem_40 : decode cX7_thingItem 40 = .ok (.iconst 3, 1) := by decide +kernel
theorem dX7_thingItem_41 : decode cX7_thingItem 41 = .ok (.iaload, 1) := by decide +kernel
theorem dX7_thingItem_42 : decode cX7_thingItem 42 = .ok (.istore_n 2, 1) := by decide +kernel
theorem dX7_thingItem_43 : decode cX7_thingItem 43 = .ok (.iconst 0, 1) := by decide +kernel
theorem dX7_thingItem_44 : decode cX7_thingItem 44 = .ok (.istore_n 3, 1) := by decide +kernel
theorem dX7_thingItem_45 : decode cX7_thingItem 45 = .ok (.iconst 1, 1) := by decide +kernel
theorem dX7_thingItem_46 : decode cX7_thingItem 46 = .ok (.istore 4, 2) := by decide +kernel
theorem dX7_thingItem_48 : decode cX7_thingItem 48 = .ok (.iload 4, 2) := by decide +kernel
theorem dX7_thingItem_50 : decode cX7_thingItem 50 = .ok (.ifCond .eq 119, 3) := by decide +kernel
theorem dX7_thingItem_53 : decode cX7_thingItem 53 = .ok (.aload_n 0, 1) := by decide +kernel
theorem dX7_thingItem_54 : decode cX7_thingItem 54 = .ok (.getfield 9, 3) := by decide +kernel
theorem dX7_thingItem_57 : decode cX7_thingItem 57 = .ok (.iload_n 2, 1) := by decide +kernel
theorem dX7_thingItem_58 : decode cX7_thingItem 58 = .ok (.iload_n 3, 1) := by decide +kernel
theorem dX7_thingItem_59 : decode cX7_thingItem 59 = .ok (.iconst 0, 1) := by decide +kernel
theorem dX7_thingItem_60 : decode cX7_thingItem 60 = .ok (.invokestatic 54, 3) := by decide +kernel
theorem dX7_thingItem_63 : decode cX7_thingItem 63 = .ok (.aload_n 0, 1) := by decide +kernel
theorem dX7_thingItem_64 : decode cX7_thingItem 64 = .ok (.iconst 0, 1) := by decide +kernel
theorem dX7_thingItem_65 : decode cX7_thingItem 65 = .ok (.aload_n 0, 1) := by decide +kernel
theorem dX7_thingItem_66 : decode cX7_thingItem 66 = .ok (.getfield 9, 3) := by decide +kernel
theorem dX7_thingItem_69 : decode cX7_thingItem 69 = .ok (.iconst 2, 1) := by decide +kernel
theorem dX7_thingItem_70 : decode cX7_thingItem 70 = .ok (.iaload, 1) := by decide +kernel
theorem dX7_thingItem_71 : decode cX7_thingItem 71 = .ok (.iconst 1, 1) := by decide +kernel
theorem dX7_thingItem_72 : decode cX7_thingItem 72 = .ok (.isub, 1) := by decide +kernel
theorem dX7_thingItem_73 : decode cX7_thingItem 73 = .ok (.invokevirtual 123, 3) := by decide +kernel
theorem dX7_thingItem_76 : decode cX7_thingItem 76 = .ok (.iastore, 1) := by decide +kernel
theorem dX7_thingItem_77 : decode cX7_thingItem 77 = .ok (.aload_n 0, 1) := by decide +kernel
theorem dX7_thingItem_78 : decode cX7_thingItem 78 = .ok (.getfield 9, 3) := by decide +kernel
theorem dX7_thingItem_81 : decode cX7_thingItem 81 = .ok (.iload_n 2, 1) := by decide +kernel
theorem dX7_thingItem_82 : decode cX7_thingItem 82 = .ok (.iload_n 3, 1) := by decide +kernel
theorem dX7_thingItem_83 : decode cX7_thingItem 83 = .ok (.iconst 1, 1) := by decide +kernel
theorem dX7_thingItem_84 : decode cX7_thingItem 84 = .ok (.invokestatic 54, 3) := by decide +kernel
theorem dX7_thingItem_87 : decode cX7_thingItem 87 = .ok (.aload_n 0, 1) := by decide +kernel
theorem dX7_thingItem_88 : decode cX7_thingItem 88 = .ok (.iconst 1, 1) := by decide +kernel
theorem dX7_thingItem_89 : decode cX7_thingItem 89 = .ok (.bipush 8, 2) := by decide +kernel
theorem dX7_thingItem_91 : decode cX7_thingItem 91 = .ok (.invokevirtual 123, 3) := by decide +kernel
theorem dX7_thingItem_94 : decode cX7_thingItem 94 = .ok (.iastore, 1) := by decide +kernel
theorem dX7_thingItem_95 : decode cX7_thingItem 95 = .ok (.aload_n 0, 1) := by decide +kernel
theorem dX7_thingItem_96 : decode cX7_thingItem 96 = .ok (.getfield 9, 3) := by decide +kernel
theorem dX7_thingItem_99 : decode cX7_thingItem 99 = .ok (.iload_n 2, 1) := by decide +kernel
theorem dX7_thingItem_100 : decode cX7_thingItem 100 = .ok (.iload_n 3, 1) := by decide +kernel
theorem dX7_thingItem_101 : decode cX7_thingItem 101 = .ok (.iconst 2, 1) := by decide +kernel
theorem dX7_thingItem_102 : decode cX7_thingItem 102 = .ok (.invokestatic 54, 3) := by decide +kernel
theorem dX7_thingItem_105 : decode cX7_thingItem 105 = .ok (.aload_n 0, 1) := by decide +kernel
theorem dX7_thingItem_106 : decode cX7_thingItem 106 = .ok (.ldc 126, 2) := by decide +kernel
theorem dX7_thingItem_108 : decode cX7_thingItem 108 = .ok (.invokevirtual 128, 3) := by decide +kernel
theorem dX7_thingItem_111 : decode cX7_thingItem 111 = .ok (.ifCond .eq 13, 3) := by decide +kernel
theorem dX7_thingItem_114 : decode cX7_thingItem 114 = .ok (.aload_n 0, 1) := by decide +kernel
theorem dX7_thingItem_115 : decode cX7_thingItem 115 = .ok (.iconst 0, 1) := by decide +kernel
theorem dX7_thingItem_116 : decode cX7_thingItem 116 = .ok (.bipush 99, 2) := by decide +kernel
theorem dX7_thingItem_118 : decode cX7_thingItem 118 = .ok (.invokevirtual 123, 3) := by decide +kernel
theorem dX7_thingItem_121 : decode cX7_thingItem 121 = .ok (.goto 5, 3) := by decide +kernel
theorem dX7_thingItem_124 : decode cX7_thingItem 124 = .ok (.bipush 99, 2) := by decide +kernel
theorem dX7_thingItem_126 : decode cX7_thingItem 126 = .ok (.iastore, 1) := by decide +kernel
theorem dX7_thingItem_127 : decode cX7_thingItem 127 = .ok (.iinc 3 1, 3) := by decide +kernel
theorem dX7_thingItem_130 : decode cX7_thingItem 130 = .ok (.aload_n 0, 1) := by decide +kernel
theorem dX7_thingItem_131 : decode cX7_thingItem 131 = .ok (.bipush 44, 2) := by decide +kernel
theorem dX7_thingItem_133 : decode cX7_thingItem 133 = .ok (.invokevirtual 131, 3) := by decide +kernel
theorem dX7_thingItem_136 : decode cX7_thingItem 136 = .ok (.istore 4, 2) := by decide +kernel
theorem dX7_thingItem_138 : decode cX7_thingItem 138 = .ok (.iload 4, 2) := by decide +kernel
theorem dX7_thingItem_140 : decode cX7_thingItem 140 = .ok (.ifCond .eq 17, 3) := by decide +kernel
theorem dX7_thingItem_143 : decode cX7_thingItem 143 = .ok (.iload_n 3, 1) := by decide +kernel
theorem dX7_thingItem_144 : decode cX7_thingItem 144 = .ok (.bipush 8, 2) := by decide +kernel
theorem dX7_thingItem_146 : decode cX7_thingItem 146 = .ok (.if_icmp .ne 11, 3) := by decide +kernel
theorem dX7_thingItem_149 : decode cX7_thingItem 149 = .ok (.aload_n 0, 1) := by decide +kernel
theorem dX7_thingItem_150 : decode cX7_thingItem 150 = .ok (.iconst 1, 1) := by decide +kernel
theorem dX7_thingItem_151 : decode cX7_thingItem 151 = .ok (.putfield 88, 3) := by decide +kernel
theorem dX7_thingItem_154 : decode cX7_thingItem 154 = .ok (.iconst 0, 1) := by decide +kernel
theorem dX7_thingItem_155 : decode cX7_thingItem 155 = .ok (.istore 4, 2) := by decide +kernel
theorem dX7_thingItem_157 : decode cX7_thingItem 157 = .ok (.iload 4, 2) := by decide +kernel
theorem dX7_thingItem_159 : decode cX7_thingItem 159 = .ok (.ifCond .eq (-111), 3) := by decide +kernel
theorem dX7_thingItem_162 : decode cX7_thingItem 162 = .ok (.aload_n 0, 1) := by decide +kernel
theorem dX7_thingItem_163 : decode cX7_thingItem 163 = .ok (.invokevirtual 106, 3) := by decide +kernel
theorem dX7_thingItem_166 : decode cX7_thingItem 166 = .ok (.goto (-118), 3) := by decide +kernel
theorem dX7_thingItem_169 : decode cX7_thingItem 169 = .ok (.aload_n 0, 1) := by decide +kernel
theorem dX7_thingItem_170 : decode cX7_thingItem 170 = .ok (.getfield 9, 3) := by decide +kernel
theorem dX7_thingItem_173 : decode cX7_thingItem 173 = .ok (.bipush 14, 2) := by decide +kernel
theorem dX7_thingItem_175 : decode cX7_thingItem 175 = .ok (.bipush 26, 2) := by decide +kernel
theorem dX7_thingItem_177 : decode cX7_thingItem 177 = .ok (.iload_n 2, 1) := by decide +kernel
theorem dX7_thingItem_178 : decode cX7_thingItem 178 = .ok (.imul, 1) := by decide +kernel
theorem dX7_thingItem_179 : decode cX7_thingItem 179 = .ok (.iadd, 1) := by decide +kernel
theorem dX7_thingItem_180 : decode cX7_thingItem 180 = .ok (.iload_n 1, 1) := by decide +kernel
theorem dX7_thingItem_181 : decode cX7_thingItem 181 = .ok (.iastore, 1) := by decide +kernel
theorem dX7_thingItem_182 : decode cX7_thingItem 182 = .ok (.aload_n 0, 1) := by decide +kernel
theorem dX7_thingItem_183 : decode cX7_thingItem 183 = .ok (.getfield 9, 3) := by decide +kernel
theorem dX7_thingItem_186 : decode cX7_thingItem 186 = .ok (.bipush 14, 2) := by decide +kernel
theorem dX7_thingItem_188 : decode cX7_thingItem 188 = .ok (.bipush 26, 2) := by decide +kernel
theorem dX7_thingItem_190 : decode cX7_thingItem 190 = .ok (.iload_n 2, 1) := by decide +kernel
theorem dX7_thingItem_191 : decode cX7_thingItem 191 = .ok (.imul, 1) := by decide +kernel
theorem dX7_thingItem_192 : decode cX7_thingItem 192 = .ok (.iadd, 1) := by decide +kernel
theorem dX7_thingItem_193 : decode cX7_thingItem 193 = .ok (.iconst 1, 1) := by decide +kernel
theorem dX7_thingItem_194 : decode cX7_thingItem 194 = .ok (.iadd, 1) := by decide +kernel
theorem dX7_thingItem_195 : decode cX7_thingItem 195 = .ok (.iload_n 3, 1) := by decide +kernel
theorem dX7_thingItem_196 : decode cX7_thingItem 196 = .ok (.iastore, 1) := by decide +kernel
theorem dX7_thingItem_197 : decode cX7_thingItem 197 = .ok (.aload_n 0, 1) := by decide +kernel
theorem dX7_thingItem_198 : decode cX7_thingItem 198 = .ok (.getfield 9, 3) := by decide +kernel
theorem dX7_thingItem_201 : decode cX7_thingItem 201 = .ok (.iconst 3, 1) := by decide +kernel
theorem dX7_thingItem_202 : decode cX7_thingItem 202 = .ok (.dup2, 1) := by decide +kernel
theorem dX7_thingItem_203 : decode cX7_thingItem 203 = .ok (.iaload, 1) := by decide +kernel
theorem dX7_thingItem_204 : decode cX7_thingItem 204 = .ok (.iconst 1, 1) := by decide +kernel
theorem dX7_thingItem_205 : decode cX7_thingItem 205 = .ok (.iadd, 1) := by decide +kernel
theorem dX7_thingItem_206 : decode cX7_thingItem 206 = .ok (.iastore, 1) := by decide +kernel
theorem dX7_thingItem_207 : decode cX7_thingItem 207 = .ok (.return_, 1) := by decide +kernel
theorem dX7_orderItem_0 : decode cX7_orderItem 0 = .ok (.aload_n 0, 1) := by decide +kernel
theorem dX7_orderItem_1 : decode cX7_orderItem 1 = .ok (.aload_n 0, 1) := by decide +kernel
theorem dX7_orderItem_2 : decode cX7_orderItem 2 = .ok (.getfield 9, 3) := by decide +kernel
theorem dX7_orderItem_5 : decode cX7_orderItem 5 = .ok (.iconst 4, 1) := by decide +kernel
theorem dX7_orderItem_6 : decode cX7_orderItem 6 = .ok (.iaload, 1) := by decide +kernel
theorem dX7_orderItem_7 : decode cX7_orderItem 7 = .ok (.iconst 5, 1) := by decide +kernel
theorem dX7_orderItem_8 : decode cX7_orderItem 8 = .ok (.if_icmp .ne 7, 3) := by decide +kernel
theorem dX7_orderItem_11 : decode cX7_orderItem 11 = .ok (.iconst 1, 1) := by decide +kernel
theorem dX7_orderItem_12 : decode cX7_orderItem 12 = .ok (.goto 4, 3) := by decide +kernel
theorem dX7_orderItem_15 : decode cX7_orderItem 15 = .ok (.iconst 0, 1) := by decide +kernel
theorem dX7_orderItem_16 : decode cX7_orderItem 16 = .ok (.putfield 88, 3) := by decide +kernel
theorem dX7_orderItem_19 : decode cX7_orderItem 19 = .ok (.aload_n 0, 1) := by decide +kernel
theorem dX7_orderItem_20 : decode cX7_orderItem 20 = .ok (.getfield 88, 3) := by decide +kernel
theorem dX7_orderItem_23 : decode cX7_orderItem 23 = .ok (.ifCond .eq 4, 3) := by decide +kernel
theorem dX7_orderItem_26 : decode cX7_orderItem 26 = .ok (.return_, 1) := by decide +kernel
theorem dX7_orderItem_27 : decode cX7_orderItem 27 = .ok (.aload_n 0, 1) := by decide +kernel
theorem dX7_orderItem_28 : decode cX7_orderItem 28 = .ok (.invokevirtual 106, 3) := by decide +kernel
theorem dX7_orderItem_31 : decode cX7_orderItem 31 = .ok (.sipush 222, 3) := by decide +kernel
theorem dX7_orderItem_34 : decode cX7_orderItem 34 = .ok (.iconst 3, 1) := by decide +kernel
theorem dX7_orderItem_35 : decode cX7_orderItem 35 = .ok (.aload_n 0, 1) := by decide +kernel
theorem dX7_orderItem_36 : decode cX7_orderItem 36 = .ok (.getfield 9, 3) := by decide +kernel
theorem dX7_orderItem_39 : decode cX7_orderItem 39 = .ok (.iconst 4, 1) := by decide +kernel
theorem dX7_orderItem_40 : decode cX7_orderItem 40 = .ok (.iaload, 1) := by decide +kernel
theorem dX7_orderItem_41 : decode cX7_orderItem 41 = .ok (.imul, 1) := by decide +kernel
theorem dX7_orderItem_42 : decode cX7_orderItem 42 = .ok (.iadd, 1) := by decide +kernel
theorem dX7_orderItem_43 : decode cX7_orderItem 43 = .ok (.istore_n 1, 1) := by decide +kernel
theorem dX7_orderItem_44 : decode cX7_orderItem 44 = .ok (.aload_n 0, 1) := by decide +kernel
theorem dX7_orderItem_45 : decode cX7_orderItem 45 = .ok (.getfield 9, 3) := by decide +kernel
theorem dX7_orderItem_48 : decode cX7_orderItem 48 = .ok (.iload_n 1, 1) := by decide +kernel
theorem dX7_orderItem_49 : decode cX7_orderItem 49 = .ok (.aload_n 0, 1) := by decide +kernel
theorem dX7_orderItem_50 : decode cX7_orderItem 50 = .ok (.iconst 0, 1) := by decide +kernel
theorem dX7_orderItem_51 : decode cX7_orderItem 51 = .ok (.aload_n 0, 1) := by decide +kernel
theorem dX7_orderItem_52 : decode cX7_orderItem 52 = .ok (.getfield 9, 3) := by decide +kernel
theorem dX7_orderItem_55 : decode cX7_orderItem 55 = .ok (.iconst 3, 1) := by decide +kernel
theorem dX7_orderItem_56 : decode cX7_orderItem 56 = .ok (.iaload, 1) := by decide +kernel
theorem dX7_orderItem_57 : decode cX7_orderItem 57 = .ok (.iconst 1, 1) := by decide +kernel
theorem dX7_orderItem_58 : decode cX7_orderItem 58 = .ok (.isub, 1) := by decide +kernel
theorem dX7_orderItem_59 : decode cX7_orderItem 59 = .ok (.invokevirtual 123, 3) := by decide +kernel
theorem dX7_orderItem_62 : decode cX7_orderItem 62 = .ok (.iastore, 1) := by decide +kernel
theorem dX7_orderItem_63 : decode cX7_orderItem 63 = .ok (.aload_n 0, 1) := by decide +kernel
theorem dX7_orderItem_64 : decode cX7_orderItem 64 = .ok (.ldc 134, 2) := by decide +kernel
theorem dX7_orderItem_66 : decode cX7_orderItem 66 = .ok (.invokevirtual 136, 3) := by decide +kernel
theorem dX7_orderItem_69 : decode cX7_orderItem 69 = .ok (.aload_n 0, 1) := by decide +kernel
theorem dX7_orderItem_70 : decode cX7_orderItem 70 = .ok (.getfield 9, 3) := by decide +kernel
theorem dX7_orderItem_73 : decode cX7_orderItem 73 = .ok (.iload_n 1, 1) := by decide +kernel
theorem dX7_orderItem_74 : decode cX7_orderItem 74 = .ok (.iconst 1, 1) := by decide +kernel
theorem dX7_orderItem_75 : decode cX7_orderItem 75 = .ok (.iadd, 1) := by decide +kernel
theorem dX7_orderItem_76 : decode cX7_orderItem 76 = .ok (.aload_n 0, 1) := by decide +kernel
theorem dX7_orderItem_77 : decode cX7_orderItem 77 = .ok (.iconst 0, 1) := by decide +kernel
theorem dX7_orderItem_78 : decode cX7_orderItem 78 = .ok (.sipush 399, 3) := by decide +kernel
theorem dX7_orderItem_81 : decode cX7_orderItem 81 = .ok (.invokevirtual 123, 3) := by decide +kernel
theorem dX7_orderItem_84 : decode cX7_orderItem 84 = .ok (.iastore, 1) := by decide +kernel
theorem dX7_orderItem_85 : decode cX7_orderItem 85 = .ok (.aload_n 0, 1) := by decide +kernel
theorem dX7_orderItem_86 : decode cX7_orderItem 86 = .ok (.ldc 140, 2) := by decide +kernel
theorem dX7_orderItem_88 : decode cX7_orderItem 88 = .ok (.invokevirtual 136, 3) := by decide +kernel
theorem dX7_orderItem_91 : decode cX7_orderItem 91 = .ok (.aload_n 0, 1) := by decide +kernel
theorem dX7_orderItem_92 : decode cX7_orderItem 92 = .ok (.getfield 9, 3) := by decide +kernel
theorem dX7_orderItem_95 : decode cX7_orderItem 95 = .ok (.iload_n 1, 1) := by decide +kernel
theorem dX7_orderItem_96 : decode cX7_orderItem 96 = .ok (.iconst 2, 1) := by decide +kernel
theorem dX7_orderItem_97 : decode cX7_orderItem 97 = .ok (.iadd, 1) := by decide +kernel
theorem dX7_orderItem_98 : decode cX7_orderItem 98 = .ok (.aload_n 0, 1) := by decide +kernel
theorem dX7_orderItem_99 : decode cX7_orderItem 99 = .ok (.iconst 1, 1) := by decide +kernel
theorem dX7_orderItem_100 : decode cX7_orderItem 100 = .ok (.bipush 99, 2) := by decide +kernel
theorem dX7_orderItem_102 : decode cX7_orderItem 102 = .ok (.invokevirtual 123, 3) := by decide +kernel
theorem dX7_orderItem_105 : decode cX7_orderItem 105 = .ok (.iastore, 1) := by decide +kernel
theorem dX7_orderItem_106 : decode cX7_orderItem 106 = .ok (.aload_n 0, 1) := by decide +kernel
theorem dX7_orderItem_107 : decode cX7_orderItem 107 = .ok (.getfield 9, 3) := by decide +kernel
theorem dX7_orderItem_110 : decode cX7_orderItem 110 = .ok (.iconst 4, 1) := by decide +kernel
theorem dX7_orderItem_111 : decode cX7_orderItem 111 = .ok (.dup2, 1) := by decide +kernel
theorem dX7_orderItem_112 : decode cX7_orderItem 112 = .ok (.iaload, 1) := by decide +kernel
theorem dX7_orderItem_113 : decode cX7_orderItem 113 = .ok (.iconst 1, 1) := by decide +kernel
theorem dX7_orderItem_114 : decode cX7_orderItem 114 = .ok (.iadd, 1) := by decide +kernel
theorem dX7_orderItem_115 : decode cX7_orderItem 115 = .ok (.iastore, 1) := by decide +kernel
theorem dX7_orderItem_116 : decode cX7_orderItem 116 = .ok (.return_, 1) := by decide +kernel
theorem dX7_item_0 : decode cX7_item 0 = .ok (.aload_n 0, 1) := by decide +kernel
theorem dX7_item_1 : decode cX7_item 1 = .ok (.ldc 142, 2) := by decide +kernel
theorem dX7_item_3 : decode cX7_item 3 = .ok (.invokevirtual 128, 3) := by decide +kernel
theorem dX7_item_6 : decode cX7_item 6 = .ok (.ifCond .eq 19, 3) := by decide +kernel
theorem dX7_item_9 : decode cX7_item 9 = .ok (.aload_n 0, 1) := by decide +kernel
theorem dX7_item_10 : decode cX7_item 10 = .ok (.getfield 9, 3) := by decide +kernel
theorem dX7_item_13 : decode cX7_item 13 = .ok (.iconst 0, 1) := by decide +kernel
theorem dX7_item_14 : decode cX7_item 14 = .ok (.aload_n 0, 1) := by decide +kernel
theorem dX7_item_15 : decode cX7_item 15 = .ok (.iconst 1, 1) := by decide +kernel
theorem dX7_item_16 : decode cX7_item 16 = .ok (.bipush 12, 2) := by decide +kernel
theorem dX7_item_18 : decode cX7_item 18 = .ok (.invokevirtual 123, 3) := by decide +kernel
theorem dX7_item_21 : decode cX7_item 21 = .ok (.iastore, 1) := by decide +kernel
theorem dX7_item_22 : decode cX7_item 22 = .ok (.goto 68, 3) := by decide +kernel
theorem dX7_item_25 : decode cX7_item 25 = .ok (.aload_n 0, 1) := by decide +kernel
theorem dX7_item_26 : decode cX7_item 26 = .ok (.ldc 144, 2) := by decide +kernel
theorem dX7_item_28 : decode cX7_item 28 = .ok (.invokevirtual 128, 3) := by decide +kernel
theorem dX7_item_31 : decode cX7_item 31 = .ok (.ifCond .eq 19, 3) := by decide +kernel
theorem dX7_item_34 : decode cX7_item 34 = .ok (.aload_n 0, 1) := by decide +kernel
theorem dX7_item_35 : decode cX7_item 35 = .ok (.getfield 9, 3) := by decide +kernel
theorem dX7_item_38 : decode cX7_item 38 = .ok (.iconst 1, 1) := by decide +kernel
theorem dX7_item_39 : decode cX7_item 39 = .ok (.aload_n 0, 1) := by decide +kernel
theorem dX7_item_40 : decode cX7_item 40 = .ok (.iconst 0, 1) := by decide +kernel
theorem dX7_item_41 : decode cX7_item 41 = .ok (.bipush 11, 2) := by decide +kernel
theorem dX7_item_43 : decode cX7_item 43 = .ok (.invokevirtual 123, 3) := by decide +kernel
theorem dX7_item_46 : decode cX7_item 46 = .ok (.iastore, 1) := by decide +kernel
theorem dX7_item_47 : decode cX7_item 47 = .ok (.goto 43, 3) := by decide +kernel
theorem dX7_item_50 : decode cX7_item 50 = .ok (.aload_n 0, 1) := by decide +kernel
theorem dX7_item_51 : decode cX7_item 51 = .ok (.ldc 146, 2) := by decide +kernel
theorem dX7_item_53 : decode cX7_item 53 = .ok (.invokevirtual 102, 3) := by decide +kernel
theorem dX7_item_56 : decode cX7_item 56 = .ok (.ifCond .eq 10, 3) := by decide +kernel
theorem dX7_item_59 : decode cX7_item 59 = .ok (.aload_n 0, 1) := by decide +kernel
theorem dX7_item_60 : decode cX7_item 60 = .ok (.invokevirtual 148, 3) := by decide +kernel
theorem dX7_item_63 : decode cX7_item 63 = .ok (.goto 27, 3) := by decide +kernel
theorem dX7_item_66 : decode cX7_item 66 = .ok (.aload_n 0, 1) := by decide +kernel
theorem dX7_item_67 : decode cX7_item 67 = .ok (.ldc 151, 2) := by decide +kernel
theorem dX7_item_69 : decode cX7_item 69 = .ok (.invokevirtual 102, 3) := by decide +kernel
theorem dX7_item_72 : decode cX7_item 72 = .ok (.ifCond .eq 10, 3) := by decide +kernel
theorem dX7_item_75 : decode cX7_item 75 = .ok (.aload_n 0, 1) := by decide +kernel
theorem dX7_item_76 : decode cX7_item 76 = .ok (.invokevirtual 153, 3) := by decide +kernel
theorem dX7_item_79 : decode cX7_item 79 = .ok (.goto 11, 3) := by decide +kernel
theorem dX7_item_82 : decode cX7_item 82 = .ok (.aload_n 0, 1) := by decide +kernel
theorem dX7_item_83 : decode cX7_item 83 = .ok (.aload_n 0, 1) := by decide +kernel
theorem dX7_item_84 : decode cX7_item 84 = .ok (.invokevirtual 156, 3) := by decide +kernel
theorem dX7_item_87 : decode cX7_item 87 = .ok (.invokevirtual 159, 3) := by decide +kernel
theorem dX7_item_90 : decode cX7_item 90 = .ok (.return_, 1) := by decide +kernel
theorem dX7_town_0 : decode cX7_town 0 = .ok (.iconst 0, 1) := by decide +kernel
theorem dX7_town_1 : decode cX7_town 1 = .ok (.istore_n 1, 1) := by decide +kernel
theorem dX7_town_2 : decode cX7_town 2 = .ok (.iload_n 1, 1) := by decide +kernel
theorem dX7_town_3 : decode cX7_town 3 = .ok (.sipush 247, 3) := by decide +kernel
theorem dX7_town_6 : decode cX7_town 6 = .ok (.if_icmp .ge 21, 3) := by decide +kernel
theorem dX7_town_9 : decode cX7_town 9 = .ok (.aload_n 0, 1) := by decide +kernel
theorem dX7_town_10 : decode cX7_town 10 = .ok (.getfield 22, 3) := by decide +kernel
theorem dX7_town_13 : decode cX7_town 13 = .ok (.iload_n 1, 1) := by decide +kernel
theorem dX7_town_14 : decode cX7_town 14 = .ok (.aload_n 0, 1) := by decide +kernel
theorem dX7_town_15 : decode cX7_town 15 = .ok (.getfield 9, 3) := by decide +kernel
theorem dX7_town_18 : decode cX7_town 18 = .ok (.iload_n 1, 1) := by decide +kernel
theorem dX7_town_19 : decode cX7_town 19 = .ok (.iaload, 1) := by decide +kernel
theorem dX7_town_20 : decode cX7_town 20 = .ok (.iastore, 1) := by decide +kernel
theorem dX7_town_21 : decode cX7_town 21 = .ok (.iinc 1 1, 3) := by decide +kernel
theorem dX7_town_24 : decode cX7_town 24 = .ok (.goto (-22), 3) := by decide +kernel
theorem dX7_town_27 : decode cX7_town 27 = .ok (.aload_n 0, 1) := by decide +kernel
theorem dX7_town_28 : decode cX7_town 28 = .ok (.iconst 0, 1) := by decide +kernel
theorem dX7_town_29 : decode cX7_town 29 = .ok (.putfield 72, 3) := by decide +kernel
theorem dX7_town_32 : decode cX7_town 32 = .ok (.aload_n 0, 1) := by decide +kernel
theorem dX7_town_33 : decode cX7_town 33 = .ok (.iconst 0, 1) := by decide +kernel
theorem dX7_town_34 : decode cX7_town 34 = .ok (.putfield 88, 3) := by decide +kernel
theorem dX7_town_37 : decode cX7_town 37 = .ok (.aload_n 0, 1) := by decide +kernel
theorem dX7_town_38 : decode cX7_town 38 = .ok (.invokevirtual 106, 3) := by decide +kernel
theorem dX7_town_41 : decode cX7_town 41 = .ok (.iconst 0, 1) := by decide +kernel
theorem dX7_town_42 : decode cX7_town 42 = .ok (.istore_n 1, 1) := by decide +kernel
theorem dX7_town_43 : decode cX7_town 43 = .ok (.iconst 1, 1) := by decide +kernel
theorem dX7_town_44 : decode cX7_town 44 = .ok (.istore_n 2, 1) := by decide +kernel
theorem dX7_town_45 : decode cX7_town 45 = .ok (.iload_n 2, 1) := by decide +kernel
theorem dX7_town_46 : decode cX7_town 46 = .ok (.ifCond .eq 28, 3) := by decide +kernel
theorem dX7_town_49 : decode cX7_town 49 = .ok (.aload_n 0, 1) := by decide +kernel
theorem dX7_town_50 : decode cX7_town 50 = .ok (.invokevirtual 163, 3) := by decide +kernel
theorem dX7_town_53 : decode cX7_town 53 = .ok (.iinc 1 1, 3) := by decide +kernel
theorem dX7_town_56 : decode cX7_town 56 = .ok (.aload_n 0, 1) := by decide +kernel
theorem dX7_town_57 : decode cX7_town 57 = .ok (.bipush 59, 2) := by decide +kernel
theorem dX7_town_59 : decode cX7_town 59 = .ok (.invokevirtual 131, 3) := by decide +kernel
theorem dX7_town_62 : decode cX7_town 62 = .ok (.istore_n 2, 1) := by decide +kernel
theorem dX7_town_63 : decode cX7_town 63 = .ok (.iload_n 2, 1) := by decide +kernel
theorem dX7_town_64 : decode cX7_town 64 = .ok (.ifCond .eq (-19), 3) := by decide +kernel
theorem dX7_town_67 : decode cX7_town 67 = .ok (.aload_n 0, 1) := by decide +kernel
theorem dX7_town_68 : decode cX7_town 68 = .ok (.invokevirtual 106, 3) := by decide +kernel
theorem dX7_town_71 : decode cX7_town 71 = .ok (.goto (-26), 3) := by decide +kernel
theorem dX7_town_74 : decode cX7_town 74 = .ok (.aload_n 0, 1) := by decide +kernel
theorem dX7_town_75 : decode cX7_town 75 = .ok (.aload_n 0, 1) := by decide +kernel
theorem dX7_town_76 : decode cX7_town 76 = .ok (.getfield 88, 3) := by decide +kernel
theorem dX7_town_79 : decode cX7_town 79 = .ok (.ifCond .ne 10, 3) := by decide +kernel
theorem dX7_town_82 : decode cX7_town 82 = .ok (.aload_n 0, 1) := by decide +kernel
theorem dX7_town_83 : decode cX7_town 83 = .ok (.getfield 85, 3) := by decide +kernel
theorem dX7_town_86 : decode cX7_town 86 = .ok (.ifCond .eq 7, 3) := by decide +kernel
theorem dX7_town_89 : decode cX7_town 89 = .ok (.iconst 1, 1) := by decide +kernel
theorem dX7_town_90 : decode cX7_town 90 = .ok (.goto 4, 3) := by decide +kernel
theorem dX7_town_93 : decode cX7_town 93 = .ok (.iconst 0, 1) := by decide +kernel
theorem dX7_town_94 : decode cX7_town 94 = .ok (.putfield 88, 3) := by decide +kernel
theorem dX7_town_97 : decode cX7_town 97 = .ok (.aload_n 0, 1) := by decide +kernel
theorem dX7_town_98 : decode cX7_town 98 = .ok (.getfield 75, 3) := by decide +kernel
theorem dX7_town_101 : decode cX7_town 101 = .ok (.istore_n 3, 1) := by decide +kernel
theorem dX7_town_102 : decode cX7_town 102 = .ok (.aload_n 0, 1) := by decide +kernel
theorem dX7_town_103 : decode cX7_town 103 = .ok (.iconst 0, 1) := by decide +kernel
theorem dX7_town_104 : decode cX7_town 104 = .ok (.putfield 67, 3) := by decide +kernel
theorem dX7_town_107 : decode cX7_town 107 = .ok (.aload_n 0, 1) := by decide +kernel
theorem dX7_town_108 : decode cX7_town 108 = .ok (.getfield 88, 3) := by decide +kernel
theorem dX7_town_111 : decode cX7_town 111 = .ok (.ifCond .ne 5, 3) := by decide +kernel
theorem dX7_town_114 : decode cX7_town 114 = .ok (.iload_n 1, 1) := by decide +kernel
theorem dX7_town_115 : decode cX7_town 115 = .ok (.ireturn, 1) := by decide +kernel
theorem dX7_town_116 : decode cX7_town 116 = .ok (.iconst 0, 1) := by decide +kernel
theorem dX7_town_117 : decode cX7_town 117 = .ok (.istore 4, 2) := by decide +kernel
theorem dX7_town_119 : decode cX7_town 119 = .ok (.iload 4, 2) := by decide +kernel
theorem dX7_town_121 : decode cX7_town 121 = .ok (.sipush 247, 3) := by decide +kernel
theorem dX7_town_124 : decode cX7_town 124 = .ok (.if_icmp .ge 23, 3) := by decide +kernel
theorem dX7_town_127 : decode cX7_town 127 = .ok (.aload_n 0, 1) := by decide +kernel
theorem dX7_town_128 : decode cX7_town 128 = .ok (.getfield 9, 3) := by decide +kernel
theorem dX7_town_131 : decode cX7_town 131 = .ok (.iload 4, 2) := by decide +kernel
theorem dX7_town_133 : decode cX7_town 133 = .ok (.aload_n 0, 1) := by decide +kernel
theorem dX7_town_134 : decode cX7_town 134 = .ok (.getfield 22, 3) := by decide +kernel
theorem dX7_town_137 : decode cX7_town 137 = .ok (.iload 4, 2) := by decide +kernel
theorem dX7_town_139 : decode cX7_town 139 = .ok (.iaload, 1) := by decide +kernel
theorem dX7_town_140 : decode cX7_town 140 = .ok (.iastore, 1) := by decide +kernel
theorem dX7_town_141 : decode cX7_town 141 = .ok (.iinc 4 1, 3) := by decide +kernel
theorem dX7_town_144 : decode cX7_town 144 = .ok (.goto (-25), 3) := by decide +kernel
theorem dX7_town_147 : decode cX7_town 147 = .ok (.iconst (-1), 1) := by decide +kernel
theorem dX7_town_148 : decode cX7_town 148 = .ok (.iload_n 3, 1) := by decide +kernel
theorem dX7_town_149 : decode cX7_town 149 = .ok (.isub, 1) := by decide +kernel
theorem dX7_town_150 : decode cX7_town 150 = .ok (.ireturn, 1) := by decide +kernel
theorem dX7_round_0 : decode cX7_round 0 = .ok (.iload_n 1, 1) := by decide +kernel
theorem dX7_round_1 : decode cX7_round 1 = .ok (.i2l, 1) := by decide +kernel
theorem dX7_round_2 : decode cX7_round 2 = .ok (.lconst 1, 1) := by decide +kernel
theorem dX7_round_3 : decode cX7_round 3 = .ok (.ldc2_w 166, 3) := by decide +kernel
theorem dX7_round_6 : decode cX7_round 6 = .ok (.invokestatic 46, 3) := by decide +kernel
theorem dX7_round_9 : decode cX7_round 9 = .ok (.ifCond .eq 12, 3) := by decide +kernel
theorem dX7_round_12 : decode cX7_round 12 = .ok (.aload_n 0, 1) := by decide +kernel
theorem dX7_round_13 : decode cX7_round 13 = .ok (.iconst 0, 1) := by decide +kernel
theorem dX7_round_14 : decode cX7_round 14 = .ok (.iload_n 1, 1) := by decide +kernel
theorem dX7_round_15 : decode cX7_round 15 = .ok (.invokevirtual 168, 3) := by decide +kernel
theorem dX7_round_18 : decode cX7_round 18 = .ok (.goto 9, 3) := by decide +kernel
theorem dX7_round_21 : decode cX7_round 21 = .ok (.aload_n 0, 1) := by decide +kernel
theorem dX7_round_22 : decode cX7_round 22 = .ok (.ldc 40, 2) := by decide +kernel
theorem dX7_round_24 : decode cX7_round 24 = .ok (.invokevirtual 42, 3) := by decide +kernel
theorem dX7_round_27 : decode cX7_round 27 = .ok (.ireturn, 1) := by decide +kernel
theorem dX7_near_0 : decode cX7_near 0 = .ok (.iload_n 1, 1) := by decide +kernel
theorem dX7_near_1 : decode cX7_near 1 = .ok (.i2l, 1) := by decide +kernel
theorem dX7_near_2 : decode cX7_near 2 = .ok (.ldc2_w 171, 3) := by decide +kernel
theorem dX7_near_5 : decode cX7_near 5 = .ok (.ldc2_w 173, 3) := by decide +kernel
theorem dX7_near_8 : decode cX7_near 8 = .ok (.invokestatic 46, 3) := by decide +kernel
theorem dX7_near_11 : decode cX7_near 11 = .ok (.ifCond .eq 12, 3) := by decide +kernel
theorem dX7_near_14 : decode cX7_near 14 = .ok (.aload_n 0, 1) := by decide +kernel
theorem dX7_near_15 : decode cX7_near 15 = .ok (.iconst 1, 1) := by decide +kernel
theorem dX7_near_16 : decode cX7_near 16 = .ok (.iload_n 1, 1) := by decide +kernel
theorem dX7_near_17 : decode cX7_near 17 = .ok (.invokevirtual 168, 3) := by decide +kernel
theorem dX7_near_20 : decode cX7_near 20 = .ok (.goto 9, 3) := by decide +kernel
theorem dX7_near_23 : decode cX7_near 23 = .ok (.aload_n 0, 1) := by decide +kernel
theorem dX7_near_24 : decode cX7_near 24 = .ok (.ldc 40, 2) := by decide +kernel
theorem dX7_near_26 : decode cX7_near 26 = .ok (.invokevirtual 42, 3) := by decide +kernel
theorem dX7_near_29 : decode cX7_near 29 = .ok (.ireturn, 1) := by decide +kernel
theorem dX7_tool_0 : decode cX7_tool 0 = .ok (.iload_n 1, 1) := by decide +kernel
theorem dX7_tool_1 : decode cX7_tool 1 = .ok (.i2l, 1) := by decide +kernel
theorem dX7_tool_2 : decode cX7_tool 2 = .ok (.lconst 0, 1) := by decide +kernel
theorem dX7_tool_3 : decode cX7_tool 3 = .ok (.ldc2_w 175, 3) := by decide +kernel
theorem dX7_tool_6 : decode cX7_tool 6 = .ok (.invokestatic 46, 3) := by decide +kernel
theorem dX7_tool_9 : decode cX7_tool 9 = .ok (.ifCond .ne 10, 3) := by decide +kernel
theorem dX7_tool_12 : decode cX7_tool 12 = .ok (.aload_n 0, 1) := by decide +kernel
theorem dX7_tool_13 : decode cX7_tool 13 = .ok (.ldc 40, 2) := by decide +kernel
theorem dX7_tool_15 : decode cX7_tool 15 = .ok (.invokevirtual 42, 3) := by decide +kernel
theorem dX7_tool_18 : decode cX7_tool 18 = .ok (.ireturn, 1) := by decide +kernel
theorem dX7_tool_19 : decode cX7_tool 19 = .ok (.aload_n 0, 1) := by decide +kernel
theorem dX7_tool_20 : decode cX7_tool 20 = .ok (.getfield 9, 3) := by decide +kernel
theorem dX7_tool_23 : decode cX7_tool 23 = .ok (.iconst 2, 1) := by decide +kernel
theorem dX7_tool_24 : decode cX7_tool 24 = .ok (.iaload, 1) := by decide +kernel
theorem dX7_tool_25 : decode cX7_tool 25 = .ok (.bipush 8, 2) := by decide +kernel
theorem dX7_tool_27 : decode cX7_tool 27 = .ok (.if_icmp .ne 10, 3) := by decide +kernel
theorem dX7_tool_30 : decode cX7_tool 30 = .ok (.aload_n 0, 1) := by decide +kernel
theorem dX7_tool_31 : decode cX7_tool 31 = .ok (.ldc 71, 2) := by decide +kernel
theorem dX7_tool_33 : decode cX7_tool 33 = .ok (.invokevirtual 42, 3) := by decide +kernel
theorem dX7_tool_36 : decode cX7_tool 36 = .ok (.ireturn, 1) := by decide +kernel
theorem dX7_tool_37 : decode cX7_tool 37 = .ok (.aload_n 0, 1) := by decide +kernel
theorem dX7_tool_38 : decode cX7_tool 38 = .ok (.getfield 9, 3) := by decide +kernel
theorem dX7_tool_41 : decode cX7_tool 41 = .ok (.bipush 6, 2) := by decide +kernel
theorem dX7_tool_43 : decode cX7_tool 43 = .ok (.aload_n 0, 1) := by decide +kernel
theorem dX7_tool_44 : decode cX7_tool 44 = .ok (.getfield 9, 3) := by decide +kernel
theorem dX7_tool_47 : decode cX7_tool 47 = .ok (.iconst 2, 1) := by decide +kernel
theorem dX7_tool_48 : decode cX7_tool 48 = .ok (.iaload, 1) := by decide +kernel
theorem dX7_tool_49 : decode cX7_tool 49 = .ok (.iadd, 1) := by decide +kernel
theorem dX7_tool_50 : decode cX7_tool 50 = .ok (.iload_n 1, 1) := by decide +kernel
theorem dX7_tool_51 : decode cX7_tool 51 = .ok (.iastore, 1) := by decide +kernel
theorem dX7_tool_52 : decode cX7_tool 52 = .ok (.aload_n 0, 1) := by decide +kernel
theorem dX7_tool_53 : decode cX7_tool 53 = .ok (.getfield 9, 3) := by decide +kernel
theorem dX7_tool_56 : decode cX7_tool 56 = .ok (.iconst 2, 1) := by decide +kernel
theorem dX7_tool_57 : decode cX7_tool 57 = .ok (.dup2, 1) := by decide +kernel
theorem dX7_tool_58 : decode cX7_tool 58 = .ok (.iaload, 1) := by decide +kernel
theorem dX7_tool_59 : decode cX7_tool 59 = .ok (.iconst 1, 1) := by decide +kernel
theorem dX7_tool_60 : decode cX7_tool 60 = .ok (.iadd, 1) := by decide +kernel
theorem dX7_tool_61 : decode cX7_tool 61 = .ok (.iastore, 1) := by decide +kernel
theorem dX7_tool_62 : decode cX7_tool 62 = .ok (.aload_n 0, 1) := by decide +kernel
theorem dX7_tool_63 : decode cX7_tool 63 = .ok (.getfield 9, 3) := by decide +kernel
theorem dX7_tool_66 : decode cX7_tool 66 = .ok (.iconst 2, 1) := by decide +kernel
theorem dX7_tool_67 : decode cX7_tool 67 = .ok (.iaload, 1) := by decide +kernel
theorem dX7_tool_68 : decode cX7_tool 68 = .ok (.iconst 1, 1) := by decide +kernel
theorem dX7_tool_69 : decode cX7_tool 69 = .ok (.isub, 1) := by decide +kernel
theorem dX7_tool_70 : decode cX7_tool 70 = .ok (.ireturn, 1) := by decide +kernel
theorem dX7_days_0 : decode cX7_days 0 = .ok (.aload_n 0, 1) := by decide +kernel
theorem dX7_days_1 : decode cX7_days 1 = .ok (.iload_n 1, 1) := by decide +kernel
theorem dX7_days_2 : decode cX7_days 2 = .ok (.invokevirtual 177, 3) := by decide +kernel
theorem dX7_days_5 : decode cX7_days 5 = .ok (.ifCond .eq 27, 3) := by decide +kernel
theorem dX7_days_8 : decode cX7_days 8 = .ok (.iload_n 2, 1) := by decide +kernel
theorem dX7_days_9 : decode cX7_days 9 = .ok (.i2l, 1) := by decide +kernel
theorem dX7_days_10 : decode cX7_days 10 = .ok (.lconst 0, 1) := by decide +kernel
theorem dX7_days_11 : decode cX7_days 11 = .ok (.ldc2_w 175, 3) := by decide +kernel
theorem dX7_days_14 : decode cX7_days 14 = .ok (.invokestatic 46, 3) := by decide +kernel
theorem dX7_days_17 : decode cX7_days 17 = .ok (.ifCond .eq 15, 3) := by decide +kernel
theorem dX7_days_20 : decode cX7_days 20 = .ok (.aload_n 0, 1) := by decide +kernel
theorem dX7_days_21 : decode cX7_days 21 = .ok (.bipush 6, 2) := by decide +kernel
theorem dX7_days_23 : decode cX7_days 23 = .ok (.iload_n 1, 1) := by decide +kernel
theorem dX7_days_24 : decode cX7_days 24 = .ok (.iadd, 1) := by decide +kernel
theorem dX7_days_25 : decode cX7_days 25 = .ok (.iload_n 2, 1) := by decide +kernel
theorem dX7_days_26 : decode cX7_days 26 = .ok (.invokevirtual 168, 3) := by decide +kernel
theorem dX7_days_29 : decode cX7_days 29 = .ok (.goto 9, 3) := by decide +kernel
theorem dX7_days_32 : decode cX7_days 32 = .ok (.aload_n 0, 1) := by decide +kernel
theorem dX7_days_33 : decode cX7_days 33 = .ok (.ldc 40, 2) := by decide +kernel
theorem dX7_days_35 : decode cX7_days 35 = .ok (.invokevirtual 42, 3) := by decide +kernel
theorem dX7_days_38 : decode cX7_days 38 = .ok (.ireturn, 1) := by decide +kernel
theorem dX7_mayBe_0 : decode cX7_mayBe 0 = .ok (.aload_n 0, 1) := by decide +kernel
theorem dX7_mayBe_1 : decode cX7_mayBe 1 = .ok (.getfield 9, 3) := by decide +kernel
theorem dX7_mayBe_4 : decode cX7_mayBe 4 = .ok (.bipush 6, 2) := by decide +kernel
theorem dX7_mayBe_6 : decode cX7_mayBe 6 = .ok (.iload_n 1, 1) := by decide +kernel
theorem dX7_mayBe_7 : decode cX7_mayBe 7 = .ok (.iadd, 1) := by decide +kernel
theorem dX7_mayBe_8 : decode cX7_mayBe 8 = .ok (.iaload, 1) := by decide +kernel
theorem dX7_mayBe_9 : decode cX7_mayBe 9 = .ok (.iload_n 2, 1) := by decide +kernel
theorem dX7_mayBe_10 : decode cX7_mayBe 10 = .ok (.aload_n 0, 1) := by decide +kernel
theorem dX7_mayBe_11 : decode cX7_mayBe 11 = .ok (.getfield 9, 3) := by decide +kernel
theorem dX7_mayBe_14 : decode cX7_mayBe 14 = .ok (.iconst 0, 1) := by decide +kernel
theorem dX7_mayBe_15 : decode cX7_mayBe 15 = .ok (.iaload, 1) := by decide +kernel
theorem dX7_mayBe_16 : decode cX7_mayBe 16 = .ok (.irem, 1) := by decide +kernel
theorem dX7_mayBe_17 : decode cX7_mayBe 17 = .ok (.invokestatic 180, 3) := by decide +kernel
theorem dX7_mayBe_20 : decode cX7_mayBe 20 = .ok (.ireturn, 1) := by decide +kernel
theorem dX7_mayNear_0 : decode cX7_mayNear 0 = .ok (.aload_n 0, 1) := by decide +kernel
theorem dX7_mayNear_1 : decode cX7_mayNear 1 = .ok (.getfield 9, 3) := by decide +kernel
theorem dX7_mayNear_4 : decode cX7_mayNear 4 = .ok (.iconst 1, 1) := by decide +kernel
theorem dX7_mayNear_5 : decode cX7_mayNear 5 = .ok (.iaload, 1) := by decide +kernel
theorem dX7_mayNear_6 : decode cX7_mayNear 6 = .ok (.ifCond .lt 23, 3) := by decide +kernel
theorem dX7_mayNear_9 : decode cX7_mayNear 9 = .ok (.aload_n 0, 1) := by decide +kernel
theorem dX7_mayNear_10 : decode cX7_mayNear 10 = .ok (.iload_n 1, 1) := by decide +kernel
theorem dX7_mayNear_11 : decode cX7_mayNear 11 = .ok (.iload_n 2, 1) := by decide +kernel
theorem dX7_mayNear_12 : decode cX7_mayNear 12 = .ok (.aload_n 0, 1) := by decide +kernel
theorem dX7_mayNear_13 : decode cX7_mayNear 13 = .ok (.getfield 9, 3) := by decide +kernel
theorem dX7_mayNear_16 : decode cX7_mayNear 16 = .ok (.iconst 1, 1) := by decide +kernel
theorem dX7_mayNear_17 : decode cX7_mayNear 17 = .ok (.iaload, 1) := by decide +kernel
theorem dX7_mayNear_18 : decode cX7_mayNear 18 = .ok (.iadd, 1) := by decide +kernel
theorem dX7_mayNear_19 : decode cX7_mayNear 19 = .ok (.invokevirtual 184, 3) := by decide +kernel
theorem dX7_mayNear_22 : decode cX7_mayNear 22 = .ok (.ifCond .eq 7, 3) := by decide +kernel
theorem dX7_mayNear_25 : decode cX7_mayNear 25 = .ok (.iconst 1, 1) := by decide +kernel
theorem dX7_mayNear_26 : decode cX7_mayNear 26 = .ok (.goto 4, 3) := by decide +kernel
theorem dX7_mayNear_29 : decode cX7_mayNear 29 = .ok (.iconst 0, 1) := by decide +kernel
theorem dX7_mayNear_30 : decode cX7_mayNear 30 = .ok (.ireturn, 1) := by decide +kernel
theorem dX7_may_0 : decode cX7_may 0 = .ok (.aload_n 0, 1) := by decide +kernel
theorem dX7_may_1 : decode cX7_may 1 = .ok (.iload_n 1, 1) := by decide +kernel
theorem dX7_may_2 : decode cX7_may 2 = .ok (.invokevirtual 177, 3) := by decide +kernel
theorem dX7_may_5 : decode cX7_may 5 = .ok (.ifCond .eq 10, 3) := by decide +kernel
theorem dX7_may_8 : decode cX7_may 8 = .ok (.iload_n 2, 1) := by decide +kernel
theorem dX7_may_9 : decode cX7_may 9 = .ok (.invokestatic 187, 3) := by decide +kernel
theorem dX7_may_12 : decode cX7_may 12 = .ok (.ifCond .ne 10, 3) := by decide +kernel
theorem dX7_may_15 : decode cX7_may 15 = .ok (.aload_n 0, 1) := by decide +kernel
theorem dX7_may_16 : decode cX7_may 16 = .ok (.ldc 40, 2) := by decide +kernel
theorem dX7_may_18 : decode cX7_may 18 = .ok (.invokevirtual 42, 3) := by decide +kernel
theorem dX7_may_21 : decode cX7_may 21 = .ok (.ireturn, 1) := by decide +kernel
theorem dX7_may_22 : decode cX7_may 22 = .ok (.aload_n 0, 1) := by decide +kernel
theorem dX7_may_23 : decode cX7_may 23 = .ok (.iload_n 1, 1) := by decide +kernel
theorem dX7_may_24 : decode cX7_may 24 = .ok (.iload_n 2, 1) := by decide +kernel
theorem dX7_may_25 : decode cX7_may 25 = .ok (.invokevirtual 184, 3) := by decide +kernel
theorem dX7_may_28 : decode cX7_may 28 = .ok (.ifCond .eq 7, 3) := by decide +kernel
theorem dX7_may_31 : decode cX7_may 31 = .ok (.iconst 2, 1) := by decide +kernel
theorem dX7_may_32 : decode cX7_may 32 = .ok (.goto 17, 3) := by decide +kernel
theorem dX7_may_35 : decode cX7_may 35 = .ok (.aload_n 0, 1) := by decide +kernel
theorem dX7_may_36 : decode cX7_may 36 = .ok (.iload_n 1, 1) := by decide +kernel
theorem dX7_may_37 : decode cX7_may 37 = .ok (.iload_n 2, 1) := by decide +kernel
theorem dX7_may_38 : decode cX7_may 38 = .ok (.invokevirtual 190, 3) := by decide +kernel
theorem dX7_may_41 : decode cX7_may 41 = .ok (.ifCond .eq 7, 3) := by decide +kernel
theorem dX7_may_44 : decode cX7_may 44 = .ok (.iconst 1, 1) := by decide +kernel
theorem dX7_may_45 : decode cX7_may 45 = .ok (.goto 4, 3) := by decide +kernel
theorem dX7_may_48 : decode cX7_may 48 = .ok (.iconst 0, 1) := by decide +kernel
theorem dX7_may_49 : decode cX7_may 49 = .ok (.ireturn, 1) := by decide +kernel
theorem dX7_thing_0 : decode cX7_thing 0 = .ok (.iload_n 1, 1) := by decide +kernel
theorem dX7_thing_1 : decode cX7_thing 1 = .ok (.invokestatic 193, 3) := by decide +kernel
theorem dX7_thing_4 : decode cX7_thing 4 = .ok (.ifCond .eq 23, 3) := by decide +kernel
theorem dX7_thing_7 : decode cX7_thing 7 = .ok (.aload_n 0, 1) := by decide +kernel
theorem dX7_thing_8 : decode cX7_thing 8 = .ok (.iload_n 2, 1) := by decide +kernel
theorem dX7_thing_9 : decode cX7_thing 9 = .ok (.invokevirtual 177, 3) := by decide +kernel
theorem dX7_thing_12 : decode cX7_thing 12 = .ok (.ifCond .eq 15, 3) := by decide +kernel
theorem dX7_thing_15 : decode cX7_thing 15 = .ok (.iload_n 3, 1) := by decide +kernel
theorem dX7_thing_16 : decode cX7_thing 16 = .ok (.i2l, 1) := by decide +kernel
theorem dX7_thing_17 : decode cX7_thing 17 = .ok (.lconst 1, 1) := by decide +kernel
theorem dX7_thing_18 : decode cX7_thing 18 = .ok (.ldc2_w 196, 3) := by decide +kernel
theorem dX7_thing_21 : decode cX7_thing 21 = .ok (.invokestatic 46, 3) := by decide +kernel
theorem dX7_thing_24 : decode cX7_thing 24 = .ok (.ifCond .ne 10, 3) := by decide +kernel
theorem dX7_thing_27 : decode cX7_thing 27 = .ok (.aload_n 0, 1) := by decide +kernel
theorem dX7_thing_28 : decode cX7_thing 28 = .ok (.ldc 40, 2) := by decide +kernel
theorem dX7_thing_30 : decode cX7_thing 30 = .ok (.invokevirtual 42, 3) := by decide +kernel
theorem dX7_thing_33 : decode cX7_thing 33 = .ok (.ireturn, 1) := by decide +kernel
theorem dX7_thing_34 : decode cX7_thing 34 = .ok (.aload_n 0, 1) := by decide +kernel
theorem dX7_thing_35 : decode cX7_thing 35 = .ok (.getfield 9, 3) := by decide +kernel
theorem dX7_thing_38 : decode cX7_thing 38 = .ok (.iconst 3, 1) := by decide +kernel
theorem dX7_thing_39 : decode cX7_thing 39 = .ok (.iaload, 1) := by decide +kernel
theorem dX7_thing_40 : decode cX7_thing 40 = .ok (.bipush 8, 2) := by decide +kernel
theorem dX7_thing_42 : decode cX7_thing 42 = .ok (.if_icmp .ne 10, 3) := by decide +kernel
theorem dX7_thing_45 : decode cX7_thing 45 = .ok (.aload_n 0, 1) := by decide +kernel
theorem dX7_thing_46 : decode cX7_thing 46 = .ok (.ldc 71, 2) := by decide +kernel
theorem dX7_thing_48 : decode cX7_thing 48 = .ok (.invokevirtual 42, 3) := by decide +kernel
theorem dX7_thing_51 : decode cX7_thing 51 = .ok (.ireturn, 1) := by decide +kernel
theorem dX7_thing_52 : decode cX7_thing 52 = .ok (.aload_n 0, 1) := by decide +kernel
theorem dX7_thing_53 : decode cX7_thing 53 = .ok (.getfield 9, 3) := by decide +kernel
theorem dX7_thing_56 : decode cX7_thing 56 = .ok (.iconst 3, 1) := by decide +kernel
theorem dX7_thing_57 : decode cX7_thing 57 = .ok (.iaload, 1) := by decide +kernel
theorem dX7_thing_58 : decode cX7_thing 58 = .ok (.istore 4, 2) := by decide +kernel
theorem dX7_thing_60 : decode cX7_thing 60 = .ok (.aload_n 0, 1) := by decide +kernel
theorem dX7_thing_61 : decode cX7_thing 61 = .ok (.getfield 9, 3) := by decide +kernel
theorem dX7_thing_64 : decode cX7_thing 64 = .ok (.bipush 14, 2) := by decide +kernel
theorem dX7_thing_66 : decode cX7_thing 66 = .ok (.bipush 26, 2) := by decide +kernel
theorem dX7_thing_68 : decode cX7_thing 68 = .ok (.iload 4, 2) := by decide +kernel
theorem dX7_thing_70 : decode cX7_thing 70 = .ok (.imul, 1) := by decide +kernel
theorem dX7_thing_71 : decode cX7_thing 71 = .ok (.iadd, 1) := by decide +kernel
theorem dX7_thing_72 : decode cX7_thing 72 = .ok (.iload_n 1, 1) := by decide +kernel
theorem dX7_thing_73 : decode cX7_thing 73 = .ok (.iastore, 1) := by decide +kernel
theorem dX7_thing_74 : decode cX7_thing 74 = .ok (.aload_n 0, 1) := by decide +kernel
theorem dX7_thing_75 : decode cX7_thing 75 = .ok (.getfield 9, 3) := by decide +kernel
theorem dX7_thing_78 : decode cX7_thing 78 = .ok (.bipush 14, 2) := by decide +kernel
theorem dX7_thing_80 : decode cX7_thing 80 = .ok (.bipush 26, 2) := by decide +kernel
theorem dX7_thing_82 : decode cX7_thing 82 = .ok (.iload 4, 2) := by decide +kernel
theorem dX7_thing_84 : decode cX7_thing 84 = .ok (.imul, 1) := by decide +kernel
theorem dX7_thing_85 : decode cX7_thing 85 = .ok (.iadd, 1) := by decide +kernel
theorem dX7_thing_86 : decode cX7_thing 86 = .ok (.iconst 1, 1) := by decide +kernel
theorem dX7_thing_87 : decode cX7_thing 87 = .ok (.iadd, 1) := by decide +kernel
theorem dX7_thing_88 : decode cX7_thing 88 = .ok (.iconst 1, 1) := by decide +kernel
theorem dX7_thing_89 : decode cX7_thing 89 = .ok (.iastore, 1) := by decide +kernel
theorem dX7_thing_90 : decode cX7_thing 90 = .ok (.aload_n 0, 1) := by decide +kernel
theorem dX7_thing_91 : decode cX7_thing 91 = .ok (.getfield 9, 3) := by decide +kernel
theorem dX7_thing_94 : decode cX7_thing 94 = .ok (.iload 4, 2) := by decide +kernel
theorem dX7_thing_96 : decode cX7_thing 96 = .ok (.iconst 0, 1) := by decide +kernel
theorem dX7_thing_97 : decode cX7_thing 97 = .ok (.iconst 0, 1) := by decide +kernel
theorem dX7_thing_98 : decode cX7_thing 98 = .ok (.invokestatic 54, 3) := by decide +kernel
theorem dX7_thing_101 : decode cX7_thing 101 = .ok (.iload_n 2, 1) := by decide +kernel
theorem dX7_thing_102 : decode cX7_thing 102 = .ok (.iastore, 1) := by decide +kernel
theorem dX7_thing_103 : decode cX7_thing 103 = .ok (.aload_n 0, 1) := by decide +kernel
theorem dX7_thing_104 : decode cX7_thing 104 = .ok (.getfield 9, 3) := by decide +kernel
theorem dX7_thing_107 : decode cX7_thing 107 = .ok (.iload 4, 2) := by decide +kernel
theorem dX7_thing_109 : decode cX7_thing 109 = .ok (.iconst 0, 1) := by decide +kernel
theorem dX7_thing_110 : decode cX7_thing 110 = .ok (.iconst 1, 1) := by decide +kernel
theorem dX7_thing_111 : decode cX7_thing 111 = .ok (.invokestatic 54, 3) := by decide +kernel
theorem dX7_thing_114 : decode cX7_thing 114 = .ok (.iload_n 3, 1) := by decide +kernel
theorem dX7_thing_115 : decode cX7_thing 115 = .ok (.iastore, 1) := by decide +kernel
theorem dX7_thing_116 : decode cX7_thing 116 = .ok (.aload_n 0, 1) := by decide +kernel
theorem dX7_thing_117 : decode cX7_thing 117 = .ok (.getfield 9, 3) := by decide +kernel
theorem dX7_thing_120 : decode cX7_thing 120 = .ok (.iload 4, 2) := by decide +kernel
theorem dX7_thing_122 : decode cX7_thing 122 = .ok (.iconst 0, 1) := by decide +kernel
theorem dX7_thing_123 : decode cX7_thing 123 = .ok (.iconst 2, 1) := by decide +kernel
theorem dX7_thing_124 : decode cX7_thing 124 = .ok (.invokestatic 54, 3) := by decide +kernel
theorem dX7_thing_127 : decode cX7_thing 127 = .ok (.bipush 99, 2) := by decide +kernel
theorem dX7_thing_129 : decode cX7_thing 129 = .ok (.iastore, 1) := by decide +kernel
theorem dX7_thing_130 : decode cX7_thing 130 = .ok (.aload_n 0, 1) := by decide +kernel
theorem dX7_thing_131 : decode cX7_thing 131 = .ok (.getfield 9, 3) := by decide +kernel
theorem dX7_thing_134 : decode cX7_thing 134 = .ok (.iconst 3, 1) := by decide +kernel
theorem dX7_thing_135 : decode cX7_thing 135 = .ok (.dup2, 1) := by decide +kernel
theorem dX7_thing_136 : decode cX7_thing 136 = .ok (.iaload, 1) := by decide +kernel
theorem dX7_thing_137 : decode cX7_thing 137 = .ok (.iconst 1, 1) := by decide +kernel
theorem dX7_thing_138 : decode cX7_thing 138 = .ok (.iadd, 1) := by decide +kernel
theorem dX7_thing_139 : decode cX7_thing 139 = .ok (.iastore, 1) := by decide +kernel
theorem dX7_thing_140 : decode cX7_thing 140 = .ok (.iload 4, 2) := by decide +kernel
theorem dX7_thing_142 : decode cX7_thing 142 = .ok (.ireturn, 1) := by decide +kernel
theorem dX7_step_0 : decode cX7_step 0 = .ok (.aload_n 0, 1) := by decide +kernel
theorem dX7_step_1 : decode cX7_step 1 = .ok (.iload_n 1, 1) := by decide +kernel
theorem dX7_step_2 : decode cX7_step 2 = .ok (.invokevirtual 58, 3) := by decide +kernel
theorem dX7_step_5 : decode cX7_step 5 = .ok (.ifCond .eq 36, 3) := by decide +kernel
theorem dX7_step_8 : decode cX7_step 8 = .ok (.aload_n 0, 1) := by decide +kernel
theorem dX7_step_9 : decode cX7_step 9 = .ok (.iload_n 2, 1) := by decide +kernel
theorem dX7_step_10 : decode cX7_step 10 = .ok (.invokevirtual 177, 3) := by decide +kernel
theorem dX7_step_13 : decode cX7_step 13 = .ok (.ifCond .eq 28, 3) := by decide +kernel
theorem dX7_step_16 : decode cX7_step 16 = .ok (.iload_n 3, 1) := by decide +kernel
theorem dX7_step_17 : decode cX7_step 17 = .ok (.i2l, 1) := by decide +kernel
theorem dX7_step_18 : decode cX7_step 18 = .ok (.lconst 1, 1) := by decide +kernel
theorem dX7_step_19 : decode cX7_step 19 = .ok (.ldc2_w 196, 3) := by decide +kernel
theorem dX7_step_22 : decode cX7_step 22 = .ok (.invokestatic 46, 3) := by decide +kernel
theorem dX7_step_25 : decode cX7_step 25 = .ok (.ifCond .eq 16, 3) := by decide +kernel
theorem dX7_step_28 : decode cX7_step 28 = .ok (.iload 4, 2) := by decide +kernel
theorem dX7_step_30 : decode cX7_step 30 = .ok (.i2l, 1) := by decide +kernel
theorem dX7_step_31 : decode cX7_step 31 = .ok (.lconst 0, 1) := by decide +kernel
theorem dX7_step_32 : decode cX7_step 32 = .ok (.ldc2_w 198, 3) := by decide +kernel
theorem dX7_step_35 : decode cX7_step 35 = .ok (.invokestatic 46, 3) := by decide +kernel
theorem dX7_step_38 : decode cX7_step 38 = .ok (.ifCond .ne 10, 3) := by decide +kernel
theorem dX7_step_41 : decode cX7_step 41 = .ok (.aload_n 0, 1) := by decide +kernel
theorem dX7_step_42 : decode cX7_step 42 = .ok (.ldc 40, 2) := by decide +kernel
theorem dX7_step_44 : decode cX7_step 44 = .ok (.invokevirtual 42, 3) := by decide +kernel
theorem dX7_step_47 : decode cX7_step 47 = .ok (.ireturn, 1) := by decide +kernel
theorem dX7_step_48 : decode cX7_step 48 = .ok (.aload_n 0, 1) := by decide +kernel
theorem dX7_step_49 : decode cX7_step 49 = .ok (.iload_n 1, 1) := by decide +kernel
theorem dX7_step_50 : decode cX7_step 50 = .ok (.invokevirtual 62, 3) := by decide +kernel
theorem dX7_step_53 : decode cX7_step 53 = .ok (.istore 5, 2) := by decide +kernel
theorem dX7_step_55 : decode cX7_step 55 = .ok (.iload 5, 2) := by decide +kernel
theorem dX7_step_57 : decode cX7_step 57 = .ok (.bipush 8, 2) := by decide +kernel
theorem dX7_step_59 : decode cX7_step 59 = .ok (.if_icmp .ne 10, 3) := by decide +kernel
theorem dX7_step_62 : decode cX7_step 62 = .ok (.aload_n 0, 1) := by decide +kernel
theorem dX7_step_63 : decode cX7_step 63 = .ok (.ldc 71, 2) := by decide +kernel
theorem dX7_step_65 : decode cX7_step 65 = .ok (.invokevirtual 42, 3) := by decide +kernel
theorem dX7_step_68 : decode cX7_step 68 = .ok (.ireturn, 1) := by decide +kernel
theorem dX7_step_69 : decode cX7_step 69 = .ok (.aload_n 0, 1) := by decide +kernel
theorem dX7_step_70 : decode cX7_step 70 = .ok (.getfield 9, 3) := by decide +kernel
theorem dX7_step_73 : decode cX7_step 73 = .ok (.iload_n 1, 1) := by decide +kernel
theorem dX7_step_74 : decode cX7_step 74 = .ok (.iload 5, 2) := by decide +kernel
theorem dX7_step_76 : decode cX7_step 76 = .ok (.iconst 0, 1) := by decide +kernel
theorem dX7_step_77 : decode cX7_step 77 = .ok (.invokestatic 54, 3) := by decide +kernel
theorem dX7_step_80 : decode cX7_step 80 = .ok (.iload_n 2, 1) := by decide +kernel
theorem dX7_step_81 : decode cX7_step 81 = .ok (.iastore, 1) := by decide +kernel
theorem dX7_step_82 : decode cX7_step 82 = .ok (.aload_n 0, 1) := by decide +kernel
theorem dX7_step_83 : decode cX7_step 83 = .ok (.getfield 9, 3) := by decide +kernel
theorem dX7_step_86 : decode cX7_step 86 = .ok (.iload_n 1, 1) := by decide +kernel
theorem dX7_step_87 : decode cX7_step 87 = .ok (.iload 5, 2) := by decide +kernel
theorem dX7_step_89 : decode cX7_step 89 = .ok (.iconst 1, 1) := by decide +kernel
theorem dX7_step_90 : decode cX7_step 90 = .ok (.invokestatic 54, 3) := by decide +kernel
theorem dX7_step_93 : decode cX7_step 93 = .ok (.iload_n 3, 1) := by decide +kernel
theorem dX7_step_94 : decode cX7_step 94 = .ok (.iastore, 1) := by decide +kernel
theorem dX7_step_95 : decode cX7_step 95 = .ok (.aload_n 0, 1) := by decide +kernel
theorem dX7_step_96 : decode cX7_step 96 = .ok (.getfield 9, 3) := by decide +kernel
theorem dX7_step_99 : decode cX7_step 99 = .ok (.iload_n 1, 1) := by decide +kernel
theorem dX7_step_100 : decode cX7_step 100 = .ok (.iload 5, 2) := by decide +kernel
theorem dX7_step_102 : decode cX7_step 102 = .ok (.iconst 2, 1) := by decide +kernel
theorem dX7_step_103 : decode cX7_step 103 = .ok (.invokestatic 54, 3) := by decide +kernel
theorem dX7_step_106 : decode cX7_step 106 = .ok (.iload 4, 2) := by decide +kernel
theorem dX7_step_108 : decode cX7_step 108 = .ok (.iastore, 1) := by decide +kernel
theorem dX7_step_109 : decode cX7_step 109 = .ok (.aload_n 0, 1) := by decide +kernel
theorem dX7_step_110 : decode cX7_step 110 = .ok (.getfield 9, 3) := by decide +kernel
theorem dX7_step_113 : decode cX7_step 113 = .ok (.bipush 14, 2) := by decide +kernel
theorem dX7_step_115 : decode cX7_step 115 = .ok (.bipush 26, 2) := by decide +kernel
theorem dX7_step_117 : decode cX7_step 117 = .ok (.iload_n 1, 1) := by decide +kernel
theorem dX7_step_118 : decode cX7_step 118 = .ok (.imul, 1) := by decide +kernel
theorem dX7_step_119 : decode cX7_step 119 = .ok (.iadd, 1) := by decide +kernel
theorem dX7_step_120 : decode cX7_step 120 = .ok (.iconst 1, 1) := by decide +kernel
theorem dX7_step_121 : decode cX7_step 121 = .ok (.iadd, 1) := by decide +kernel
theorem dX7_step_122 : decode cX7_step 122 = .ok (.iload 5, 2) := by decide +kernel
theorem dX7_step_124 : decode cX7_step 124 = .ok (.iconst 1, 1) := by decide +kernel
theorem dX7_step_125 : decode cX7_step 125 = .ok (.iadd, 1) := by decide +kernel
theorem dX7_step_126 : decode cX7_step 126 = .ok (.iastore, 1) := by decide +kernel
theorem dX7_step_127 : decode cX7_step 127 = .ok (.iload 5, 2) := by decide +kernel
theorem dX7_step_129 : decode cX7_step 129 = .ok (.iconst 1, 1) := by decide +kernel
theorem dX7_step_130 : decode cX7_step 130 = .ok (.iadd, 1) := by decide +kernel
theorem dX7_step_131 : decode cX7_step 131 = .ok (.ireturn, 1) := by decide +kernel
theorem dX7_thingOf_0 : decode cX7_thingOf 0 = .ok (.aload_n 0, 1) := by decide +kernel
theorem dX7_thingOf_1 : decode cX7_thingOf 1 = .ok (.iload_n 1, 1) := by decide +kernel
theorem dX7_thingOf_2 : decode cX7_thingOf 2 = .ok (.invokevirtual 58, 3) := by decide +kernel
theorem dX7_thingOf_5 : decode cX7_thingOf 5 = .ok (.ifCond .eq 36, 3) := by decide +kernel
theorem dX7_thingOf_8 : decode cX7_thingOf 8 = .ok (.iload_n 2, 1) := by decide +kernel
theorem dX7_thingOf_9 : decode cX7_thingOf 9 = .ok (.i2l, 1) := by decide +kernel
theorem dX7_thingOf_10 : decode cX7_thingOf 10 = .ok (.ldc2_w 200, 3) := by decide +kernel
theorem dX7_thingOf_13 : decode cX7_thingOf 13 = .ok (.ldc2_w 171, 3) := by decide +kernel
theorem dX7_thingOf_16 : decode cX7_thingOf 16 = .ok (.invokestatic 46, 3) := by decide +kernel
theorem dX7_thingOf_19 : decode cX7_thingOf 19 = .ok (.ifCond .eq 22, 3) := by decide +kernel
theorem dX7_thingOf_22 : decode cX7_thingOf 22 = .ok (.iload_n 2, 1) := by decide +kernel
theorem dX7_thingOf_23 : decode cX7_thingOf 23 = .ok (.iconst (-1), 1) := by decide +kernel
theorem dX7_thingOf_24 : decode cX7_thingOf 24 = .ok (.if_icmp .ne 11, 3) := by decide +kernel
theorem dX7_thingOf_27 : decode cX7_thingOf 27 = .ok (.aload_n 0, 1) := by decide +kernel
theorem dX7_thingOf_28 : decode cX7_thingOf 28 = .ok (.iload_n 1, 1) := by decide +kernel
theorem dX7_thingOf_29 : decode cX7_thingOf 29 = .ok (.invokevirtual 202, 3) := by decide +kernel
theorem dX7_thingOf_32 : decode cX7_thingOf 32 = .ok (.goto 8, 3) := by decide +kernel
theorem dX7_thingOf_35 : decode cX7_thingOf 35 = .ok (.aload_n 0, 1) := by decide +kernel
theorem dX7_thingOf_36 : decode cX7_thingOf 36 = .ok (.iload_n 1, 1) := by decide +kernel
theorem dX7_thingOf_37 : decode cX7_thingOf 37 = .ok (.invokevirtual 62, 3) := by decide +kernel
theorem dX7_thingOf_40 : decode cX7_thingOf 40 = .ok (.ireturn, 1) := by decide +kernel
theorem dX7_thingOf_41 : decode cX7_thingOf 41 = .ok (.aload_n 0, 1) := by decide +kernel
theorem dX7_thingOf_42 : decode cX7_thingOf 42 = .ok (.iload_n 1, 1) := by decide +kernel
theorem dX7_thingOf_43 : decode cX7_thingOf 43 = .ok (.iload_n 2, 1) := by decide +kernel
theorem dX7_thingOf_44 : decode cX7_thingOf 44 = .ok (.invokevirtual 205, 3) := by decide +kernel
theorem dX7_thingOf_47 : decode cX7_thingOf 47 = .ok (.ifCond .eq 25, 3) := by decide +kernel
theorem dX7_thingOf_50 : decode cX7_thingOf 50 = .ok (.iload_n 3, 1) := by decide +kernel
theorem dX7_thingOf_51 : decode cX7_thingOf 51 = .ok (.i2l, 1) := by decide +kernel
theorem dX7_thingOf_52 : decode cX7_thingOf 52 = .ok (.lconst 0, 1) := by decide +kernel
theorem dX7_thingOf_53 : decode cX7_thingOf 53 = .ok (.ldc2_w 208, 3) := by decide +kernel
theorem dX7_thingOf_56 : decode cX7_thingOf 56 = .ok (.invokestatic 46, 3) := by decide +kernel
theorem dX7_thingOf_59 : decode cX7_thingOf 59 = .ok (.ifCond .eq 13, 3) := by decide +kernel
theorem dX7_thingOf_62 : decode cX7_thingOf 62 = .ok (.aload_n 0, 1) := by decide +kernel
theorem dX7_thingOf_63 : decode cX7_thingOf 63 = .ok (.iload_n 1, 1) := by decide +kernel
theorem dX7_thingOf_64 : decode cX7_thingOf 64 = .ok (.iload_n 2, 1) := by decide +kernel
theorem dX7_thingOf_65 : decode cX7_thingOf 65 = .ok (.iload_n 3, 1) := by decide +kernel
theorem dX7_thingOf_66 : decode cX7_thingOf 66 = .ok (.invokevirtual 210, 3) := by decide +kernel
theorem dX7_thingOf_69 : decode cX7_thingOf 69 = .ok (.goto 9, 3) := by decide +kernel
theorem dX7_thingOf_72 : decode cX7_thingOf 72 = .ok (.aload_n 0, 1) := by decide +kernel
theorem dX7_thingOf_73 : decode cX7_thingOf 73 = .ok (.ldc 40, 2) := by decide +kernel
theorem dX7_thingOf_75 : decode cX7_thingOf 75 = .ok (.invokevirtual 42, 3) := by decide +kernel
theorem dX7_thingOf_78 : decode cX7_thingOf 78 = .ok (.ireturn, 1) := by decide +kernel
theorem dX7_turn_0 : decode cX7_turn 0 = .ok (.aload_n 0, 1) := by decide +kernel
theorem dX7_turn_1 : decode cX7_turn 1 = .ok (.iload_n 1, 1) := by decide +kernel
theorem dX7_turn_2 : decode cX7_turn 2 = .ok (.invokevirtual 58, 3) := by decide +kernel
theorem dX7_turn_5 : decode cX7_turn 5 = .ok (.ifCond .eq 25, 3) := by decide +kernel
theorem dX7_turn_8 : decode cX7_turn 8 = .ok (.iload_n 2, 1) := by decide +kernel
theorem dX7_turn_9 : decode cX7_turn 9 = .ok (.invokestatic 193, 3) := by decide +kernel
theorem dX7_turn_12 : decode cX7_turn 12 = .ok (.ifCond .eq 18, 3) := by decide +kernel
theorem dX7_turn_15 : decode cX7_turn 15 = .ok (.aload_n 0, 1) := by decide +kernel
theorem dX7_turn_16 : decode cX7_turn 16 = .ok (.bipush 14, 2) := by decide +kernel
theorem dX7_turn_18 : decode cX7_turn 18 = .ok (.bipush 26, 2) := by decide +kernel
theorem dX7_turn_20 : decode cX7_turn 20 = .ok (.iload_n 1, 1) := by decide +kernel
theorem dX7_turn_21 : decode cX7_turn 21 = .ok (.imul, 1) := by decide +kernel
theorem dX7_turn_22 : decode cX7_turn 22 = .ok (.iadd, 1) := by decide +kernel
theorem dX7_turn_23 : decode cX7_turn 23 = .ok (.iload_n 2, 1) := by decide +kernel
theorem dX7_turn_24 : decode cX7_turn 24 = .ok (.invokevirtual 168, 3) := by decide +kernel
theorem dX7_turn_27 : decode cX7_turn 27 = .ok (.goto 9, 3) := by decide +kernel
theorem dX7_turn_30 : decode cX7_turn 30 = .ok (.aload_n 0, 1) := by decide +kernel
theorem dX7_turn_31 : decode cX7_turn 31 = .ok (.ldc 40, 2) := by decide +kernel
theorem dX7_turn_33 : decode cX7_turn 33 = .ok (.invokevirtual 42, 3) := by decide +kernel
theorem dX7_turn_36 : decode cX7_turn 36 = .ok (.ireturn, 1) := by decide +kernel
theorem dX7_change_0 : decode cX7_change 0 = .ok (.iload_n 3, 1) := by decide +kernel
theorem dX7_change_1 : decode cX7_change 1 = .ok (.ifCond .ne 12, 3) := by decide +kernel
theorem dX7_change_4 : decode cX7_change 4 = .ok (.aload_n 0, 1) := by decide +kernel
theorem dX7_change_5 : decode cX7_change 5 = .ok (.iload 4, 2) := by decide +kernel
theorem dX7_change_7 : decode cX7_change 7 = .ok (.invokevirtual 177, 3) := by decide +kernel
theorem dX7_change_10 : decode cX7_change 10 = .ok (.goto 44, 3) := by decide +kernel
theorem dX7_change_13 : decode cX7_change 13 = .ok (.iload_n 3, 1) := by decide +kernel
theorem dX7_change_14 : decode cX7_change 14 = .ok (.iconst 1, 1) := by decide +kernel
theorem dX7_change_15 : decode cX7_change 15 = .ok (.if_icmp .ne 16, 3) := by decide +kernel
theorem dX7_change_18 : decode cX7_change 18 = .ok (.iload 4, 2) := by decide +kernel
theorem dX7_change_20 : decode cX7_change 20 = .ok (.i2l, 1) := by decide +kernel
theorem dX7_change_21 : decode cX7_change 21 = .ok (.lconst 1, 1) := by decide +kernel
theorem dX7_change_22 : decode cX7_change 22 = .ok (.ldc2_w 196, 3) := by decide +kernel
theorem dX7_change_25 : decode cX7_change 25 = .ok (.invokestatic 46, 3) := by decide +kernel
theorem dX7_change_28 : decode cX7_change 28 = .ok (.goto 26, 3) := by decide +kernel
theorem dX7_change_31 : decode cX7_change 31 = .ok (.iload_n 3, 1) := by decide +kernel
theorem dX7_change_32 : decode cX7_change 32 = .ok (.iconst 2, 1) := by decide +kernel
theorem dX7_change_33 : decode cX7_change 33 = .ok (.if_icmp .ne 20, 3) := by decide +kernel
theorem dX7_change_36 : decode cX7_change 36 = .ok (.iload 4, 2) := by decide +kernel
theorem dX7_change_38 : decode cX7_change 38 = .ok (.i2l, 1) := by decide +kernel
theorem dX7_change_39 : decode cX7_change 39 = .ok (.lconst 0, 1) := by decide +kernel
theorem dX7_change_40 : decode cX7_change 40 = .ok (.ldc2_w 198, 3) := by decide +kernel
theorem dX7_change_43 : decode cX7_change 43 = .ok (.invokestatic 46, 3) := by decide +kernel
theorem dX7_change_46 : decode cX7_change 46 = .ok (.ifCond .eq 7, 3) := by decide +kernel
theorem dX7_change_49 : decode cX7_change 49 = .ok (.iconst 1, 1) := by decide +kernel
theorem dX7_change_50 : decode cX7_change 50 = .ok (.goto 4, 3) := by decide +kernel
theorem dX7_change_53 : decode cX7_change 53 = .ok (.iconst 0, 1) := by decide +kernel
theorem dX7_change_54 : decode cX7_change 54 = .ok (.istore 5, 2) := by decide +kernel
theorem dX7_change_56 : decode cX7_change 56 = .ok (.aload_n 0, 1) := by decide +kernel
theorem dX7_change_57 : decode cX7_change 57 = .ok (.iload_n 1, 1) := by decide +kernel
theorem dX7_change_58 : decode cX7_change 58 = .ok (.iload_n 2, 1) := by decide +kernel
theorem dX7_change_59 : decode cX7_change 59 = .ok (.invokevirtual 205, 3) := by decide +kernel
theorem dX7_change_62 : decode cX7_change 62 = .ok (.ifCond .eq 23, 3) := by decide +kernel
theorem dX7_change_65 : decode cX7_change 65 = .ok (.iload 5, 2) := by decide +kernel
theorem dX7_change_67 : decode cX7_change 67 = .ok (.ifCond .eq 18, 3) := by decide +kernel
theorem dX7_change_70 : decode cX7_change 70 = .ok (.aload_n 0, 1) := by decide +kernel
theorem dX7_change_71 : decode cX7_change 71 = .ok (.iload_n 1, 1) := by decide +kernel
theorem dX7_change_72 : decode cX7_change 72 = .ok (.iload_n 2, 1) := by decide +kernel
theorem dX7_change_73 : decode cX7_change 73 = .ok (.iload_n 3, 1) := by decide +kernel
theorem dX7_change_74 : decode cX7_change 74 = .ok (.invokestatic 54, 3) := by decide +kernel
theorem dX7_change_77 : decode cX7_change 77 = .ok (.iload 4, 2) := by decide +kernel
theorem dX7_change_79 : decode cX7_change 79 = .ok (.invokevirtual 168, 3) := by decide +kernel
theorem dX7_change_82 : decode cX7_change 82 = .ok (.goto 9, 3) := by decide +kernel
theorem dX7_change_85 : decode cX7_change 85 = .ok (.aload_n 0, 1) := by decide +kernel
theorem dX7_change_86 : decode cX7_change 86 = .ok (.ldc 40, 2) := by decide +kernel
theorem dX7_change_88 : decode cX7_change 88 = .ok (.invokevirtual 42, 3) := by decide +kernel
theorem dX7_change_91 : decode cX7_change 91 = .ok (.ireturn, 1) := by decide +kernel
theorem dX7_firstFrom_0 : decode cX7_firstFrom 0 = .ok (.iload_n 2, 1) := by decide +kernel
theorem dX7_firstFrom_1 : decode cX7_firstFrom 1 = .ok (.istore_n 3, 1) := by decide +kernel
theorem dX7_firstFrom_2 : decode cX7_firstFrom 2 = .ok (.iload_n 3, 1) := by decide +kernel
theorem dX7_firstFrom_3 : decode cX7_firstFrom 3 = .ok (.iload_n 2, 1) := by decide +kernel
theorem dX7_firstFrom_4 : decode cX7_firstFrom 4 = .ok (.bipush 12, 2) := by decide +kernel
theorem dX7_firstFrom_6 : decode cX7_firstFrom 6 = .ok (.iadd, 1) := by decide +kernel
theorem dX7_firstFrom_7 : decode cX7_firstFrom 7 = .ok (.if_icmp .ge 20, 3) := by decide +kernel
theorem dX7_firstFrom_10 : decode cX7_firstFrom 10 = .ok (.aload_n 0, 1) := by decide +kernel
theorem dX7_firstFrom_11 : decode cX7_firstFrom 11 = .ok (.iload_n 1, 1) := by decide +kernel
theorem dX7_firstFrom_12 : decode cX7_firstFrom 12 = .ok (.iload_n 3, 1) := by decide +kernel
theorem dX7_firstFrom_13 : decode cX7_firstFrom 13 = .ok (.invokevirtual 184, 3) := by decide +kernel
theorem dX7_firstFrom_16 : decode cX7_firstFrom 16 = .ok (.ifCond .eq 5, 3) := by decide +kernel
theorem dX7_firstFrom_19 : decode cX7_firstFrom 19 = .ok (.iload_n 3, 1) := by decide +kernel
theorem dX7_firstFrom_20 : decode cX7_firstFrom 20 = .ok (.ireturn, 1) := by decide +kernel
theorem dX7_firstFrom_21 : decode cX7_firstFrom 21 = .ok (.iinc 3 1, 3) := by decide +kernel
theorem dX7_firstFrom_24 : decode cX7_firstFrom 24 = .ok (.goto (-22), 3) := by decide +kernel
theorem dX7_firstFrom_27 : decode cX7_firstFrom 27 = .ok (.iconst (-1), 1) := by decide +kernel
theorem dX7_firstFrom_28 : decode cX7_firstFrom 28 = .ok (.ireturn, 1) := by decide +kernel
theorem dX7_firstNear_0 : decode cX7_firstNear 0 = .ok (.iload_n 2, 1) := by decide +kernel
theorem dX7_firstNear_1 : decode cX7_firstNear 1 = .ok (.istore_n 3, 1) := by decide +kernel
theorem dX7_firstNear_2 : decode cX7_firstNear 2 = .ok (.iload_n 3, 1) := by decide +kernel
theorem dX7_firstNear_3 : decode cX7_firstNear 3 = .ok (.iload_n 2, 1) := by decide +kernel
theorem dX7_firstNear_4 : decode cX7_firstNear 4 = .ok (.bipush 12, 2) := by decide +kernel
theorem dX7_firstNear_6 : decode cX7_firstNear 6 = .ok (.iadd, 1) := by decide +kernel
theorem dX7_firstNear_7 : decode cX7_firstNear 7 = .ok (.if_icmp .ge 20, 3) := by decide +kernel
theorem dX7_firstNear_10 : decode cX7_firstNear 10 = .ok (.aload_n 0, 1) := by decide +kernel
theorem dX7_firstNear_11 : decode cX7_firstNear 11 = .ok (.iload_n 1, 1) := by decide +kernel
theorem dX7_firstNear_12 : decode cX7_firstNear 12 = .ok (.iload_n 3, 1) := by decide +kernel
theorem dX7_firstNear_13 : decode cX7_firstNear 13 = .ok (.invokevirtual 190, 3) := by decide +kernel
theorem dX7_firstNear_16 : decode cX7_firstNear 16 = .ok (.ifCond .eq 5, 3) := by decide +kernel
theorem dX7_firstNear_19 : decode cX7_firstNear 19 = .ok (.iload_n 3, 1) := by decide +kernel
theorem dX7_firstNear_20 : decode cX7_firstNear 20 = .ok (.ireturn, 1) := by decide +kernel
theorem dX7_firstNear_21 : decode cX7_firstNear 21 = .ok (.iinc 3 1, 3) := by decide +kernel
theorem dX7_firstNear_24 : decode cX7_firstNear 24 = .ok (.goto (-22), 3) := by decide +kernel
theorem dX7_firstNear_27 : decode cX7_firstNear 27 = .ok (.iconst (-1), 1) := by decide +kernel
theorem dX7_firstNear_28 : decode cX7_firstNear 28 = .ok (.ireturn, 1) := by decide +kernel
theorem dX7_begin_0 : decode cX7_begin 0 = .ok (.iload_n 1, 1) := by decide +kernel
theorem dX7_begin_1 : decode cX7_begin 1 = .ok (.aload_n 0, 1) := by decide +kernel
theorem dX7_begin_2 : decode cX7_begin 2 = .ok (.getfield 9, 3) := by decide +kernel
theorem dX7_begin_5 : decode cX7_begin 5 = .ok (.iconst 0, 1) := by decide +kernel
theorem dX7_begin_6 : decode cX7_begin 6 = .ok (.iaload, 1) := by decide +kernel
theorem dX7_begin_7 : decode cX7_begin 7 = .ok (.iadd, 1) := by decide +kernel
theorem dX7_begin_8 : decode cX7_begin 8 = .ok (.iconst 1, 1) := by decide +kernel
theorem dX7_begin_9 : decode cX7_begin 9 = .ok (.isub, 1) := by decide +kernel
theorem dX7_begin_10 : decode cX7_begin 10 = .ok (.aload_n 0, 1) := by decide +kernel
theorem dX7_begin_11 : decode cX7_begin 11 = .ok (.getfield 9, 3) := by decide +kernel
theorem dX7_begin_14 : decode cX7_begin 14 = .ok (.iconst 0, 1) := by decide +kernel
theorem dX7_begin_15 : decode cX7_begin 15 = .ok (.iaload, 1) := by decide +kernel
theorem dX7_begin_16 : decode cX7_begin 16 = .ok (.idiv, 1) := by decide +kernel
theorem dX7_begin_17 : decode cX7_begin 17 = .ok (.aload_n 0, 1) := by decide +kernel
theorem dX7_begin_18 : decode cX7_begin 18 = .ok (.getfield 9, 3) := by decide +kernel
theorem dX7_begin_21 : decode cX7_begin 21 = .ok (.iconst 0, 1) := by decide +kernel
theorem dX7_begin_22 : decode cX7_begin 22 = .ok (.iaload, 1) := by decide +kernel
theorem dX7_begin_23 : decode cX7_begin 23 = .ok (.imul, 1) := by decide +kernel
theorem dX7_begin_24 : decode cX7_begin 24 = .ok (.ireturn, 1) := by decide +kernel
theorem dX7_lesser_0 : decode cX7_lesser 0 = .ok (.iload_n 0, 1) := by decide +kernel
theorem dX7_lesser_1 : decode cX7_lesser 1 = .ok (.ifCond .ge 7, 3) := by decide +kernel
theorem dX7_lesser_4 : decode cX7_lesser 4 = .ok (.iload_n 1, 1) := by decide +kernel
theorem dX7_lesser_5 : decode cX7_lesser 5 = .ok (.goto 17, 3) := by decide +kernel
theorem dX7_lesser_8 : decode cX7_lesser 8 = .ok (.iload_n 1, 1) := by decide +kernel
theorem dX7_lesser_9 : decode cX7_lesser 9 = .ok (.ifCond .lt 8, 3) := by decide +kernel
theorem dX7_lesser_12 : decode cX7_lesser 12 = .ok (.iload_n 0, 1) := by decide +kernel
theorem dX7_lesser_13 : decode cX7_lesser 13 = .ok (.iload_n 1, 1) := by decide +kernel
theorem dX7_lesser_14 : decode cX7_lesser 14 = .ok (.if_icmp .ge 7, 3) := by decide +kernel
theorem dX7_lesser_17 : decode cX7_lesser 17 = .ok (.iload_n 0, 1) := by decide +kernel
theorem dX7_lesser_18 : decode cX7_lesser 18 = .ok (.goto 4, 3) := by decide +kernel
theorem dX7_lesser_21 : decode cX7_lesser 21 = .ok (.iload_n 1, 1) := by decide +kernel
theorem dX7_lesser_22 : decode cX7_lesser 22 = .ok (.ireturn, 1) := by decide +kernel
theorem dX7_nextOf_0 : decode cX7_nextOf 0 = .ok (.aload_n 0, 1) := by decide +kernel
theorem dX7_nextOf_1 : decode cX7_nextOf 1 = .ok (.iload_n 1, 1) := by decide +kernel
theorem dX7_nextOf_2 : decode cX7_nextOf 2 = .ok (.iload_n 2, 1) := by decide +kernel
theorem dX7_nextOf_3 : decode cX7_nextOf 3 = .ok (.iconst 0, 1) := by decide +kernel
theorem dX7_nextOf_4 : decode cX7_nextOf 4 = .ok (.invokevirtual 210, 3) := by decide +kernel
theorem dX7_nextOf_7 : decode cX7_nextOf 7 = .ok (.istore 4, 2) := by decide +kernel
theorem dX7_nextOf_9 : decode cX7_nextOf 9 = .ok (.aload_n 0, 1) := by decide +kernel
theorem dX7_nextOf_10 : decode cX7_nextOf 10 = .ok (.iload 4, 2) := by decide +kernel
theorem dX7_nextOf_12 : decode cX7_nextOf 12 = .ok (.iload_n 2, 1) := by decide +kernel
theorem dX7_nextOf_13 : decode cX7_nextOf 13 = .ok (.ifCond .ne 7, 3) := by decide +kernel
theorem dX7_nextOf_16 : decode cX7_nextOf 16 = .ok (.iload_n 3, 1) := by decide +kernel
theorem dX7_nextOf_17 : decode cX7_nextOf 17 = .ok (.goto 6, 3) := by decide +kernel
theorem dX7_nextOf_20 : decode cX7_nextOf 20 = .ok (.iload_n 3, 1) := by decide +kernel
theorem dX7_nextOf_21 : decode cX7_nextOf 21 = .ok (.iconst 1, 1) := by decide +kernel
theorem dX7_nextOf_22 : decode cX7_nextOf 22 = .ok (.iadd, 1) := by decide +kernel
theorem dX7_nextOf_23 : decode cX7_nextOf 23 = .ok (.invokevirtual 213, 3) := by decide +kernel
theorem dX7_nextOf_26 : decode cX7_nextOf 26 = .ok (.istore 5, 2) := by decide +kernel
theorem dX7_nextOf_28 : decode cX7_nextOf 28 = .ok (.aload_n 0, 1) := by decide +kernel
theorem dX7_nextOf_29 : decode cX7_nextOf 29 = .ok (.iload 4, 2) := by decide +kernel
theorem dX7_nextOf_31 : decode cX7_nextOf 31 = .ok (.iload_n 3, 1) := by decide +kernel
theorem dX7_nextOf_32 : decode cX7_nextOf 32 = .ok (.invokevirtual 213, 3) := by decide +kernel
theorem dX7_nextOf_35 : decode cX7_nextOf 35 = .ok (.aload_n 0, 1) := by decide +kernel
theorem dX7_nextOf_36 : decode cX7_nextOf 36 = .ok (.iload 4, 2) := by decide +kernel
theorem dX7_nextOf_38 : decode cX7_nextOf 38 = .ok (.iload_n 3, 1) := by decide +kernel
theorem dX7_nextOf_39 : decode cX7_nextOf 39 = .ok (.iconst 1, 1) := by decide +kernel
theorem dX7_nextOf_40 : decode cX7_nextOf 40 = .ok (.iadd, 1) := by decide +kernel
theorem dX7_nextOf_41 : decode cX7_nextOf 41 = .ok (.invokevirtual 216, 3) := by decide +kernel
theorem dX7_nextOf_44 : decode cX7_nextOf 44 = .ok (.invokestatic 219, 3) := by decide +kernel
theorem dX7_nextOf_47 : decode cX7_nextOf 47 = .ok (.istore 6, 2) := by decide +kernel
theorem dX7_nextOf_49 : decode cX7_nextOf 49 = .ok (.aload_n 0, 1) := by decide +kernel
theorem dX7_nextOf_50 : decode cX7_nextOf 50 = .ok (.iload_n 1, 1) := by decide +kernel
theorem dX7_nextOf_51 : decode cX7_nextOf 51 = .ok (.invokevirtual 202, 3) := by decide +kernel
theorem dX7_nextOf_54 : decode cX7_nextOf 54 = .ok (.tableswitch 141 1 6 #[38, 46, 67, 92, 95, 122], 38) := by decide +kernel
theorem dX7_nextOf_92 : decode cX7_nextOf 92 = .ok (.aload_n 0, 1) := by decide +kernel
theorem dX7_nextOf_93 : decode cX7_nextOf 93 = .ok (.iload 4, 2) := by decide +kernel
theorem dX7_nextOf_95 : decode cX7_nextOf 95 = .ok (.iload_n 3, 1) := by decide +kernel
theorem dX7_nextOf_96 : decode cX7_nextOf 96 = .ok (.invokevirtual 213, 3) := by decide +kernel
theorem dX7_nextOf_99 : decode cX7_nextOf 99 = .ok (.ireturn, 1) := by decide +kernel
theorem dX7_nextOf_100 : decode cX7_nextOf 100 = .ok (.iload_n 2, 1) := by decide +kernel
theorem dX7_nextOf_101 : decode cX7_nextOf 101 = .ok (.ifCond .ne 17, 3) := by decide +kernel
theorem dX7_nextOf_104 : decode cX7_nextOf 104 = .ok (.aload_n 0, 1) := by decide +kernel
theorem dX7_nextOf_105 : decode cX7_nextOf 105 = .ok (.iload 4, 2) := by decide +kernel
theorem dX7_nextOf_107 : decode cX7_nextOf 107 = .ok (.aload_n 0, 1) := by decide +kernel
theorem dX7_nextOf_108 : decode cX7_nextOf 108 = .ok (.iload_n 3, 1) := by decide +kernel
theorem dX7_nextOf_109 : decode cX7_nextOf 109 = .ok (.invokevirtual 222, 3) := by decide +kernel
theorem dX7_nextOf_112 : decode cX7_nextOf 112 = .ok (.invokevirtual 213, 3) := by decide +kernel
theorem dX7_nextOf_115 : decode cX7_nextOf 115 = .ok (.goto 5, 3) := by decide +kernel
theorem dX7_nextOf_118 : decode cX7_nextOf 118 = .ok (.iload 5, 2) := by decide +kernel
theorem dX7_nextOf_120 : decode cX7_nextOf 120 = .ok (.ireturn, 1) := by decide +kernel
theorem dX7_nextOf_121 : decode cX7_nextOf 121 = .ok (.iload_n 2, 1) := by decide +kernel
theorem dX7_nextOf_122 : decode cX7_nextOf 122 = .ok (.ifCond .le 21, 3) := by decide +kernel
theorem dX7_nextOf_125 : decode cX7_nextOf 125 = .ok (.aload_n 0, 1) := by decide +kernel
theorem dX7_nextOf_126 : decode cX7_nextOf 126 = .ok (.iload_n 1, 1) := by decide +kernel
theorem dX7_nextOf_127 : decode cX7_nextOf 127 = .ok (.iload_n 2, 1) := by decide +kernel
theorem dX7_nextOf_128 : decode cX7_nextOf 128 = .ok (.iconst 1, 1) := by decide +kernel
theorem dX7_nextOf_129 : decode cX7_nextOf 129 = .ok (.isub, 1) := by decide +kernel
theorem dX7_nextOf_130 : decode cX7_nextOf 130 = .ok (.iconst 0, 1) := by decide +kernel
theorem dX7_nextOf_131 : decode cX7_nextOf 131 = .ok (.invokevirtual 210, 3) := by decide +kernel
theorem dX7_nextOf_134 : decode cX7_nextOf 134 = .ok (.iload 4, 2) := by decide +kernel
theorem dX7_nextOf_136 : decode cX7_nextOf 136 = .ok (.if_icmp .ne 7, 3) := by decide +kernel
theorem dX7_nextOf_139 : decode cX7_nextOf 139 = .ok (.iload_n 3, 1) := by decide +kernel
theorem dX7_nextOf_140 : decode cX7_nextOf 140 = .ok (.goto 5, 3) := by decide +kernel
theorem dX7_nextOf_143 : decode cX7_nextOf 143 = .ok (.iload 5, 2) := by decide +kernel
theorem dX7_nextOf_145 : decode cX7_nextOf 145 = .ok (.ireturn, 1) := by decide +kernel
theorem dX7_nextOf_146 : decode cX7_nextOf 146 = .ok (.iload 6, 2) := by decide +kernel
theorem dX7_nextOf_148 : decode cX7_nextOf 148 = .ok (.ireturn, 1) := by decide +kernel
theorem dX7_nextOf_149 : decode cX7_nextOf 149 = .ok (.iload_n 2, 1) := by decide +kernel
theorem dX7_nextOf_150 : decode cX7_nextOf 150 = .ok (.aload_n 0, 1) := by decide +kernel
theorem dX7_nextOf_151 : decode cX7_nextOf 151 = .ok (.iload_n 1, 1) := by decide +kernel
theorem dX7_nextOf_152 : decode cX7_nextOf 152 = .ok (.invokevirtual 62, 3) := by decide +kernel
theorem dX7_nextOf_155 : decode cX7_nextOf 155 = .ok (.iconst 1, 1) := by decide +kernel
theorem dX7_nextOf_156 : decode cX7_nextOf 156 = .ok (.isub, 1) := by decide +kernel
theorem dX7_nextOf_157 : decode cX7_nextOf 157 = .ok (.if_icmp .ne 16, 3) := by decide +kernel
theorem dX7_nextOf_160 : decode cX7_nextOf 160 = .ok (.iload 6, 2) := by decide +kernel
theorem dX7_nextOf_162 : decode cX7_nextOf 162 = .ok (.aload_n 0, 1) := by decide +kernel
theorem dX7_nextOf_163 : decode cX7_nextOf 163 = .ok (.iload_n 3, 1) := by decide +kernel
theorem dX7_nextOf_164 : decode cX7_nextOf 164 = .ok (.invokevirtual 222, 3) := by decide +kernel
theorem dX7_nextOf_167 : decode cX7_nextOf 167 = .ok (.invokestatic 219, 3) := by decide +kernel
theorem dX7_nextOf_170 : decode cX7_nextOf 170 = .ok (.goto 5, 3) := by decide +kernel
theorem dX7_nextOf_173 : decode cX7_nextOf 173 = .ok (.iload 6, 2) := by decide +kernel
theorem dX7_nextOf_175 : decode cX7_nextOf 175 = .ok (.ireturn, 1) := by decide +kernel
theorem dX7_nextOf_176 : decode cX7_nextOf 176 = .ok (.iload_n 2, 1) := by decide +kernel
theorem dX7_nextOf_177 : decode cX7_nextOf 177 = .ok (.ifCond .ne 8, 3) := by decide +kernel
theorem dX7_nextOf_180 : decode cX7_nextOf 180 = .ok (.iload 5, 2) := by decide +kernel
theorem dX7_nextOf_182 : decode cX7_nextOf 182 = .ok (.goto 12, 3) := by decide +kernel
theorem dX7_nextOf_185 : decode cX7_nextOf 185 = .ok (.aload_n 0, 1) := by decide +kernel
theorem dX7_nextOf_186 : decode cX7_nextOf 186 = .ok (.iload 4, 2) := by decide +kernel
theorem dX7_nextOf_188 : decode cX7_nextOf 188 = .ok (.iload_n 3, 1) := by decide +kernel
theorem dX7_nextOf_189 : decode cX7_nextOf 189 = .ok (.iconst 2, 1) := by decide +kernel
theorem dX7_nextOf_190 : decode cX7_nextOf 190 = .ok (.iadd, 1) := by decide +kernel
theorem dX7_nextOf_191 : decode cX7_nextOf 191 = .ok (.invokevirtual 213, 3) := by decide +kernel
theorem dX7_nextOf_194 : decode cX7_nextOf 194 = .ok (.ireturn, 1) := by decide +kernel
theorem dX7_nextOf_195 : decode cX7_nextOf 195 = .ok (.iload 5, 2) := by decide +kernel
theorem dX7_nextOf_197 : decode cX7_nextOf 197 = .ok (.ireturn, 1) := by decide +kernel
theorem dX7_next_0 : decode cX7_next 0 = .ok (.aload_n 0, 1) := by decide +kernel
theorem dX7_next_1 : decode cX7_next 1 = .ok (.iload_n 1, 1) := by decide +kernel
theorem dX7_next_2 : decode cX7_next 2 = .ok (.iload_n 2, 1) := by decide +kernel
theorem dX7_next_3 : decode cX7_next 3 = .ok (.invokevirtual 205, 3) := by decide +kernel
theorem dX7_next_6 : decode cX7_next 6 = .ok (.ifCond .eq 24, 3) := by decide +kernel
theorem dX7_next_9 : decode cX7_next 9 = .ok (.iload_n 3, 1) := by decide +kernel
theorem dX7_next_10 : decode cX7_next 10 = .ok (.invokestatic 187, 3) := by decide +kernel
theorem dX7_next_13 : decode cX7_next 13 = .ok (.ifCond .eq 17, 3) := by decide +kernel
theorem dX7_next_16 : decode cX7_next 16 = .ok (.aload_n 0, 1) := by decide +kernel
theorem dX7_next_17 : decode cX7_next 17 = .ok (.aload_n 0, 1) := by decide +kernel
theorem dX7_next_18 : decode cX7_next 18 = .ok (.iload_n 1, 1) := by decide +kernel
theorem dX7_next_19 : decode cX7_next 19 = .ok (.iload_n 2, 1) := by decide +kernel
theorem dX7_next_20 : decode cX7_next 20 = .ok (.iload_n 3, 1) := by decide +kernel
theorem dX7_next_21 : decode cX7_next 21 = .ok (.invokevirtual 225, 3) := by decide +kernel
theorem dX7_next_24 : decode cX7_next 24 = .ok (.invokevirtual 228, 3) := by decide +kernel
theorem dX7_next_27 : decode cX7_next 27 = .ok (.goto 9, 3) := by decide +kernel
theorem dX7_next_30 : decode cX7_next 30 = .ok (.aload_n 0, 1) := by decide +kernel
theorem dX7_next_31 : decode cX7_next 31 = .ok (.ldc 40, 2) := by decide +kernel
theorem dX7_next_33 : decode cX7_next 33 = .ok (.invokevirtual 42, 3) := by decide +kernel
theorem dX7_next_36 : decode cX7_next 36 = .ok (.ireturn, 1) := by decide +kernel
theorem dX7_runs_0 : decode cX7_runs 0 = .ok (.iload_n 2, 1) := by decide +kernel
theorem dX7_runs_1 : decode cX7_runs 1 = .ok (.istore_n 3, 1) := by decide +kernel
theorem dX7_runs_2 : decode cX7_runs 2 = .ok (.iconst 0, 1) := by decide +kernel
theorem dX7_runs_3 : decode cX7_runs 3 = .ok (.istore 4, 2) := by decide +kernel
theorem dX7_runs_5 : decode cX7_runs 5 = .ok (.iload 4, 2) := by decide +kernel
theorem dX7_runs_7 : decode cX7_runs 7 = .ok (.aload_n 0, 1) := by decide +kernel
theorem dX7_runs_8 : decode cX7_runs 8 = .ok (.iload_n 1, 1) := by decide +kernel
theorem dX7_runs_9 : decode cX7_runs 9 = .ok (.invokevirtual 62, 3) := by decide +kernel
theorem dX7_runs_12 : decode cX7_runs 12 = .ok (.if_icmp .ge 59, 3) := by decide +kernel
theorem dX7_runs_15 : decode cX7_runs 15 = .ok (.aload_n 0, 1) := by decide +kernel
theorem dX7_runs_16 : decode cX7_runs 16 = .ok (.iload_n 1, 1) := by decide +kernel
theorem dX7_runs_17 : decode cX7_runs 17 = .ok (.iload 4, 2) := by decide +kernel
theorem dX7_runs_19 : decode cX7_runs 19 = .ok (.iload_n 3, 1) := by decide +kernel
theorem dX7_runs_20 : decode cX7_runs 20 = .ok (.invokevirtual 225, 3) := by decide +kernel
theorem dX7_runs_23 : decode cX7_runs 23 = .ok (.istore 5, 2) := by decide +kernel
theorem dX7_runs_25 : decode cX7_runs 25 = .ok (.iload 5, 2) := by decide +kernel
theorem dX7_runs_27 : decode cX7_runs 27 = .ok (.ifCond .lt 23, 3) := by decide +kernel
theorem dX7_runs_30 : decode cX7_runs 30 = .ok (.iload 4, 2) := by decide +kernel
theorem dX7_runs_32 : decode cX7_runs 32 = .ok (.ifCond .le 21, 3) := by decide +kernel
theorem dX7_runs_35 : decode cX7_runs 35 = .ok (.iload 5, 2) := by decide +kernel
theorem dX7_runs_37 : decode cX7_runs 37 = .ok (.iload_n 3, 1) := by decide +kernel
theorem dX7_runs_38 : decode cX7_runs 38 = .ok (.isub, 1) := by decide +kernel
theorem dX7_runs_39 : decode cX7_runs 39 = .ok (.aload_n 0, 1) := by decide +kernel
theorem dX7_runs_40 : decode cX7_runs 40 = .ok (.iload_n 1, 1) := by decide +kernel
theorem dX7_runs_41 : decode cX7_runs 41 = .ok (.iload 4, 2) := by decide +kernel
theorem dX7_runs_43 : decode cX7_runs 43 = .ok (.iconst 2, 1) := by decide +kernel
theorem dX7_runs_44 : decode cX7_runs 44 = .ok (.invokevirtual 210, 3) := by decide +kernel
theorem dX7_runs_47 : decode cX7_runs 47 = .ok (.if_icmp .le 6, 3) := by decide +kernel
theorem dX7_runs_50 : decode cX7_runs 50 = .ok (.iload 4, 2) := by decide +kernel
theorem dX7_runs_52 : decode cX7_runs 52 = .ok (.ireturn, 1) := by decide +kernel
theorem dX7_runs_53 : decode cX7_runs 53 = .ok (.aload_n 0, 1) := by decide +kernel
theorem dX7_runs_54 : decode cX7_runs 54 = .ok (.getfield 25, 3) := by decide +kernel
theorem dX7_runs_57 : decode cX7_runs 57 = .ok (.iload 4, 2) := by decide +kernel
theorem dX7_runs_59 : decode cX7_runs 59 = .ok (.iload 5, 2) := by decide +kernel
theorem dX7_runs_61 : decode cX7_runs 61 = .ok (.iastore, 1) := by decide +kernel
theorem dX7_runs_62 : decode cX7_runs 62 = .ok (.iload 5, 2) := by decide +kernel
theorem dX7_runs_64 : decode cX7_runs 64 = .ok (.istore_n 3, 1) := by decide +kernel
theorem dX7_runs_65 : decode cX7_runs 65 = .ok (.iinc 4 1, 3) := by decide +kernel
theorem dX7_runs_68 : decode cX7_runs 68 = .ok (.goto (-63), 3) := by decide +kernel
theorem dX7_runs_71 : decode cX7_runs 71 = .ok (.iconst (-1), 1) := by decide +kernel
theorem dX7_runs_72 : decode cX7_runs 72 = .ok (.ireturn, 1) := by decide +kernel
theorem dX7_lastDay_0 : decode cX7_lastDay 0 = .ok (.aload_n 0, 1) := by decide +kernel
theorem dX7_lastDay_1 : decode cX7_lastDay 1 = .ok (.getfield 25, 3) := by decide +kernel
theorem dX7_lastDay_4 : decode cX7_lastDay 4 = .ok (.aload_n 0, 1) := by decide +kernel
theorem dX7_lastDay_5 : decode cX7_lastDay 5 = .ok (.iload_n 1, 1) := by decide +kernel
theorem dX7_lastDay_6 : decode cX7_lastDay 6 = .ok (.invokevirtual 62, 3) := by decide +kernel
theorem dX7_lastDay_9 : decode cX7_lastDay 9 = .ok (.iconst 1, 1) := by decide +kernel
theorem dX7_lastDay_10 : decode cX7_lastDay 10 = .ok (.isub, 1) := by decide +kernel
theorem dX7_lastDay_11 : decode cX7_lastDay 11 = .ok (.iaload, 1) := by decide +kernel
theorem dX7_lastDay_12 : decode cX7_lastDay 12 = .ok (.ireturn, 1) := by decide +kernel
theorem dX7_run_0 : decode cX7_run 0 = .ok (.aload_n 0, 1) := by decide +kernel
theorem dX7_run_1 : decode cX7_run 1 = .ok (.iload_n 1, 1) := by decide +kernel
theorem dX7_run_2 : decode cX7_run 2 = .ok (.iload_n 3, 1) := by decide +kernel
theorem dX7_run_3 : decode cX7_run 3 = .ok (.invokevirtual 205, 3) := by decide +kernel
theorem dX7_run_6 : decode cX7_run 6 = .ok (.ifCond .eq 10, 3) := by decide +kernel
theorem dX7_run_9 : decode cX7_run 9 = .ok (.iload_n 2, 1) := by decide +kernel
theorem dX7_run_10 : decode cX7_run 10 = .ok (.invokestatic 187, 3) := by decide +kernel
theorem dX7_run_13 : decode cX7_run 13 = .ok (.ifCond .ne 10, 3) := by decide +kernel
theorem dX7_run_16 : decode cX7_run 16 = .ok (.aload_n 0, 1) := by decide +kernel
theorem dX7_run_17 : decode cX7_run 17 = .ok (.ldc 40, 2) := by decide +kernel
theorem dX7_run_19 : decode cX7_run 19 = .ok (.invokevirtual 42, 3) := by decide +kernel
theorem dX7_run_22 : decode cX7_run 22 = .ok (.ireturn, 1) := by decide +kernel
theorem dX7_run_23 : decode cX7_run 23 = .ok (.aload_n 0, 1) := by decide +kernel
theorem dX7_run_24 : decode cX7_run 24 = .ok (.iload_n 1, 1) := by decide +kernel
theorem dX7_run_25 : decode cX7_run 25 = .ok (.iload_n 2, 1) := by decide +kernel
theorem dX7_run_26 : decode cX7_run 26 = .ok (.invokevirtual 231, 3) := by decide +kernel
theorem dX7_run_29 : decode cX7_run 29 = .ok (.ifCond .lt 12, 3) := by decide +kernel
theorem dX7_run_32 : decode cX7_run 32 = .ok (.aload_n 0, 1) := by decide +kernel
theorem dX7_run_33 : decode cX7_run 33 = .ok (.ldc 41, 2) := by decide +kernel
theorem dX7_run_35 : decode cX7_run 35 = .ok (.invokevirtual 42, 3) := by decide +kernel
theorem dX7_run_38 : decode cX7_run 38 = .ok (.goto 9, 3) := by decide +kernel
theorem dX7_run_41 : decode cX7_run 41 = .ok (.aload_n 0, 1) := by decide +kernel
theorem dX7_run_42 : decode cX7_run 42 = .ok (.getfield 25, 3) := by decide +kernel
theorem dX7_run_45 : decode cX7_run 45 = .ok (.iload_n 3, 1) := by decide +kernel
theorem dX7_run_46 : decode cX7_run 46 = .ok (.iaload, 1) := by decide +kernel
theorem dX7_run_47 : decode cX7_run 47 = .ok (.ireturn, 1) := by decide +kernel
theorem dX7_spoils_0 : decode cX7_spoils 0 = .ok (.aload_n 0, 1) := by decide +kernel
theorem dX7_spoils_1 : decode cX7_spoils 1 = .ok (.iload_n 1, 1) := by decide +kernel
theorem dX7_spoils_2 : decode cX7_spoils 2 = .ok (.invokevirtual 58, 3) := by decide +kernel
theorem dX7_spoils_5 : decode cX7_spoils 5 = .ok (.ifCond .eq 23, 3) := by decide +kernel
theorem dX7_spoils_8 : decode cX7_spoils 8 = .ok (.iload_n 2, 1) := by decide +kernel
theorem dX7_spoils_9 : decode cX7_spoils 9 = .ok (.invokestatic 187, 3) := by decide +kernel
theorem dX7_spoils_12 : decode cX7_spoils 12 = .ok (.ifCond .eq 16, 3) := by decide +kernel
theorem dX7_spoils_15 : decode cX7_spoils 15 = .ok (.aload_n 0, 1) := by decide +kernel
theorem dX7_spoils_16 : decode cX7_spoils 16 = .ok (.aload_n 0, 1) := by decide +kernel
theorem dX7_spoils_17 : decode cX7_spoils 17 = .ok (.iload_n 1, 1) := by decide +kernel
theorem dX7_spoils_18 : decode cX7_spoils 18 = .ok (.iload_n 2, 1) := by decide +kernel
theorem dX7_spoils_19 : decode cX7_spoils 19 = .ok (.invokevirtual 231, 3) := by decide +kernel
theorem dX7_spoils_22 : decode cX7_spoils 22 = .ok (.invokevirtual 228, 3) := by decide +kernel
theorem dX7_spoils_25 : decode cX7_spoils 25 = .ok (.goto 9, 3) := by decide +kernel
theorem dX7_spoils_28 : decode cX7_spoils 28 = .ok (.aload_n 0, 1) := by decide +kernel
theorem dX7_spoils_29 : decode cX7_spoils 29 = .ok (.ldc 40, 2) := by decide +kernel
theorem dX7_spoils_31 : decode cX7_spoils 31 = .ok (.invokevirtual 42, 3) := by decide +kernel
theorem dX7_spoils_34 : decode cX7_spoils 34 = .ok (.ireturn, 1) := by decide +kernel
theorem dX7_beginsAt_0 : decode cX7_beginsAt 0 = .ok (.iload_n 2, 1) := by decide +kernel
theorem dX7_beginsAt_1 : decode cX7_beginsAt 1 = .ok (.istore_n 3, 1) := by decide +kernel
theorem dX7_beginsAt_2 : decode cX7_beginsAt 2 = .ok (.iload_n 3, 1) := by decide +kernel
theorem dX7_beginsAt_3 : decode cX7_beginsAt 3 = .ok (.iload_n 2, 1) := by decide +kernel
theorem dX7_beginsAt_4 : decode cX7_beginsAt 4 = .ok (.sipush 200, 3) := by decide +kernel
theorem dX7_beginsAt_7 : decode cX7_beginsAt 7 = .ok (.iadd, 1) := by decide +kernel
theorem dX7_beginsAt_8 : decode cX7_beginsAt 8 = .ok (.if_icmp .gt 20, 3) := by decide +kernel
theorem dX7_beginsAt_11 : decode cX7_beginsAt 11 = .ok (.aload_n 0, 1) := by decide +kernel
theorem dX7_beginsAt_12 : decode cX7_beginsAt 12 = .ok (.iload_n 1, 1) := by decide +kernel
theorem dX7_beginsAt_13 : decode cX7_beginsAt 13 = .ok (.iload_n 3, 1) := by decide +kernel
theorem dX7_beginsAt_14 : decode cX7_beginsAt 14 = .ok (.invokevirtual 231, 3) := by decide +kernel
theorem dX7_beginsAt_17 : decode cX7_beginsAt 17 = .ok (.ifCond .ge 5, 3) := by decide +kernel
theorem dX7_beginsAt_20 : decode cX7_beginsAt 20 = .ok (.iload_n 3, 1) := by decide +kernel
theorem dX7_beginsAt_21 : decode cX7_beginsAt 21 = .ok (.ireturn, 1) := by decide +kernel
theorem dX7_beginsAt_22 : decode cX7_beginsAt 22 = .ok (.iinc 3 1, 3) := by decide +kernel
theorem dX7_beginsAt_25 : decode cX7_beginsAt 25 = .ok (.goto (-23), 3) := by decide +kernel
theorem dX7_beginsAt_28 : decode cX7_beginsAt 28 = .ok (.iconst (-1), 1) := by decide +kernel
theorem dX7_beginsAt_29 : decode cX7_beginsAt 29 = .ok (.ireturn, 1) := by decide +kernel
theorem dX7_readyAt_0 : decode cX7_readyAt 0 = .ok (.aload_n 0, 1) := by decide +kernel
theorem dX7_readyAt_1 : decode cX7_readyAt 1 = .ok (.iload_n 1, 1) := by decide +kernel
theorem dX7_readyAt_2 : decode cX7_readyAt 2 = .ok (.iload_n 2, 1) := by decide +kernel
theorem dX7_readyAt_3 : decode cX7_readyAt 3 = .ok (.invokevirtual 234, 3) := by decide +kernel
theorem dX7_readyAt_6 : decode cX7_readyAt 6 = .ok (.ifCond .ge 7, 3) := by decide +kernel
theorem dX7_readyAt_9 : decode cX7_readyAt 9 = .ok (.iconst (-1), 1) := by decide +kernel
theorem dX7_readyAt_10 : decode cX7_readyAt 10 = .ok (.goto 8, 3) := by decide +kernel
theorem dX7_readyAt_13 : decode cX7_readyAt 13 = .ok (.aload_n 0, 1) := by decide +kernel
theorem dX7_readyAt_14 : decode cX7_readyAt 14 = .ok (.iload_n 1, 1) := by decide +kernel
theorem dX7_readyAt_15 : decode cX7_readyAt 15 = .ok (.invokevirtual 237, 3) := by decide +kernel
theorem dX7_readyAt_18 : decode cX7_readyAt 18 = .ok (.ireturn, 1) := by decide +kernel
theorem dX7_ready_0 : decode cX7_ready 0 = .ok (.aload_n 0, 1) := by decide +kernel
theorem dX7_ready_1 : decode cX7_ready 1 = .ok (.iload_n 1, 1) := by decide +kernel
theorem dX7_ready_2 : decode cX7_ready 2 = .ok (.invokevirtual 58, 3) := by decide +kernel
theorem dX7_ready_5 : decode cX7_ready 5 = .ok (.ifCond .eq 23, 3) := by decide +kernel
theorem dX7_ready_8 : decode cX7_ready 8 = .ok (.iload_n 2, 1) := by decide +kernel
theorem dX7_ready_9 : decode cX7_ready 9 = .ok (.invokestatic 187, 3) := by decide +kernel
theorem dX7_ready_12 : decode cX7_ready 12 = .ok (.ifCond .eq 16, 3) := by decide +kernel
theorem dX7_ready_15 : decode cX7_ready 15 = .ok (.aload_n 0, 1) := by decide +kernel
theorem dX7_ready_16 : decode cX7_ready 16 = .ok (.aload_n 0, 1) := by decide +kernel
theorem dX7_ready_17 : decode cX7_ready 17 = .ok (.iload_n 1, 1) := by decide +kernel
theorem dX7_ready_18 : decode cX7_ready 18 = .ok (.iload_n 2, 1) := by decide +kernel
theorem dX7_ready_19 : decode cX7_ready 19 = .ok (.invokevirtual 240, 3) := by decide +kernel
theorem dX7_ready_22 : decode cX7_ready 22 = .ok (.invokevirtual 228, 3) := by decide +kernel
theorem dX7_ready_25 : decode cX7_ready 25 = .ok (.goto 9, 3) := by decide +kernel
theorem dX7_ready_28 : decode cX7_ready 28 = .ok (.aload_n 0, 1) := by decide +kernel
theorem dX7_ready_29 : decode cX7_ready 29 = .ok (.ldc 40, 2) := by decide +kernel
theorem dX7_ready_31 : decode cX7_ready 31 = .ok (.invokevirtual 42, 3) := by decide +kernel
theorem dX7_ready_34 : decode cX7_ready 34 = .ok (.ireturn, 1) := by decide +kernel
theorem dX7_begun_0 : decode cX7_begun 0 = .ok (.aload_n 0, 1) := by decide +kernel
theorem dX7_begun_1 : decode cX7_begun 1 = .ok (.iload_n 1, 1) := by decide +kernel
theorem dX7_begun_2 : decode cX7_begun 2 = .ok (.invokevirtual 58, 3) := by decide +kernel
theorem dX7_begun_5 : decode cX7_begun 5 = .ok (.ifCond .eq 23, 3) := by decide +kernel
theorem dX7_begun_8 : decode cX7_begun 8 = .ok (.iload_n 2, 1) := by decide +kernel
theorem dX7_begun_9 : decode cX7_begun 9 = .ok (.invokestatic 187, 3) := by decide +kernel
theorem dX7_begun_12 : decode cX7_begun 12 = .ok (.ifCond .eq 16, 3) := by decide +kernel
theorem dX7_begun_15 : decode cX7_begun 15 = .ok (.aload_n 0, 1) := by decide +kernel
theorem dX7_begun_16 : decode cX7_begun 16 = .ok (.aload_n 0, 1) := by decide +kernel
theorem dX7_begun_17 : decode cX7_begun 17 = .ok (.iload_n 1, 1) := by decide +kernel
theorem dX7_begun_18 : decode cX7_begun 18 = .ok (.iload_n 2, 1) := by decide +kernel
theorem dX7_begun_19 : decode cX7_begun 19 = .ok (.invokevirtual 234, 3) := by decide +kernel
theorem dX7_begun_22 : decode cX7_begun 22 = .ok (.invokevirtual 228, 3) := by decide +kernel
theorem dX7_begun_25 : decode cX7_begun 25 = .ok (.goto 9, 3) := by decide +kernel
theorem dX7_begun_28 : decode cX7_begun 28 = .ok (.aload_n 0, 1) := by decide +kernel
theorem dX7_begun_29 : decode cX7_begun 29 = .ok (.ldc 40, 2) := by decide +kernel
theorem dX7_begun_31 : decode cX7_begun 31 = .ok (.invokevirtual 42, 3) := by decide +kernel
theorem dX7_begun_34 : decode cX7_begun 34 = .ok (.ireturn, 1) := by decide +kernel
theorem dX7_latest_0 : decode cX7_latest 0 = .ok (.aload_n 0, 1) := by decide +kernel
theorem dX7_latest_1 : decode cX7_latest 1 = .ok (.iload_n 1, 1) := by decide +kernel
theorem dX7_latest_2 : decode cX7_latest 2 = .ok (.invokevirtual 58, 3) := by decide +kernel
theorem dX7_latest_5 : decode cX7_latest 5 = .ok (.ifCond .eq 15, 3) := by decide +kernel
theorem dX7_latest_8 : decode cX7_latest 8 = .ok (.iload_n 2, 1) := by decide +kernel
theorem dX7_latest_9 : decode cX7_latest 9 = .ok (.i2l, 1) := by decide +kernel
theorem dX7_latest_10 : decode cX7_latest 10 = .ok (.lconst 0, 1) := by decide +kernel
theorem dX7_latest_11 : decode cX7_latest 11 = .ok (.ldc2_w 243, 3) := by decide +kernel
theorem dX7_latest_14 : decode cX7_latest 14 = .ok (.invokestatic 46, 3) := by decide +kernel
theorem dX7_latest_17 : decode cX7_latest 17 = .ok (.ifCond .ne 10, 3) := by decide +kernel
theorem dX7_latest_20 : decode cX7_latest 20 = .ok (.aload_n 0, 1) := by decide +kernel
theorem dX7_latest_21 : decode cX7_latest 21 = .ok (.ldc 40, 2) := by decide +kernel
theorem dX7_latest_23 : decode cX7_latest 23 = .ok (.invokevirtual 42, 3) := by decide +kernel
theorem dX7_latest_26 : decode cX7_latest 26 = .ok (.ireturn, 1) := by decide +kernel
theorem dX7_latest_27 : decode cX7_latest 27 = .ok (.iconst (-1), 1) := by decide +kernel
theorem dX7_latest_28 : decode cX7_latest 28 = .ok (.istore_n 3, 1) := by decide +kernel
theorem dX7_latest_29 : decode cX7_latest 29 = .ok (.iconst 0, 1) := by decide +kernel
theorem dX7_latest_30 : decode cX7_latest 30 = .ok (.istore 4, 2) := by decide +kernel
theorem dX7_latest_32 : decode cX7_latest 32 = .ok (.iload 4, 2) := by decide +kernel
theorem dX7_latest_34 : decode cX7_latest 34 = .ok (.iload_n 2, 1) := by decide +kernel
theorem dX7_latest_35 : decode cX7_latest 35 = .ok (.if_icmp .gt 35, 3) := by decide +kernel
theorem dX7_latest_38 : decode cX7_latest 38 = .ok (.aload_n 0, 1) := by decide +kernel
theorem dX7_latest_39 : decode cX7_latest 39 = .ok (.iload_n 1, 1) := by decide +kernel
theorem dX7_latest_40 : decode cX7_latest 40 = .ok (.iload 4, 2) := by decide +kernel
theorem dX7_latest_42 : decode cX7_latest 42 = .ok (.invokevirtual 231, 3) := by decide +kernel
theorem dX7_latest_45 : decode cX7_latest 45 = .ok (.ifCond .ge 17, 3) := by decide +kernel
theorem dX7_latest_48 : decode cX7_latest 48 = .ok (.aload_n 0, 1) := by decide +kernel
theorem dX7_latest_49 : decode cX7_latest 49 = .ok (.iload_n 1, 1) := by decide +kernel
theorem dX7_latest_50 : decode cX7_latest 50 = .ok (.invokevirtual 237, 3) := by decide +kernel
theorem dX7_latest_53 : decode cX7_latest 53 = .ok (.iload_n 2, 1) := by decide +kernel
theorem dX7_latest_54 : decode cX7_latest 54 = .ok (.if_icmp .gt 8, 3) := by decide +kernel
theorem dX7_latest_57 : decode cX7_latest 57 = .ok (.iload 4, 2) := by decide +kernel
theorem dX7_latest_59 : decode cX7_latest 59 = .ok (.goto 4, 3) := by decide +kernel
theorem dX7_latest_62 : decode cX7_latest 62 = .ok (.iload_n 3, 1) := by decide +kernel
theorem dX7_latest_63 : decode cX7_latest 63 = .ok (.istore_n 3, 1) := by decide +kernel
theorem dX7_latest_64 : decode cX7_latest 64 = .ok (.iinc 4 1, 3) := by decide +kernel
theorem dX7_latest_67 : decode cX7_latest 67 = .ok (.goto (-35), 3) := by decide +kernel
theorem dX7_latest_70 : decode cX7_latest 70 = .ok (.aload_n 0, 1) := by decide +kernel
theorem dX7_latest_71 : decode cX7_latest 71 = .ok (.iload_n 3, 1) := by decide +kernel
theorem dX7_latest_72 : decode cX7_latest 72 = .ok (.invokevirtual 228, 3) := by decide +kernel
theorem dX7_latest_75 : decode cX7_latest 75 = .ok (.ireturn, 1) := by decide +kernel
theorem dX7_waits_0 : decode cX7_waits 0 = .ok (.aload_n 0, 1) := by decide +kernel
theorem dX7_waits_1 : decode cX7_waits 1 = .ok (.iload_n 1, 1) := by decide +kernel
theorem dX7_waits_2 : decode cX7_waits 2 = .ok (.invokevirtual 58, 3) := by decide +kernel
theorem dX7_waits_5 : decode cX7_waits 5 = .ok (.ifCond .eq 10, 3) := by decide +kernel
theorem dX7_waits_8 : decode cX7_waits 8 = .ok (.iload_n 2, 1) := by decide +kernel
theorem dX7_waits_9 : decode cX7_waits 9 = .ok (.invokestatic 187, 3) := by decide +kernel
theorem dX7_waits_12 : decode cX7_waits 12 = .ok (.ifCond .ne 10, 3) := by decide +kernel
theorem dX7_waits_15 : decode cX7_waits 15 = .ok (.aload_n 0, 1) := by decide +kernel
theorem dX7_waits_16 : decode cX7_waits 16 = .ok (.ldc 40, 2) := by decide +kernel
theorem dX7_waits_18 : decode cX7_waits 18 = .ok (.invokevirtual 42, 3) := by decide +kernel
theorem dX7_waits_21 : decode cX7_waits 21 = .ok (.ireturn, 1) := by decide +kernel
theorem dX7_waits_22 : decode cX7_waits 22 = .ok (.aload_n 0, 1) := by decide +kernel
theorem dX7_waits_23 : decode cX7_waits 23 = .ok (.iload_n 1, 1) := by decide +kernel
theorem dX7_waits_24 : decode cX7_waits 24 = .ok (.iload_n 2, 1) := by decide +kernel
theorem dX7_waits_25 : decode cX7_waits 25 = .ok (.invokevirtual 234, 3) := by decide +kernel
theorem dX7_waits_28 : decode cX7_waits 28 = .ok (.ifCond .ge 10, 3) := by decide +kernel
theorem dX7_waits_31 : decode cX7_waits 31 = .ok (.aload_n 0, 1) := by decide +kernel
theorem dX7_waits_32 : decode cX7_waits 32 = .ok (.ldc 41, 2) := by decide +kernel
theorem dX7_waits_34 : decode cX7_waits 34 = .ok (.invokevirtual 42, 3) := by decide +kernel
theorem dX7_waits_37 : decode cX7_waits 37 = .ok (.ireturn, 1) := by decide +kernel
theorem dX7_waits_38 : decode cX7_waits 38 = .ok (.iconst 0, 1) := by decide +kernel
theorem dX7_waits_39 : decode cX7_waits 39 = .ok (.istore_n 3, 1) := by decide +kernel
theorem dX7_waits_40 : decode cX7_waits 40 = .ok (.iconst 1, 1) := by decide +kernel
theorem dX7_waits_41 : decode cX7_waits 41 = .ok (.istore 4, 2) := by decide +kernel
theorem dX7_waits_43 : decode cX7_waits 43 = .ok (.iload 4, 2) := by decide +kernel
theorem dX7_waits_45 : decode cX7_waits 45 = .ok (.aload_n 0, 1) := by decide +kernel
theorem dX7_waits_46 : decode cX7_waits 46 = .ok (.iload_n 1, 1) := by decide +kernel
theorem dX7_waits_47 : decode cX7_waits 47 = .ok (.invokevirtual 62, 3) := by decide +kernel
theorem dX7_waits_50 : decode cX7_waits 50 = .ok (.if_icmp .ge 52, 3) := by decide +kernel
theorem dX7_waits_53 : decode cX7_waits 53 = .ok (.aload_n 0, 1) := by decide +kernel
theorem dX7_waits_54 : decode cX7_waits 54 = .ok (.getfield 25, 3) := by decide +kernel
theorem dX7_waits_57 : decode cX7_waits 57 = .ok (.iload 4, 2) := by decide +kernel
theorem dX7_waits_59 : decode cX7_waits 59 = .ok (.iaload, 1) := by decide +kernel
theorem dX7_waits_60 : decode cX7_waits 60 = .ok (.aload_n 0, 1) := by decide +kernel
theorem dX7_waits_61 : decode cX7_waits 61 = .ok (.getfield 25, 3) := by decide +kernel
theorem dX7_waits_64 : decode cX7_waits 64 = .ok (.iload 4, 2) := by decide +kernel
theorem dX7_waits_66 : decode cX7_waits 66 = .ok (.iconst 1, 1) := by decide +kernel
theorem dX7_waits_67 : decode cX7_waits 67 = .ok (.isub, 1) := by decide +kernel
theorem dX7_waits_68 : decode cX7_waits 68 = .ok (.iaload, 1) := by decide +kernel
theorem dX7_waits_69 : decode cX7_waits 69 = .ok (.isub, 1) := by decide +kernel
theorem dX7_waits_70 : decode cX7_waits 70 = .ok (.iload_n 3, 1) := by decide +kernel
theorem dX7_waits_71 : decode cX7_waits 71 = .ok (.if_icmp .le 23, 3) := by decide +kernel
theorem dX7_waits_74 : decode cX7_waits 74 = .ok (.aload_n 0, 1) := by decide +kernel
theorem dX7_waits_75 : decode cX7_waits 75 = .ok (.getfield 25, 3) := by decide +kernel
theorem dX7_waits_78 : decode cX7_waits 78 = .ok (.iload 4, 2) := by decide +kernel
theorem dX7_waits_80 : decode cX7_waits 80 = .ok (.iaload, 1) := by decide +kernel
theorem dX7_waits_81 : decode cX7_waits 81 = .ok (.aload_n 0, 1) := by decide +kernel
theorem dX7_waits_82 : decode cX7_waits 82 = .ok (.getfield 25, 3) := by decide +kernel
theorem dX7_waits_85 : decode cX7_waits 85 = .ok (.iload 4, 2) := by decide +kernel
theorem dX7_waits_87 : decode cX7_waits 87 = .ok (.iconst 1, 1) := by decide +kernel
theorem dX7_waits_88 : decode cX7_waits 88 = .ok (.isub, 1) := by decide +kernel
theorem dX7_waits_89 : decode cX7_waits 89 = .ok (.iaload, 1) := by decide +kernel
theorem dX7_waits_90 : decode cX7_waits 90 = .ok (.isub, 1) := by decide +kernel
theorem dX7_waits_91 : decode cX7_waits 91 = .ok (.goto 4, 3) := by decide +kernel
theorem dX7_waits_94 : decode cX7_waits 94 = .ok (.iload_n 3, 1) := by decide +kernel
theorem dX7_waits_95 : decode cX7_waits 95 = .ok (.istore_n 3, 1) := by decide +kernel
theorem dX7_waits_96 : decode cX7_waits 96 = .ok (.iinc 4 1, 3) := by decide +kernel
theorem dX7_waits_99 : decode cX7_waits 99 = .ok (.goto (-56), 3) := by decide +kernel
theorem dX7_waits_102 : decode cX7_waits 102 = .ok (.iload_n 3, 1) := by decide +kernel
theorem dX7_waits_103 : decode cX7_waits 103 = .ok (.ireturn, 1) := by decide +kernel
theorem dX7_order_0 : decode cX7_order 0 = .ok (.aload_n 0, 1) := by decide +kernel
theorem dX7_order_1 : decode cX7_order 1 = .ok (.iload_n 1, 1) := by decide +kernel
theorem dX7_order_2 : decode cX7_order 2 = .ok (.invokevirtual 58, 3) := by decide +kernel
theorem dX7_order_5 : decode cX7_order 5 = .ok (.ifCond .eq 27, 3) := by decide +kernel
theorem dX7_order_8 : decode cX7_order 8 = .ok (.iload_n 2, 1) := by decide +kernel
theorem dX7_order_9 : decode cX7_order 9 = .ok (.i2l, 1) := by decide +kernel
theorem dX7_order_10 : decode cX7_order 10 = .ok (.lconst 0, 1) := by decide +kernel
theorem dX7_order_11 : decode cX7_order 11 = .ok (.ldc2_w 245, 3) := by decide +kernel
theorem dX7_order_14 : decode cX7_order 14 = .ok (.invokestatic 46, 3) := by decide +kernel
theorem dX7_order_17 : decode cX7_order 17 = .ok (.ifCond .eq 15, 3) := by decide +kernel
theorem dX7_order_20 : decode cX7_order 20 = .ok (.iload_n 3, 1) := by decide +kernel
theorem dX7_order_21 : decode cX7_order 21 = .ok (.i2l, 1) := by decide +kernel
theorem dX7_order_22 : decode cX7_order 22 = .ok (.lconst 1, 1) := by decide +kernel
theorem dX7_order_23 : decode cX7_order 23 = .ok (.ldc2_w 198, 3) := by decide +kernel
theorem dX7_order_26 : decode cX7_order 26 = .ok (.invokestatic 46, 3) := by decide +kernel
theorem dX7_order_29 : decode cX7_order 29 = .ok (.ifCond .ne 10, 3) := by decide +kernel
theorem dX7_order_32 : decode cX7_order 32 = .ok (.aload_n 0, 1) := by decide +kernel
theorem dX7_order_33 : decode cX7_order 33 = .ok (.ldc 40, 2) := by decide +kernel
theorem dX7_order_35 : decode cX7_order 35 = .ok (.invokevirtual 42, 3) := by decide +kernel
theorem dX7_order_38 : decode cX7_order 38 = .ok (.ireturn, 1) := by decide +kernel
theorem dX7_order_39 : decode cX7_order 39 = .ok (.aload_n 0, 1) := by decide +kernel
theorem dX7_order_40 : decode cX7_order 40 = .ok (.getfield 9, 3) := by decide +kernel
theorem dX7_order_43 : decode cX7_order 43 = .ok (.iconst 4, 1) := by decide +kernel
theorem dX7_order_44 : decode cX7_order 44 = .ok (.iaload, 1) := by decide +kernel
theorem dX7_order_45 : decode cX7_order 45 = .ok (.iconst 5, 1) := by decide +kernel
theorem dX7_order_46 : decode cX7_order 46 = .ok (.if_icmp .ne 10, 3) := by decide +kernel
theorem dX7_order_49 : decode cX7_order 49 = .ok (.aload_n 0, 1) := by decide +kernel
theorem dX7_order_50 : decode cX7_order 50 = .ok (.ldc 71, 2) := by decide +kernel
theorem dX7_order_52 : decode cX7_order 52 = .ok (.invokevirtual 42, 3) := by decide +kernel
theorem dX7_order_55 : decode cX7_order 55 = .ok (.ireturn, 1) := by decide +kernel
theorem dX7_order_56 : decode cX7_order 56 = .ok (.sipush 222, 3) := by decide +kernel
theorem dX7_order_59 : decode cX7_order 59 = .ok (.iconst 3, 1) := by decide +kernel
theorem dX7_order_60 : decode cX7_order 60 = .ok (.aload_n 0, 1) := by decide +kernel
theorem dX7_order_61 : decode cX7_order 61 = .ok (.getfield 9, 3) := by decide +kernel
theorem dX7_order_64 : decode cX7_order 64 = .ok (.iconst 4, 1) := by decide +kernel
theorem dX7_order_65 : decode cX7_order 65 = .ok (.iaload, 1) := by decide +kernel
theorem dX7_order_66 : decode cX7_order 66 = .ok (.imul, 1) := by decide +kernel
theorem dX7_order_67 : decode cX7_order 67 = .ok (.iadd, 1) := by decide +kernel
theorem dX7_order_68 : decode cX7_order 68 = .ok (.istore 4, 2) := by decide +kernel
theorem dX7_order_70 : decode cX7_order 70 = .ok (.aload_n 0, 1) := by decide +kernel
theorem dX7_order_71 : decode cX7_order 71 = .ok (.getfield 9, 3) := by decide +kernel
theorem dX7_order_74 : decode cX7_order 74 = .ok (.iload 4, 2) := by decide +kernel
theorem dX7_order_76 : decode cX7_order 76 = .ok (.iload_n 1, 1) := by decide +kernel
theorem dX7_order_77 : decode cX7_order 77 = .ok (.iastore, 1) := by decide +kernel
theorem dX7_order_78 : decode cX7_order 78 = .ok (.aload_n 0, 1) := by decide +kernel
theorem dX7_order_79 : decode cX7_order 79 = .ok (.getfield 9, 3) := by decide +kernel
theorem dX7_order_82 : decode cX7_order 82 = .ok (.iload 4, 2) := by decide +kernel
theorem dX7_order_84 : decode cX7_order 84 = .ok (.iconst 1, 1) := by decide +kernel
theorem dX7_order_85 : decode cX7_order 85 = .ok (.iadd, 1) := by decide +kernel
theorem dX7_order_86 : decode cX7_order 86 = .ok (.iload_n 2, 1) := by decide +kernel
theorem dX7_order_87 : decode cX7_order 87 = .ok (.iastore, 1) := by decide +kernel
theorem dX7_order_88 : decode cX7_order 88 = .ok (.aload_n 0, 1) := by decide +kernel
theorem dX7_order_89 : decode cX7_order 89 = .ok (.getfield 9, 3) := by decide +kernel
theorem dX7_order_92 : decode cX7_order 92 = .ok (.iload 4, 2) := by decide +kernel
theorem dX7_order_94 : decode cX7_order 94 = .ok (.iconst 2, 1) := by decide +kernel
theorem dX7_order_95 : decode cX7_order 95 = .ok (.iadd, 1) := by decide +kernel
theorem dX7_order_96 : decode cX7_order 96 = .ok (.iload_n 3, 1) := by decide +kernel
theorem dX7_order_97 : decode cX7_order 97 = .ok (.iastore, 1) := by decide +kernel
theorem dX7_order_98 : decode cX7_order 98 = .ok (.aload_n 0, 1) := by decide +kernel
theorem dX7_order_99 : decode cX7_order 99 = .ok (.getfield 9, 3) := by decide +kernel
theorem dX7_order_102 : decode cX7_order 102 = .ok (.iconst 4, 1) := by decide +kernel
theorem dX7_order_103 : decode cX7_order 103 = .ok (.dup2, 1) := by decide +kernel
theorem dX7_order_104 : decode cX7_order 104 = .ok (.iaload, 1) := by decide +kernel
theorem dX7_order_105 : decode cX7_order 105 = .ok (.iconst 1, 1) := by decide +kernel
theorem dX7_order_106 : decode cX7_order 106 = .ok (.iadd, 1) := by decide +kernel
theorem dX7_order_107 : decode cX7_order 107 = .ok (.iastore, 1) := by decide +kernel
theorem dX7_order_108 : decode cX7_order 108 = .ok (.aload_n 0, 1) := by decide +kernel
theorem dX7_order_109 : decode cX7_order 109 = .ok (.getfield 9, 3) := by decide +kernel
theorem dX7_order_112 : decode cX7_order 112 = .ok (.iconst 4, 1) := by decide +kernel
theorem dX7_order_113 : decode cX7_order 113 = .ok (.iaload, 1) := by decide +kernel
theorem dX7_order_114 : decode cX7_order 114 = .ok (.iconst 1, 1) := by decide +kernel
theorem dX7_order_115 : decode cX7_order 115 = .ok (.isub, 1) := by decide +kernel
theorem dX7_order_116 : decode cX7_order 116 = .ok (.ireturn, 1) := by decide +kernel
theorem dX7_orderOf_0 : decode cX7_orderOf 0 = .ok (.iload_n 1, 1) := by decide +kernel
theorem dX7_orderOf_1 : decode cX7_orderOf 1 = .ok (.i2l, 1) := by decide +kernel
theorem dX7_orderOf_2 : decode cX7_orderOf 2 = .ok (.lconst 0, 1) := by decide +kernel
theorem dX7_orderOf_3 : decode cX7_orderOf 3 = .ok (.aload_n 0, 1) := by decide +kernel
theorem dX7_orderOf_4 : decode cX7_orderOf 4 = .ok (.getfield 9, 3) := by decide +kernel
theorem dX7_orderOf_7 : decode cX7_orderOf 7 = .ok (.iconst 4, 1) := by decide +kernel
theorem dX7_orderOf_8 : decode cX7_orderOf 8 = .ok (.iaload, 1) := by decide +kernel
theorem dX7_orderOf_9 : decode cX7_orderOf 9 = .ok (.iconst 1, 1) := by decide +kernel
theorem dX7_orderOf_10 : decode cX7_orderOf 10 = .ok (.isub, 1) := by decide +kernel
theorem dX7_orderOf_11 : decode cX7_orderOf 11 = .ok (.i2l, 1) := by decide +kernel
theorem dX7_orderOf_12 : decode cX7_orderOf 12 = .ok (.invokestatic 46, 3) := by decide +kernel
theorem dX7_orderOf_15 : decode cX7_orderOf 15 = .ok (.ifCond .eq 32, 3) := by decide +kernel
theorem dX7_orderOf_18 : decode cX7_orderOf 18 = .ok (.iload_n 2, 1) := by decide +kernel
theorem dX7_orderOf_19 : decode cX7_orderOf 19 = .ok (.i2l, 1) := by decide +kernel
theorem dX7_orderOf_20 : decode cX7_orderOf 20 = .ok (.lconst 0, 1) := by decide +kernel
theorem dX7_orderOf_21 : decode cX7_orderOf 21 = .ok (.ldc2_w 208, 3) := by decide +kernel
theorem dX7_orderOf_24 : decode cX7_orderOf 24 = .ok (.invokestatic 46, 3) := by decide +kernel
theorem dX7_orderOf_27 : decode cX7_orderOf 27 = .ok (.ifCond .eq 20, 3) := by decide +kernel
theorem dX7_orderOf_30 : decode cX7_orderOf 30 = .ok (.aload_n 0, 1) := by decide +kernel
theorem dX7_orderOf_31 : decode cX7_orderOf 31 = .ok (.getfield 9, 3) := by decide +kernel
theorem dX7_orderOf_34 : decode cX7_orderOf 34 = .ok (.sipush 222, 3) := by decide +kernel
theorem dX7_orderOf_37 : decode cX7_orderOf 37 = .ok (.iconst 3, 1) := by decide +kernel
theorem dX7_orderOf_38 : decode cX7_orderOf 38 = .ok (.iload_n 1, 1) := by decide +kernel
theorem dX7_orderOf_39 : decode cX7_orderOf 39 = .ok (.imul, 1) := by decide +kernel
theorem dX7_orderOf_40 : decode cX7_orderOf 40 = .ok (.iadd, 1) := by decide +kernel
theorem dX7_orderOf_41 : decode cX7_orderOf 41 = .ok (.iload_n 2, 1) := by decide +kernel
theorem dX7_orderOf_42 : decode cX7_orderOf 42 = .ok (.iadd, 1) := by decide +kernel
theorem dX7_orderOf_43 : decode cX7_orderOf 43 = .ok (.iaload, 1) := by decide +kernel
theorem dX7_orderOf_44 : decode cX7_orderOf 44 = .ok (.goto 9, 3) := by decide +kernel
theorem dX7_orderOf_47 : decode cX7_orderOf 47 = .ok (.aload_n 0, 1) := by decide +kernel
theorem dX7_orderOf_48 : decode cX7_orderOf 48 = .ok (.ldc 40, 2) := by decide +kernel
theorem dX7_orderOf_50 : decode cX7_orderOf 50 = .ok (.invokevirtual 42, 3) := by decide +kernel
theorem dX7_orderOf_53 : decode cX7_orderOf 53 = .ok (.ireturn, 1) := by decide +kernel
theorem dX7_clear_0 : decode cX7_clear 0 = .ok (.aload_n 0, 1) := by decide +kernel
theorem dX7_clear_1 : decode cX7_clear 1 = .ok (.iconst 4, 1) := by decide +kernel
theorem dX7_clear_2 : decode cX7_clear 2 = .ok (.iconst 0, 1) := by decide +kernel
theorem dX7_clear_3 : decode cX7_clear 3 = .ok (.invokevirtual 168, 3) := by decide +kernel
theorem dX7_clear_6 : decode cX7_clear 6 = .ok (.ireturn, 1) := by decide +kernel
theorem dX7_noOrders_0 : decode cX7_noOrders 0 = .ok (.iconst 0, 1) := by decide +kernel
theorem dX7_noOrders_1 : decode cX7_noOrders 1 = .ok (.istore_n 1, 1) := by decide +kernel
theorem dX7_noOrders_2 : decode cX7_noOrders 2 = .ok (.iload_n 1, 1) := by decide +kernel
theorem dX7_noOrders_3 : decode cX7_noOrders 3 = .ok (.sipush 3200, 3) := by decide +kernel
theorem dX7_noOrders_6 : decode cX7_noOrders 6 = .ok (.if_icmp .ge 16, 3) := by decide +kernel
theorem dX7_noOrders_9 : decode cX7_noOrders 9 = .ok (.aload_n 0, 1) := by decide +kernel
theorem dX7_noOrders_10 : decode cX7_noOrders 10 = .ok (.getfield 28, 3) := by decide +kernel
theorem dX7_noOrders_13 : decode cX7_noOrders 13 = .ok (.iload_n 1, 1) := by decide +kernel
theorem dX7_noOrders_14 : decode cX7_noOrders 14 = .ok (.iconst 0, 1) := by decide +kernel
theorem dX7_noOrders_15 : decode cX7_noOrders 15 = .ok (.iastore, 1) := by decide +kernel
theorem dX7_noOrders_16 : decode cX7_noOrders 16 = .ok (.iinc 1 1, 3) := by decide +kernel
theorem dX7_noOrders_19 : decode cX7_noOrders 19 = .ok (.goto (-17), 3) := by decide +kernel
theorem dX7_noOrders_22 : decode cX7_noOrders 22 = .ok (.aload_n 0, 1) := by decide +kernel
theorem dX7_noOrders_23 : decode cX7_noOrders 23 = .ok (.iconst 0, 1) := by decide +kernel
theorem dX7_noOrders_24 : decode cX7_noOrders 24 = .ok (.putfield 247, 3) := by decide +kernel
theorem dX7_noOrders_27 : decode cX7_noOrders 27 = .ok (.aload_n 0, 1) := by decide +kernel
theorem dX7_noOrders_28 : decode cX7_noOrders 28 = .ok (.iconst 0, 1) := by decide +kernel
theorem dX7_noOrders_29 : decode cX7_noOrders 29 = .ok (.putfield 249, 3) := by decide +kernel
theorem dX7_noOrders_32 : decode cX7_noOrders 32 = .ok (.aload_n 0, 1) := by decide +kernel
theorem dX7_noOrders_33 : decode cX7_noOrders 33 = .ok (.iconst (-1), 1) := by decide +kernel
theorem dX7_noOrders_34 : decode cX7_noOrders 34 = .ok (.putfield 252, 3) := by decide +kernel
theorem dX7_noOrders_37 : decode cX7_noOrders 37 = .ok (.return_, 1) := by decide +kernel
theorem dX7_slot_0 : decode cX7_slot 0 = .ok (.sipush 400, 3) := by decide +kernel
theorem dX7_slot_3 : decode cX7_slot 3 = .ok (.iload_n 0, 1) := by decide +kernel
theorem dX7_slot_4 : decode cX7_slot 4 = .ok (.imul, 1) := by decide +kernel
theorem dX7_slot_5 : decode cX7_slot 5 = .ok (.iload_n 1, 1) := by decide +kernel
theorem dX7_slot_6 : decode cX7_slot 6 = .ok (.iadd, 1) := by decide +kernel
theorem dX7_slot_7 : decode cX7_slot 7 = .ok (.ireturn, 1) := by decide +kernel
theorem dX7_gets_0 : decode cX7_gets 0 = .ok (.iconst 0, 1) := by decide +kernel
theorem dX7_gets_1 : decode cX7_gets 1 = .ok (.istore_n 3, 1) := by decide +kernel
theorem dX7_gets_2 : decode cX7_gets 2 = .ok (.iload_n 3, 1) := by decide +kernel
theorem dX7_gets_3 : decode cX7_gets 3 = .ok (.aload_n 0, 1) := by decide +kernel
theorem dX7_gets_4 : decode cX7_gets 4 = .ok (.iload_n 1, 1) := by decide +kernel
theorem dX7_gets_5 : decode cX7_gets 5 = .ok (.invokevirtual 62, 3) := by decide +kernel
theorem dX7_gets_8 : decode cX7_gets 8 = .ok (.if_icmp .ge 42, 3) := by decide +kernel
theorem dX7_gets_11 : decode cX7_gets 11 = .ok (.aload_n 0, 1) := by decide +kernel
theorem dX7_gets_12 : decode cX7_gets 12 = .ok (.getfield 28, 3) := by decide +kernel
theorem dX7_gets_15 : decode cX7_gets 15 = .ok (.aload_n 0, 1) := by decide +kernel
theorem dX7_gets_16 : decode cX7_gets 16 = .ok (.iload_n 1, 1) := by decide +kernel
theorem dX7_gets_17 : decode cX7_gets 17 = .ok (.iload_n 3, 1) := by decide +kernel
theorem dX7_gets_18 : decode cX7_gets 18 = .ok (.iconst 0, 1) := by decide +kernel
theorem dX7_gets_19 : decode cX7_gets 19 = .ok (.invokevirtual 210, 3) := by decide +kernel
theorem dX7_gets_22 : decode cX7_gets 22 = .ok (.aload_n 0, 1) := by decide +kernel
theorem dX7_gets_23 : decode cX7_gets 23 = .ok (.getfield 25, 3) := by decide +kernel
theorem dX7_gets_26 : decode cX7_gets 26 = .ok (.iload_n 3, 1) := by decide +kernel
theorem dX7_gets_27 : decode cX7_gets 27 = .ok (.iaload, 1) := by decide +kernel
theorem dX7_gets_28 : decode cX7_gets 28 = .ok (.invokestatic 255, 3) := by decide +kernel
theorem dX7_gets_31 : decode cX7_gets 31 = .ok (.dup2, 1) := by decide +kernel
theorem dX7_gets_32 : decode cX7_gets 32 = .ok (.iaload, 1) := by decide +kernel
theorem dX7_gets_33 : decode cX7_gets 33 = .ok (.iload_n 2, 1) := by decide +kernel
theorem dX7_gets_34 : decode cX7_gets 34 = .ok (.aload_n 0, 1) := by decide +kernel
theorem dX7_gets_35 : decode cX7_gets 35 = .ok (.iload_n 1, 1) := by decide +kernel
theorem dX7_gets_36 : decode cX7_gets 36 = .ok (.iload_n 3, 1) := by decide +kernel
theorem dX7_gets_37 : decode cX7_gets 37 = .ok (.iconst 1, 1) := by decide +kernel
theorem dX7_gets_38 : decode cX7_gets 38 = .ok (.invokevirtual 210, 3) := by decide +kernel
theorem dX7_gets_41 : decode cX7_gets 41 = .ok (.imul, 1) := by decide +kernel
theorem dX7_gets_42 : decode cX7_gets 42 = .ok (.iadd, 1) := by decide +kernel
theorem dX7_gets_43 : decode cX7_gets 43 = .ok (.iastore, 1) := by decide +kernel
theorem dX7_gets_44 : decode cX7_gets 44 = .ok (.iinc 3 1, 3) := by decide +kernel
theorem dX7_gets_47 : decode cX7_gets 47 = .ok (.goto (-45), 3) := by decide +kernel
theorem dX7_gets_50 : decode cX7_gets 50 = .ok (.return_, 1) := by decide +kernel
theorem dX7_areFree_0 : decode cX7_areFree 0 = .ok (.aload_n 0, 1) := by decide +kernel
theorem dX7_areFree_1 : decode cX7_areFree 1 = .ok (.iload_n 1, 1) := by decide +kernel
theorem dX7_areFree_2 : decode cX7_areFree 2 = .ok (.iconst 1, 1) := by decide +kernel
theorem dX7_areFree_3 : decode cX7_areFree 3 = .ok (.invokevirtual 258, 3) := by decide +kernel
theorem dX7_areFree_6 : decode cX7_areFree 6 = .ok (.iconst 1, 1) := by decide +kernel
theorem dX7_areFree_7 : decode cX7_areFree 7 = .ok (.istore_n 2, 1) := by decide +kernel
theorem dX7_areFree_8 : decode cX7_areFree 8 = .ok (.iconst 0, 1) := by decide +kernel
theorem dX7_areFree_9 : decode cX7_areFree 9 = .ok (.istore_n 3, 1) := by decide +kernel
theorem dX7_areFree_10 : decode cX7_areFree 10 = .ok (.iload_n 3, 1) := by decide +kernel
theorem dX7_areFree_11 : decode cX7_areFree 11 = .ok (.aload_n 0, 1) := by decide +kernel
theorem dX7_areFree_12 : decode cX7_areFree 12 = .ok (.iload_n 1, 1) := by decide +kernel
theorem dX7_areFree_13 : decode cX7_areFree 13 = .ok (.invokevirtual 62, 3) := by decide +kernel
theorem dX7_areFree_16 : decode cX7_areFree 16 = .ok (.if_icmp .ge 45, 3) := by decide +kernel
theorem dX7_areFree_19 : decode cX7_areFree 19 = .ok (.iload_n 2, 1) := by decide +kernel
theorem dX7_areFree_20 : decode cX7_areFree 20 = .ok (.ifCond .eq 33, 3) := by decide +kernel
theorem dX7_areFree_23 : decode cX7_areFree 23 = .ok (.aload_n 0, 1) := by decide +kernel
theorem dX7_areFree_24 : decode cX7_areFree 24 = .ok (.getfield 28, 3) := by decide +kernel
theorem dX7_areFree_27 : decode cX7_areFree 27 = .ok (.aload_n 0, 1) := by decide +kernel
theorem dX7_areFree_28 : decode cX7_areFree 28 = .ok (.iload_n 1, 1) := by decide +kernel
theorem dX7_areFree_29 : decode cX7_areFree 29 = .ok (.iload_n 3, 1) := by decide +kernel
theorem dX7_areFree_30 : decode cX7_areFree 30 = .ok (.iconst 0, 1) := by decide +kernel
theorem dX7_areFree_31 : decode cX7_areFree 31 = .ok (.invokevirtual 210, 3) := by decide +kernel
theorem dX7_areFree_34 : decode cX7_areFree 34 = .ok (.aload_n 0, 1) := by decide +kernel
theorem dX7_areFree_35 : decode cX7_areFree 35 = .ok (.getfield 25, 3) := by decide +kernel
theorem dX7_areFree_38 : decode cX7_areFree 38 = .ok (.iload_n 3, 1) := by decide +kernel
theorem dX7_areFree_39 : decode cX7_areFree 39 = .ok (.iaload, 1) := by decide +kernel
theorem dX7_areFree_40 : decode cX7_areFree 40 = .ok (.invokestatic 255, 3) := by decide +kernel
theorem dX7_areFree_43 : decode cX7_areFree 43 = .ok (.iaload, 1) := by decide +kernel
theorem dX7_areFree_44 : decode cX7_areFree 44 = .ok (.bipush 8, 2) := by decide +kernel
theorem dX7_areFree_46 : decode cX7_areFree 46 = .ok (.if_icmp .gt 7, 3) := by decide +kernel
theorem dX7_areFree_49 : decode cX7_areFree 49 = .ok (.iconst 1, 1) := by decide +kernel
theorem dX7_areFree_50 : decode cX7_areFree 50 = .ok (.goto 4, 3) := by decide +kernel
theorem dX7_areFree_53 : decode cX7_areFree 53 = .ok (.iconst 0, 1) := by decide +kernel
theorem dX7_areFree_54 : decode cX7_areFree 54 = .ok (.istore_n 2, 1) := by decide +kernel
theorem dX7_areFree_55 : decode cX7_areFree 55 = .ok (.iinc 3 1, 3) := by decide +kernel
theorem dX7_areFree_58 : decode cX7_areFree 58 = .ok (.goto (-48), 3) := by decide +kernel
theorem dX7_areFree_61 : decode cX7_areFree 61 = .ok (.aload_n 0, 1) := by decide +kernel
theorem dX7_areFree_62 : decode cX7_areFree 62 = .ok (.iload_n 1, 1) := by decide +kernel
theorem dX7_areFree_63 : decode cX7_areFree 63 = .ok (.iconst (-1), 1) := by decide +kernel
theorem dX7_areFree_64 : decode cX7_areFree 64 = .ok (.invokevirtual 258, 3) := by decide +kernel
theorem dX7_areFree_67 : decode cX7_areFree 67 = .ok (.iload_n 2, 1) := by decide +kernel
theorem dX7_areFree_68 : decode cX7_areFree 68 = .ok (.ireturn, 1) := by decide +kernel
theorem dX7_takesOrder_0 : decode cX7_takesOrder 0 = .ok (.aload_n 0, 1) := by decide +kernel
theorem dX7_takesOrder_1 : decode cX7_takesOrder 1 = .ok (.getfield 9, 3) := by decide +kernel
theorem dX7_takesOrder_4 : decode cX7_takesOrder 4 = .ok (.sipush 222, 3) := by decide +kernel
theorem dX7_takesOrder_7 : decode cX7_takesOrder 7 = .ok (.iconst 3, 1) := by decide +kernel
theorem dX7_takesOrder_8 : decode cX7_takesOrder 8 = .ok (.iload_n 1, 1) := by decide +kernel
theorem dX7_takesOrder_9 : decode cX7_takesOrder 9 = .ok (.imul, 1) := by decide +kernel
theorem dX7_takesOrder_10 : decode cX7_takesOrder 10 = .ok (.iadd, 1) := by decide +kernel
theorem dX7_takesOrder_11 : decode cX7_takesOrder 11 = .ok (.iaload, 1) := by decide +kernel
theorem dX7_takesOrder_12 : decode cX7_takesOrder 12 = .ok (.istore_n 2, 1) := by decide +kernel
theorem dX7_takesOrder_13 : decode cX7_takesOrder 13 = .ok (.iconst 0, 1) := by decide +kernel
theorem dX7_takesOrder_14 : decode cX7_takesOrder 14 = .ok (.istore_n 3, 1) := by decide +kernel
theorem dX7_takesOrder_15 : decode cX7_takesOrder 15 = .ok (.iload_n 3, 1) := by decide +kernel
theorem dX7_takesOrder_16 : decode cX7_takesOrder 16 = .ok (.sipush 200, 3) := by decide +kernel
theorem dX7_takesOrder_19 : decode cX7_takesOrder 19 = .ok (.if_icmp .gt 133, 3) := by decide +kernel
theorem dX7_takesOrder_22 : decode cX7_takesOrder 22 = .ok (.aload_n 0, 1) := by decide +kernel
theorem dX7_takesOrder_23 : decode cX7_takesOrder 23 = .ok (.iload_n 2, 1) := by decide +kernel
theorem dX7_takesOrder_24 : decode cX7_takesOrder 24 = .ok (.iload_n 3, 1) := by decide +kernel
theorem dX7_takesOrder_25 : decode cX7_takesOrder 25 = .ok (.invokevirtual 231, 3) := by decide +kernel
theorem dX7_takesOrder_28 : decode cX7_takesOrder 28 = .ok (.ifCond .ge 118, 3) := by decide +kernel
theorem dX7_takesOrder_31 : decode cX7_takesOrder 31 = .ok (.aload_n 0, 1) := by decide +kernel
theorem dX7_takesOrder_32 : decode cX7_takesOrder 32 = .ok (.iload_n 2, 1) := by decide +kernel
theorem dX7_takesOrder_33 : decode cX7_takesOrder 33 = .ok (.invokevirtual 237, 3) := by decide +kernel
theorem dX7_takesOrder_36 : decode cX7_takesOrder 36 = .ok (.sipush 399, 3) := by decide +kernel
theorem dX7_takesOrder_39 : decode cX7_takesOrder 39 = .ok (.if_icmp .gt 107, 3) := by decide +kernel
theorem dX7_takesOrder_42 : decode cX7_takesOrder 42 = .ok (.aload_n 0, 1) := by decide +kernel
theorem dX7_takesOrder_43 : decode cX7_takesOrder 43 = .ok (.iload_n 2, 1) := by decide +kernel
theorem dX7_takesOrder_44 : decode cX7_takesOrder 44 = .ok (.invokevirtual 262, 3) := by decide +kernel
theorem dX7_takesOrder_47 : decode cX7_takesOrder 47 = .ok (.ifCond .ne 6, 3) := by decide +kernel
theorem dX7_takesOrder_50 : decode cX7_takesOrder 50 = .ok (.goto 96, 3) := by decide +kernel
theorem dX7_takesOrder_53 : decode cX7_takesOrder 53 = .ok (.aload_n 0, 1) := by decide +kernel
theorem dX7_takesOrder_54 : decode cX7_takesOrder 54 = .ok (.iload_n 2, 1) := by decide +kernel
theorem dX7_takesOrder_55 : decode cX7_takesOrder 55 = .ok (.invokevirtual 237, 3) := by decide +kernel
theorem dX7_takesOrder_58 : decode cX7_takesOrder 58 = .ok (.aload_n 0, 1) := by decide +kernel
theorem dX7_takesOrder_59 : decode cX7_takesOrder 59 = .ok (.getfield 9, 3) := by decide +kernel
theorem dX7_takesOrder_62 : decode cX7_takesOrder 62 = .ok (.sipush 222, 3) := by decide +kernel
theorem dX7_takesOrder_65 : decode cX7_takesOrder 65 = .ok (.iconst 3, 1) := by decide +kernel
theorem dX7_takesOrder_66 : decode cX7_takesOrder 66 = .ok (.iload_n 1, 1) := by decide +kernel
theorem dX7_takesOrder_67 : decode cX7_takesOrder 67 = .ok (.imul, 1) := by decide +kernel
theorem dX7_takesOrder_68 : decode cX7_takesOrder 68 = .ok (.iadd, 1) := by decide +kernel
theorem dX7_takesOrder_69 : decode cX7_takesOrder 69 = .ok (.iconst 1, 1) := by decide +kernel
theorem dX7_takesOrder_70 : decode cX7_takesOrder 70 = .ok (.iadd, 1) := by decide +kernel
theorem dX7_takesOrder_71 : decode cX7_takesOrder 71 = .ok (.iaload, 1) := by decide +kernel
theorem dX7_takesOrder_72 : decode cX7_takesOrder 72 = .ok (.if_icmp .le 4, 3) := by decide +kernel
theorem dX7_takesOrder_75 : decode cX7_takesOrder 75 = .ok (.return_, 1) := by decide +kernel
theorem dX7_takesOrder_76 : decode cX7_takesOrder 76 = .ok (.aload_n 0, 1) := by decide +kernel
theorem dX7_takesOrder_77 : decode cX7_takesOrder 77 = .ok (.iload_n 2, 1) := by decide +kernel
theorem dX7_takesOrder_78 : decode cX7_takesOrder 78 = .ok (.iconst 1, 1) := by decide +kernel
theorem dX7_takesOrder_79 : decode cX7_takesOrder 79 = .ok (.invokevirtual 258, 3) := by decide +kernel
theorem dX7_takesOrder_82 : decode cX7_takesOrder 82 = .ok (.aload_n 0, 1) := by decide +kernel
theorem dX7_takesOrder_83 : decode cX7_takesOrder 83 = .ok (.dup, 1) := by decide +kernel
theorem dX7_takesOrder_84 : decode cX7_takesOrder 84 = .ok (.getfield 247, 3) := by decide +kernel
theorem dX7_takesOrder_87 : decode cX7_takesOrder 87 = .ok (.aload_n 0, 1) := by decide +kernel
theorem dX7_takesOrder_88 : decode cX7_takesOrder 88 = .ok (.getfield 9, 3) := by decide +kernel
theorem dX7_takesOrder_91 : decode cX7_takesOrder 91 = .ok (.sipush 222, 3) := by decide +kernel
theorem dX7_takesOrder_94 : decode cX7_takesOrder 94 = .ok (.iconst 3, 1) := by decide +kernel
theorem dX7_takesOrder_95 : decode cX7_takesOrder 95 = .ok (.iload_n 1, 1) := by decide +kernel
theorem dX7_takesOrder_96 : decode cX7_takesOrder 96 = .ok (.imul, 1) := by decide +kernel
theorem dX7_takesOrder_97 : decode cX7_takesOrder 97 = .ok (.iadd, 1) := by decide +kernel
theorem dX7_takesOrder_98 : decode cX7_takesOrder 98 = .ok (.iconst 2, 1) := by decide +kernel
theorem dX7_takesOrder_99 : decode cX7_takesOrder 99 = .ok (.iadd, 1) := by decide +kernel
theorem dX7_takesOrder_100 : decode cX7_takesOrder 100 = .ok (.iaload, 1) := by decide +kernel
theorem dX7_takesOrder_101 : decode cX7_takesOrder 101 = .ok (.iadd, 1) := by decide +kernel
theorem dX7_takesOrder_102 : decode cX7_takesOrder 102 = .ok (.putfield 247, 3) := by decide +kernel
theorem dX7_takesOrder_105 : decode cX7_takesOrder 105 = .ok (.aload_n 0, 1) := by decide +kernel
theorem dX7_takesOrder_106 : decode cX7_takesOrder 106 = .ok (.dup, 1) := by decide +kernel
theorem dX7_takesOrder_107 : decode cX7_takesOrder 107 = .ok (.getfield 249, 3) := by decide +kernel
theorem dX7_takesOrder_110 : decode cX7_takesOrder 110 = .ok (.iconst 1, 1) := by decide +kernel
theorem dX7_takesOrder_111 : decode cX7_takesOrder 111 = .ok (.iload_n 1, 1) := by decide +kernel
theorem dX7_takesOrder_112 : decode cX7_takesOrder 112 = .ok (.ishl, 1) := by decide +kernel
theorem dX7_takesOrder_113 : decode cX7_takesOrder 113 = .ok (.ior, 1) := by decide +kernel
theorem dX7_takesOrder_114 : decode cX7_takesOrder 114 = .ok (.putfield 249, 3) := by decide +kernel
theorem dX7_takesOrder_117 : decode cX7_takesOrder 117 = .ok (.aload_n 0, 1) := by decide +kernel
theorem dX7_takesOrder_118 : decode cX7_takesOrder 118 = .ok (.aload_n 0, 1) := by decide +kernel
theorem dX7_takesOrder_119 : decode cX7_takesOrder 119 = .ok (.iload_n 2, 1) := by decide +kernel
theorem dX7_takesOrder_120 : decode cX7_takesOrder 120 = .ok (.invokevirtual 237, 3) := by decide +kernel
theorem dX7_takesOrder_123 : decode cX7_takesOrder 123 = .ok (.aload_n 0, 1) := by decide +kernel
theorem dX7_takesOrder_124 : decode cX7_takesOrder 124 = .ok (.getfield 252, 3) := by decide +kernel
theorem dX7_takesOrder_127 : decode cX7_takesOrder 127 = .ok (.if_icmp .le 11, 3) := by decide +kernel
theorem dX7_takesOrder_130 : decode cX7_takesOrder 130 = .ok (.aload_n 0, 1) := by decide +kernel
theorem dX7_takesOrder_131 : decode cX7_takesOrder 131 = .ok (.iload_n 2, 1) := by decide +kernel
theorem dX7_takesOrder_132 : decode cX7_takesOrder 132 = .ok (.invokevirtual 237, 3) := by decide +kernel
theorem dX7_takesOrder_135 : decode cX7_takesOrder 135 = .ok (.goto 7, 3) := by decide +kernel
theorem dX7_takesOrder_138 : decode cX7_takesOrder 138 = .ok (.aload_n 0, 1) := by decide +kernel
theorem dX7_takesOrder_139 : decode cX7_takesOrder 139 = .ok (.getfield 252, 3) := by decide +kernel
theorem dX7_takesOrder_142 : decode cX7_takesOrder 142 = .ok (.putfield 252, 3) := by decide +kernel
theorem dX7_takesOrder_145 : decode cX7_takesOrder 145 = .ok (.return_, 1) := by decide +kernel
theorem dX7_takesOrder_146 : decode cX7_takesOrder 146 = .ok (.iinc 3 1, 3) := by decide +kernel
theorem dX7_takesOrder_149 : decode cX7_takesOrder 149 = .ok (.goto (-134), 3) := by decide +kernel
theorem dX7_takesOrder_152 : decode cX7_takesOrder 152 = .ok (.return_, 1) := by decide +kernel
theorem dX7_areOrders_0 : decode cX7_areOrders 0 = .ok (.iload_n 1, 1) := by decide +kernel
theorem dX7_areOrders_1 : decode cX7_areOrders 1 = .ok (.istore_n 3, 1) := by decide +kernel
theorem dX7_areOrders_2 : decode cX7_areOrders 2 = .ok (.iconst 0, 1) := by decide +kernel
theorem dX7_areOrders_3 : decode cX7_areOrders 3 = .ok (.istore 4, 2) := by decide +kernel
theorem dX7_areOrders_5 : decode cX7_areOrders 5 = .ok (.iconst 0, 1) := by decide +kernel
theorem dX7_areOrders_6 : decode cX7_areOrders 6 = .ok (.istore 5, 2) := by decide +kernel
theorem dX7_areOrders_8 : decode cX7_areOrders 8 = .ok (.iload 5, 2) := by decide +kernel
theorem dX7_areOrders_10 : decode cX7_areOrders 10 = .ok (.iload_n 2, 1) := by decide +kernel
theorem dX7_areOrders_11 : decode cX7_areOrders 11 = .ok (.if_icmp .ge 52, 3) := by decide +kernel
theorem dX7_areOrders_14 : decode cX7_areOrders 14 = .ok (.iload_n 3, 1) := by decide +kernel
theorem dX7_areOrders_15 : decode cX7_areOrders 15 = .ok (.bipush 10, 2) := by decide +kernel
theorem dX7_areOrders_17 : decode cX7_areOrders 17 = .ok (.irem, 1) := by decide +kernel
theorem dX7_areOrders_18 : decode cX7_areOrders 18 = .ok (.istore 6, 2) := by decide +kernel
theorem dX7_areOrders_20 : decode cX7_areOrders 20 = .ok (.iload 6, 2) := by decide +kernel
theorem dX7_areOrders_22 : decode cX7_areOrders 22 = .ok (.aload_n 0, 1) := by decide +kernel
theorem dX7_areOrders_23 : decode cX7_areOrders 23 = .ok (.getfield 9, 3) := by decide +kernel
theorem dX7_areOrders_26 : decode cX7_areOrders 26 = .ok (.iconst 4, 1) := by decide +kernel
theorem dX7_areOrders_27 : decode cX7_areOrders 27 = .ok (.iaload, 1) := by decide +kernel
theorem dX7_areOrders_28 : decode cX7_areOrders 28 = .ok (.if_icmp .ge 13, 3) := by decide +kernel
theorem dX7_areOrders_31 : decode cX7_areOrders 31 = .ok (.iload 4, 2) := by decide +kernel
theorem dX7_areOrders_33 : decode cX7_areOrders 33 = .ok (.iload 6, 2) := by decide +kernel
theorem dX7_areOrders_35 : decode cX7_areOrders 35 = .ok (.invokestatic 180, 3) := by decide +kernel
theorem dX7_areOrders_38 : decode cX7_areOrders 38 = .ok (.ifCond .eq 5, 3) := by decide +kernel
theorem dX7_areOrders_41 : decode cX7_areOrders 41 = .ok (.iconst 0, 1) := by decide +kernel
theorem dX7_areOrders_42 : decode cX7_areOrders 42 = .ok (.ireturn, 1) := by decide +kernel
theorem dX7_areOrders_43 : decode cX7_areOrders 43 = .ok (.iload 4, 2) := by decide +kernel
theorem dX7_areOrders_45 : decode cX7_areOrders 45 = .ok (.iconst 1, 1) := by decide +kernel
theorem dX7_areOrders_46 : decode cX7_areOrders 46 = .ok (.iload 6, 2) := by decide +kernel
theorem dX7_areOrders_48 : decode cX7_areOrders 48 = .ok (.ishl, 1) := by decide +kernel
theorem dX7_areOrders_49 : decode cX7_areOrders 49 = .ok (.ior, 1) := by decide +kernel
theorem dX7_areOrders_50 : decode cX7_areOrders 50 = .ok (.istore 4, 2) := by decide +kernel
theorem dX7_areOrders_52 : decode cX7_areOrders 52 = .ok (.iload_n 3, 1) := by decide +kernel
theorem dX7_areOrders_53 : decode cX7_areOrders 53 = .ok (.bipush 10, 2) := by decide +kernel
theorem dX7_areOrders_55 : decode cX7_areOrders 55 = .ok (.idiv, 1) := by decide +kernel
theorem dX7_areOrders_56 : decode cX7_areOrders 56 = .ok (.istore_n 3, 1) := by decide +kernel
theorem dX7_areOrders_57 : decode cX7_areOrders 57 = .ok (.iinc 5 1, 3) := by decide +kernel
theorem dX7_areOrders_60 : decode cX7_areOrders 60 = .ok (.goto (-52), 3) := by decide +kernel
theorem dX7_areOrders_63 : decode cX7_areOrders 63 = .ok (.iload_n 3, 1) := by decide +kernel
theorem dX7_areOrders_64 : decode cX7_areOrders 64 = .ok (.ifCond .ne 7, 3) := by decide +kernel
theorem dX7_areOrders_67 : decode cX7_areOrders 67 = .ok (.iconst 1, 1) := by decide +kernel
theorem dX7_areOrders_68 : decode cX7_areOrders 68 = .ok (.goto 4, 3) := by decide +kernel
theorem dX7_areOrders_71 : decode cX7_areOrders 71 = .ok (.iconst 0, 1) := by decide +kernel
theorem dX7_areOrders_72 : decode cX7_areOrders 72 = .ok (.ireturn, 1) := by decide +kernel
theorem dX7_takesAll_0 : decode cX7_takesAll 0 = .ok (.aload_n 0, 1) := by decide +kernel
theorem dX7_takesAll_1 : decode cX7_takesAll 1 = .ok (.invokevirtual 265, 3) := by decide +kernel
theorem dX7_takesAll_4 : decode cX7_takesAll 4 = .ok (.iconst 1, 1) := by decide +kernel
theorem dX7_takesAll_5 : decode cX7_takesAll 5 = .ok (.istore_n 3, 1) := by decide +kernel
theorem dX7_takesAll_6 : decode cX7_takesAll 6 = .ok (.iconst 1, 1) := by decide +kernel
theorem dX7_takesAll_7 : decode cX7_takesAll 7 = .ok (.istore 4, 2) := by decide +kernel
theorem dX7_takesAll_9 : decode cX7_takesAll 9 = .ok (.iload 4, 2) := by decide +kernel
theorem dX7_takesAll_11 : decode cX7_takesAll 11 = .ok (.iload_n 2, 1) := by decide +kernel
theorem dX7_takesAll_12 : decode cX7_takesAll 12 = .ok (.if_icmp .ge 14, 3) := by decide +kernel
theorem dX7_takesAll_15 : decode cX7_takesAll 15 = .ok (.iload_n 3, 1) := by decide +kernel
theorem dX7_takesAll_16 : decode cX7_takesAll 16 = .ok (.bipush 10, 2) := by decide +kernel
theorem dX7_takesAll_18 : decode cX7_takesAll 18 = .ok (.imul, 1) := by decide +kernel
theorem dX7_takesAll_19 : decode cX7_takesAll 19 = .ok (.istore_n 3, 1) := by decide +kernel
theorem dX7_takesAll_20 : decode cX7_takesAll 20 = .ok (.iinc 4 1, 3) := by decide +kernel
theorem dX7_takesAll_23 : decode cX7_takesAll 23 = .ok (.goto (-14), 3) := by decide +kernel
theorem dX7_takesAll_26 : decode cX7_takesAll 26 = .ok (.iconst 0, 1) := by decide +kernel
theorem dX7_takesAll_27 : decode cX7_takesAll 27 = .ok (.istore 4, 2) := by decide +kernel
theorem dX7_takesAll_29 : decode cX7_takesAll 29 = .ok (.iload 4, 2) := by decide +kernel
theorem dX7_takesAll_31 : decode cX7_takesAll 31 = .ok (.iload_n 2, 1) := by decide +kernel
theorem dX7_takesAll_32 : decode cX7_takesAll 32 = .ok (.if_icmp .ge 24, 3) := by decide +kernel
theorem dX7_takesAll_35 : decode cX7_takesAll 35 = .ok (.aload_n 0, 1) := by decide +kernel
theorem dX7_takesAll_36 : decode cX7_takesAll 36 = .ok (.iload_n 1, 1) := by decide +kernel
theorem dX7_takesAll_37 : decode cX7_takesAll 37 = .ok (.iload_n 3, 1) := by decide +kernel
theorem dX7_takesAll_38 : decode cX7_takesAll 38 = .ok (.idiv, 1) := by decide +kernel
theorem dX7_takesAll_39 : decode cX7_takesAll 39 = .ok (.bipush 10, 2) := by decide +kernel
theorem dX7_takesAll_41 : decode cX7_takesAll 41 = .ok (.irem, 1) := by decide +kernel
theorem dX7_takesAll_42 : decode cX7_takesAll 42 = .ok (.invokevirtual 268, 3) := by decide +kernel
theorem dX7_takesAll_45 : decode cX7_takesAll 45 = .ok (.iload_n 3, 1) := by decide +kernel
theorem dX7_takesAll_46 : decode cX7_takesAll 46 = .ok (.bipush 10, 2) := by decide +kernel
theorem dX7_takesAll_48 : decode cX7_takesAll 48 = .ok (.idiv, 1) := by decide +kernel
theorem dX7_takesAll_49 : decode cX7_takesAll 49 = .ok (.istore_n 3, 1) := by decide +kernel
theorem dX7_takesAll_50 : decode cX7_takesAll 50 = .ok (.iinc 4 1, 3) := by decide +kernel
theorem dX7_takesAll_53 : decode cX7_takesAll 53 = .ok (.goto (-24), 3) := by decide +kernel
theorem dX7_takesAll_56 : decode cX7_takesAll 56 = .ok (.return_, 1) := by decide +kernel
theorem dX7_taken_0 : decode cX7_taken 0 = .ok (.iload_n 1, 1) := by decide +kernel
theorem dX7_taken_1 : decode cX7_taken 1 = .ok (.ifCond .lt 42, 3) := by decide +kernel
theorem dX7_taken_4 : decode cX7_taken 4 = .ok (.iload_n 2, 1) := by decide +kernel
theorem dX7_taken_5 : decode cX7_taken 5 = .ok (.i2l, 1) := by decide +kernel
theorem dX7_taken_6 : decode cX7_taken 6 = .ok (.lconst 0, 1) := by decide +kernel
theorem dX7_taken_7 : decode cX7_taken 7 = .ok (.ldc2_w 271, 3) := by decide +kernel
theorem dX7_taken_10 : decode cX7_taken 10 = .ok (.invokestatic 46, 3) := by decide +kernel
theorem dX7_taken_13 : decode cX7_taken 13 = .ok (.ifCond .eq 30, 3) := by decide +kernel
theorem dX7_taken_16 : decode cX7_taken 16 = .ok (.aload_n 0, 1) := by decide +kernel
theorem dX7_taken_17 : decode cX7_taken 17 = .ok (.iload_n 1, 1) := by decide +kernel
theorem dX7_taken_18 : decode cX7_taken 18 = .ok (.iload_n 2, 1) := by decide +kernel
theorem dX7_taken_19 : decode cX7_taken 19 = .ok (.invokevirtual 273, 3) := by decide +kernel
theorem dX7_taken_22 : decode cX7_taken 22 = .ok (.ifCond .eq 21, 3) := by decide +kernel
theorem dX7_taken_25 : decode cX7_taken 25 = .ok (.iload_n 3, 1) := by decide +kernel
theorem dX7_taken_26 : decode cX7_taken 26 = .ok (.i2l, 1) := by decide +kernel
theorem dX7_taken_27 : decode cX7_taken 27 = .ok (.lconst 0, 1) := by decide +kernel
theorem dX7_taken_28 : decode cX7_taken 28 = .ok (.iconst 2, 1) := by decide +kernel
theorem dX7_taken_29 : decode cX7_taken 29 = .ok (.aload_n 0, 1) := by decide +kernel
theorem dX7_taken_30 : decode cX7_taken 30 = .ok (.getfield 9, 3) := by decide +kernel
theorem dX7_taken_33 : decode cX7_taken 33 = .ok (.iconst 2, 1) := by decide +kernel
theorem dX7_taken_34 : decode cX7_taken 34 = .ok (.iaload, 1) := by decide +kernel
theorem dX7_taken_35 : decode cX7_taken 35 = .ok (.iadd, 1) := by decide +kernel
theorem dX7_taken_36 : decode cX7_taken 36 = .ok (.i2l, 1) := by decide +kernel
theorem dX7_taken_37 : decode cX7_taken 37 = .ok (.invokestatic 46, 3) := by decide +kernel
theorem dX7_taken_40 : decode cX7_taken 40 = .ok (.ifCond .ne 10, 3) := by decide +kernel
theorem dX7_taken_43 : decode cX7_taken 43 = .ok (.aload_n 0, 1) := by decide +kernel
theorem dX7_taken_44 : decode cX7_taken 44 = .ok (.ldc 40, 2) := by decide +kernel
theorem dX7_taken_46 : decode cX7_taken 46 = .ok (.invokevirtual 42, 3) := by decide +kernel
theorem dX7_taken_49 : decode cX7_taken 49 = .ok (.ireturn, 1) := by decide +kernel
theorem dX7_taken_50 : decode cX7_taken 50 = .ok (.aload_n 0, 1) := by decide +kernel
theorem dX7_taken_51 : decode cX7_taken 51 = .ok (.iload_n 1, 1) := by decide +kernel
theorem dX7_taken_52 : decode cX7_taken 52 = .ok (.iload_n 2, 1) := by decide +kernel
theorem dX7_taken_53 : decode cX7_taken 53 = .ok (.invokevirtual 276, 3) := by decide +kernel
theorem dX7_taken_56 : decode cX7_taken 56 = .ok (.iload_n 3, 1) := by decide +kernel
theorem dX7_taken_57 : decode cX7_taken 57 = .ok (.iconst 3, 1) := by decide +kernel
theorem dX7_taken_58 : decode cX7_taken 58 = .ok (.if_icmp .ge 31, 3) := by decide +kernel
theorem dX7_taken_61 : decode cX7_taken 61 = .ok (.iload_n 3, 1) := by decide +kernel
theorem dX7_taken_62 : decode cX7_taken 62 = .ok (.ifCond .ne 10, 3) := by decide +kernel
theorem dX7_taken_65 : decode cX7_taken 65 = .ok (.aload_n 0, 1) := by decide +kernel
theorem dX7_taken_66 : decode cX7_taken 66 = .ok (.getfield 247, 3) := by decide +kernel
theorem dX7_taken_69 : decode cX7_taken 69 = .ok (.goto 19, 3) := by decide +kernel
theorem dX7_taken_72 : decode cX7_taken 72 = .ok (.iload_n 3, 1) := by decide +kernel
theorem dX7_taken_73 : decode cX7_taken 73 = .ok (.iconst 1, 1) := by decide +kernel
theorem dX7_taken_74 : decode cX7_taken 74 = .ok (.if_icmp .ne 10, 3) := by decide +kernel
theorem dX7_taken_77 : decode cX7_taken 77 = .ok (.aload_n 0, 1) := by decide +kernel
theorem dX7_taken_78 : decode cX7_taken 78 = .ok (.getfield 249, 3) := by decide +kernel
theorem dX7_taken_81 : decode cX7_taken 81 = .ok (.goto 7, 3) := by decide +kernel
theorem dX7_taken_84 : decode cX7_taken 84 = .ok (.aload_n 0, 1) := by decide +kernel
theorem dX7_taken_85 : decode cX7_taken 85 = .ok (.getfield 252, 3) := by decide +kernel
theorem dX7_taken_88 : decode cX7_taken 88 = .ok (.ireturn, 1) := by decide +kernel
theorem dX7_taken_89 : decode cX7_taken 89 = .ok (.iconst 0, 1) := by decide +kernel
theorem dX7_taken_90 : decode cX7_taken 90 = .ok (.istore 4, 2) := by decide +kernel
theorem dX7_taken_92 : decode cX7_taken 92 = .ok (.iconst 0, 1) := by decide +kernel
theorem dX7_taken_93 : decode cX7_taken 93 = .ok (.istore 5, 2) := by decide +kernel
theorem dX7_taken_95 : decode cX7_taken 95 = .ok (.iload 5, 2) := by decide +kernel
theorem dX7_taken_97 : decode cX7_taken 97 = .ok (.sipush 400, 3) := by decide +kernel
theorem dX7_taken_100 : decode cX7_taken 100 = .ok (.if_icmp .ge 27, 3) := by decide +kernel
theorem dX7_taken_103 : decode cX7_taken 103 = .ok (.iload 4, 2) := by decide +kernel
theorem dX7_taken_105 : decode cX7_taken 105 = .ok (.aload_n 0, 1) := by decide +kernel
theorem dX7_taken_106 : decode cX7_taken 106 = .ok (.getfield 28, 3) := by decide +kernel
theorem dX7_taken_109 : decode cX7_taken 109 = .ok (.iload_n 3, 1) := by decide +kernel
theorem dX7_taken_110 : decode cX7_taken 110 = .ok (.iconst 3, 1) := by decide +kernel
theorem dX7_taken_111 : decode cX7_taken 111 = .ok (.isub, 1) := by decide +kernel
theorem dX7_taken_112 : decode cX7_taken 112 = .ok (.iload 5, 2) := by decide +kernel
theorem dX7_taken_114 : decode cX7_taken 114 = .ok (.invokestatic 255, 3) := by decide +kernel
theorem dX7_taken_117 : decode cX7_taken 117 = .ok (.iaload, 1) := by decide +kernel
theorem dX7_taken_118 : decode cX7_taken 118 = .ok (.iadd, 1) := by decide +kernel
theorem dX7_taken_119 : decode cX7_taken 119 = .ok (.istore 4, 2) := by decide +kernel
theorem dX7_taken_121 : decode cX7_taken 121 = .ok (.iinc 5 1, 3) := by decide +kernel
theorem dX7_taken_124 : decode cX7_taken 124 = .ok (.goto (-29), 3) := by decide +kernel
theorem dX7_taken_127 : decode cX7_taken 127 = .ok (.iload 4, 2) := by decide +kernel
theorem dX7_taken_129 : decode cX7_taken 129 = .ok (.ireturn, 1) := by decide +kernel
theorem dX7_best_0 : decode cX7_best 0 = .ok (.iload_n 1, 1) := by decide +kernel
theorem dX7_best_1 : decode cX7_best 1 = .ok (.i2l, 1) := by decide +kernel
theorem dX7_best_2 : decode cX7_best 2 = .ok (.lconst 0, 1) := by decide +kernel
theorem dX7_best_3 : decode cX7_best 3 = .ok (.ldc2_w 208, 3) := by decide +kernel
theorem dX7_best_6 : decode cX7_best 6 = .ok (.invokestatic 46, 3) := by decide +kernel
theorem dX7_best_9 : decode cX7_best 9 = .ok (.ifCond .ne 10, 3) := by decide +kernel
theorem dX7_best_12 : decode cX7_best 12 = .ok (.aload_n 0, 1) := by decide +kernel
theorem dX7_best_13 : decode cX7_best 13 = .ok (.ldc 40, 2) := by decide +kernel
theorem dX7_best_15 : decode cX7_best 15 = .ok (.invokevirtual 42, 3) := by decide +kernel
theorem dX7_best_18 : decode cX7_best 18 = .ok (.ireturn, 1) := by decide +kernel
theorem dX7_best_19 : decode cX7_best 19 = .ok (.aload_n 0, 1) := by decide +kernel
theorem dX7_best_20 : decode cX7_best 20 = .ok (.getfield 9, 3) := by decide +kernel
theorem dX7_best_23 : decode cX7_best 23 = .ok (.iconst 4, 1) := by decide +kernel
theorem dX7_best_24 : decode cX7_best 24 = .ok (.iaload, 1) := by decide +kernel
theorem dX7_best_25 : decode cX7_best 25 = .ok (.istore_n 2, 1) := by decide +kernel
theorem dX7_best_26 : decode cX7_best 26 = .ok (.iconst 1, 1) := by decide +kernel
theorem dX7_best_27 : decode cX7_best 27 = .ok (.istore_n 3, 1) := by decide +kernel
theorem dX7_best_28 : decode cX7_best 28 = .ok (.iconst 0, 1) := by decide +kernel
theorem dX7_best_29 : decode cX7_best 29 = .ok (.istore 4, 2) := by decide +kernel
theorem dX7_best_31 : decode cX7_best 31 = .ok (.iload 4, 2) := by decide +kernel
theorem dX7_best_33 : decode cX7_best 33 = .ok (.iload_n 2, 1) := by decide +kernel
theorem dX7_best_34 : decode cX7_best 34 = .ok (.if_icmp .ge 14, 3) := by decide +kernel
theorem dX7_best_37 : decode cX7_best 37 = .ok (.iload_n 3, 1) := by decide +kernel
theorem dX7_best_38 : decode cX7_best 38 = .ok (.bipush 10, 2) := by decide +kernel
theorem dX7_best_40 : decode cX7_best 40 = .ok (.imul, 1) := by decide +kernel
theorem dX7_best_41 : decode cX7_best 41 = .ok (.istore_n 3, 1) := by decide +kernel
theorem dX7_best_42 : decode cX7_best 42 = .ok (.iinc 4 1, 3) := by decide +kernel
theorem dX7_best_45 : decode cX7_best 45 = .ok (.goto (-14), 3) := by decide +kernel
theorem dX7_best_48 : decode cX7_best 48 = .ok (.iconst (-1), 1) := by decide +kernel
theorem dX7_best_49 : decode cX7_best 49 = .ok (.istore 4, 2) := by decide +kernel
theorem dX7_best_51 : decode cX7_best 51 = .ok (.iconst 0, 1) := by decide +kernel
theorem dX7_best_52 : decode cX7_best 52 = .ok (.istore 5, 2) := by decide +kernel
theorem dX7_best_54 : decode cX7_best 54 = .ok (.iconst 0, 1) := by decide +kernel
theorem dX7_best_55 : decode cX7_best 55 = .ok (.istore 6, 2) := by decide +kernel
theorem dX7_best_57 : decode cX7_best 57 = .ok (.iconst 0, 1) := by decide +kernel
theorem dX7_best_58 : decode cX7_best 58 = .ok (.istore 7, 2) := by decide +kernel
theorem dX7_best_60 : decode cX7_best 60 = .ok (.iload 7, 2) := by decide +kernel
theorem dX7_best_62 : decode cX7_best 62 = .ok (.iload_n 3, 1) := by decide +kernel
theorem dX7_best_63 : decode cX7_best 63 = .ok (.if_icmp .ge 57, 3) := by decide +kernel
theorem dX7_best_66 : decode cX7_best 66 = .ok (.aload_n 0, 1) := by decide +kernel
theorem dX7_best_67 : decode cX7_best 67 = .ok (.iload 7, 2) := by decide +kernel
theorem dX7_best_69 : decode cX7_best 69 = .ok (.iload_n 2, 1) := by decide +kernel
theorem dX7_best_70 : decode cX7_best 70 = .ok (.invokevirtual 273, 3) := by decide +kernel
theorem dX7_best_73 : decode cX7_best 73 = .ok (.ifCond .ne 6, 3) := by decide +kernel
theorem dX7_best_76 : decode cX7_best 76 = .ok (.goto 38, 3) := by decide +kernel
theorem dX7_best_79 : decode cX7_best 79 = .ok (.aload_n 0, 1) := by decide +kernel
theorem dX7_best_80 : decode cX7_best 80 = .ok (.iload 7, 2) := by decide +kernel
theorem dX7_best_82 : decode cX7_best 82 = .ok (.iload_n 2, 1) := by decide +kernel
theorem dX7_best_83 : decode cX7_best 83 = .ok (.invokevirtual 276, 3) := by decide +kernel
theorem dX7_best_86 : decode cX7_best 86 = .ok (.aload_n 0, 1) := by decide +kernel
theorem dX7_best_87 : decode cX7_best 87 = .ok (.getfield 247, 3) := by decide +kernel
theorem dX7_best_90 : decode cX7_best 90 = .ok (.iload 4, 2) := by decide +kernel
theorem dX7_best_92 : decode cX7_best 92 = .ok (.if_icmp .gt 6, 3) := by decide +kernel
theorem dX7_best_95 : decode cX7_best 95 = .ok (.goto 19, 3) := by decide +kernel
theorem dX7_best_98 : decode cX7_best 98 = .ok (.aload_n 0, 1) := by decide +kernel
theorem dX7_best_99 : decode cX7_best 99 = .ok (.getfield 247, 3) := by decide +kernel
theorem dX7_best_102 : decode cX7_best 102 = .ok (.istore 4, 2) := by decide +kernel
theorem dX7_best_104 : decode cX7_best 104 = .ok (.iload 7, 2) := by decide +kernel
theorem dX7_best_106 : decode cX7_best 106 = .ok (.istore 5, 2) := by decide +kernel
theorem dX7_best_108 : decode cX7_best 108 = .ok (.aload_n 0, 1) := by decide +kernel
theorem dX7_best_109 : decode cX7_best 109 = .ok (.getfield 249, 3) := by decide +kernel
theorem dX7_best_112 : decode cX7_best 112 = .ok (.istore 6, 2) := by decide +kernel
theorem dX7_best_114 : decode cX7_best 114 = .ok (.iinc 7 1, 3) := by decide +kernel
theorem dX7_best_117 : decode cX7_best 117 = .ok (.goto (-57), 3) := by decide +kernel
theorem dX7_best_120 : decode cX7_best 120 = .ok (.iload_n 1, 1) := by decide +kernel
theorem dX7_best_121 : decode cX7_best 121 = .ok (.ifCond .ne 8, 3) := by decide +kernel
theorem dX7_best_124 : decode cX7_best 124 = .ok (.iload 4, 2) := by decide +kernel
theorem dX7_best_126 : decode cX7_best 126 = .ok (.goto 15, 3) := by decide +kernel
theorem dX7_best_129 : decode cX7_best 129 = .ok (.iload_n 1, 1) := by decide +kernel
theorem dX7_best_130 : decode cX7_best 130 = .ok (.iconst 1, 1) := by decide +kernel
theorem dX7_best_131 : decode cX7_best 131 = .ok (.if_icmp .ne 8, 3) := by decide +kernel
theorem dX7_best_134 : decode cX7_best 134 = .ok (.iload 6, 2) := by decide +kernel
theorem dX7_best_136 : decode cX7_best 136 = .ok (.goto 5, 3) := by decide +kernel
theorem dX7_best_139 : decode cX7_best 139 = .ok (.iload 5, 2) := by decide +kernel
theorem dX7_best_141 : decode cX7_best 141 = .ok (.ireturn, 1) := by decide +kernel
theorem dX7_mostOf_0 : decode cX7_mostOf 0 = .ok (.iconst 0, 1) := by decide +kernel
theorem dX7_mostOf_1 : decode cX7_mostOf 1 = .ok (.istore_n 3, 1) := by decide +kernel
theorem dX7_mostOf_2 : decode cX7_mostOf 2 = .ok (.iconst 0, 1) := by decide +kernel
theorem dX7_mostOf_3 : decode cX7_mostOf 3 = .ok (.istore 4, 2) := by decide +kernel
theorem dX7_mostOf_5 : decode cX7_mostOf 5 = .ok (.iload 4, 2) := by decide +kernel
theorem dX7_mostOf_7 : decode cX7_mostOf 7 = .ok (.aload_n 0, 1) := by decide +kernel
theorem dX7_mostOf_8 : decode cX7_mostOf 8 = .ok (.iload_n 1, 1) := by decide +kernel
theorem dX7_mostOf_9 : decode cX7_mostOf 9 = .ok (.invokevirtual 62, 3) := by decide +kernel
theorem dX7_mostOf_12 : decode cX7_mostOf 12 = .ok (.if_icmp .ge 36, 3) := by decide +kernel
theorem dX7_mostOf_15 : decode cX7_mostOf 15 = .ok (.iload_n 3, 1) := by decide +kernel
theorem dX7_mostOf_16 : decode cX7_mostOf 16 = .ok (.aload_n 0, 1) := by decide +kernel
theorem dX7_mostOf_17 : decode cX7_mostOf 17 = .ok (.iload_n 1, 1) := by decide +kernel
theorem dX7_mostOf_18 : decode cX7_mostOf 18 = .ok (.iload 4, 2) := by decide +kernel
theorem dX7_mostOf_20 : decode cX7_mostOf 20 = .ok (.iconst 0, 1) := by decide +kernel
theorem dX7_mostOf_21 : decode cX7_mostOf 21 = .ok (.invokevirtual 210, 3) := by decide +kernel
theorem dX7_mostOf_24 : decode cX7_mostOf 24 = .ok (.iload_n 2, 1) := by decide +kernel
theorem dX7_mostOf_25 : decode cX7_mostOf 25 = .ok (.if_icmp .ne 14, 3) := by decide +kernel
theorem dX7_mostOf_28 : decode cX7_mostOf 28 = .ok (.aload_n 0, 1) := by decide +kernel
theorem dX7_mostOf_29 : decode cX7_mostOf 29 = .ok (.iload_n 1, 1) := by decide +kernel
theorem dX7_mostOf_30 : decode cX7_mostOf 30 = .ok (.iload 4, 2) := by decide +kernel
theorem dX7_mostOf_32 : decode cX7_mostOf 32 = .ok (.iconst 1, 1) := by decide +kernel
theorem dX7_mostOf_33 : decode cX7_mostOf 33 = .ok (.invokevirtual 210, 3) := by decide +kernel
theorem dX7_mostOf_36 : decode cX7_mostOf 36 = .ok (.goto 4, 3) := by decide +kernel
theorem dX7_mostOf_39 : decode cX7_mostOf 39 = .ok (.iconst 0, 1) := by decide +kernel
theorem dX7_mostOf_40 : decode cX7_mostOf 40 = .ok (.iadd, 1) := by decide +kernel
theorem dX7_mostOf_41 : decode cX7_mostOf 41 = .ok (.istore_n 3, 1) := by decide +kernel
theorem dX7_mostOf_42 : decode cX7_mostOf 42 = .ok (.iinc 4 1, 3) := by decide +kernel
theorem dX7_mostOf_45 : decode cX7_mostOf 45 = .ok (.goto (-40), 3) := by decide +kernel
theorem dX7_mostOf_48 : decode cX7_mostOf 48 = .ok (.iconst 0, 1) := by decide +kernel
theorem dX7_mostOf_49 : decode cX7_mostOf 49 = .ok (.istore 4, 2) := by decide +kernel
theorem dX7_mostOf_51 : decode cX7_mostOf 51 = .ok (.iconst 0, 1) := by decide +kernel
theorem dX7_mostOf_52 : decode cX7_mostOf 52 = .ok (.istore 5, 2) := by decide +kernel
theorem dX7_mostOf_54 : decode cX7_mostOf 54 = .ok (.iload 5, 2) := by decide +kernel
theorem dX7_mostOf_56 : decode cX7_mostOf 56 = .ok (.aload_n 0, 1) := by decide +kernel
theorem dX7_mostOf_57 : decode cX7_mostOf 57 = .ok (.getfield 9, 3) := by decide +kernel
theorem dX7_mostOf_60 : decode cX7_mostOf 60 = .ok (.iconst 0, 1) := by decide +kernel
theorem dX7_mostOf_61 : decode cX7_mostOf 61 = .ok (.iaload, 1) := by decide +kernel
theorem dX7_mostOf_62 : decode cX7_mostOf 62 = .ok (.if_icmp .ge 36, 3) := by decide +kernel
theorem dX7_mostOf_65 : decode cX7_mostOf 65 = .ok (.iload 4, 2) := by decide +kernel
theorem dX7_mostOf_67 : decode cX7_mostOf 67 = .ok (.aload_n 0, 1) := by decide +kernel
theorem dX7_mostOf_68 : decode cX7_mostOf 68 = .ok (.getfield 9, 3) := by decide +kernel
theorem dX7_mostOf_71 : decode cX7_mostOf 71 = .ok (.bipush 6, 2) := by decide +kernel
theorem dX7_mostOf_73 : decode cX7_mostOf 73 = .ok (.iload_n 2, 1) := by decide +kernel
theorem dX7_mostOf_74 : decode cX7_mostOf 74 = .ok (.iadd, 1) := by decide +kernel
theorem dX7_mostOf_75 : decode cX7_mostOf 75 = .ok (.iaload, 1) := by decide +kernel
theorem dX7_mostOf_76 : decode cX7_mostOf 76 = .ok (.iload 5, 2) := by decide +kernel
theorem dX7_mostOf_78 : decode cX7_mostOf 78 = .ok (.invokestatic 180, 3) := by decide +kernel
theorem dX7_mostOf_81 : decode cX7_mostOf 81 = .ok (.ifCond .eq 7, 3) := by decide +kernel
theorem dX7_mostOf_84 : decode cX7_mostOf 84 = .ok (.iconst 1, 1) := by decide +kernel
theorem dX7_mostOf_85 : decode cX7_mostOf 85 = .ok (.goto 4, 3) := by decide +kernel
theorem dX7_mostOf_88 : decode cX7_mostOf 88 = .ok (.iconst 0, 1) := by decide +kernel
theorem dX7_mostOf_89 : decode cX7_mostOf 89 = .ok (.iadd, 1) := by decide +kernel
theorem dX7_mostOf_90 : decode cX7_mostOf 90 = .ok (.istore 4, 2) := by decide +kernel
theorem dX7_mostOf_92 : decode cX7_mostOf 92 = .ok (.iinc 5 1, 3) := by decide +kernel
theorem dX7_mostOf_95 : decode cX7_mostOf 95 = .ok (.goto (-41), 3) := by decide +kernel
theorem dX7_mostOf_98 : decode cX7_mostOf 98 = .ok (.iload_n 3, 1) := by decide +kernel
theorem dX7_mostOf_99 : decode cX7_mostOf 99 = .ok (.ifCond .ne 7, 3) := by decide +kernel
theorem dX7_mostOf_102 : decode cX7_mostOf 102 = .ok (.iconst (-1), 1) := by decide +kernel
theorem dX7_mostOf_103 : decode cX7_mostOf 103 = .ok (.goto 10, 3) := by decide +kernel
theorem dX7_mostOf_106 : decode cX7_mostOf 106 = .ok (.bipush 8, 2) := by decide +kernel
theorem dX7_mostOf_108 : decode cX7_mostOf 108 = .ok (.iload 4, 2) := by decide +kernel
theorem dX7_mostOf_110 : decode cX7_mostOf 110 = .ok (.imul, 1) := by decide +kernel
theorem dX7_mostOf_111 : decode cX7_mostOf 111 = .ok (.iload_n 3, 1) := by decide +kernel
theorem dX7_mostOf_112 : decode cX7_mostOf 112 = .ok (.idiv, 1) := by decide +kernel
theorem dX7_mostOf_113 : decode cX7_mostOf 113 = .ok (.ireturn, 1) := by decide +kernel
theorem dX7_chokesAt_0 : decode cX7_chokesAt 0 = .ok (.iconst (-1), 1) := by decide +kernel
theorem dX7_chokesAt_1 : decode cX7_chokesAt 1 = .ok (.istore_n 2, 1) := by decide +kernel
theorem dX7_chokesAt_2 : decode cX7_chokesAt 2 = .ok (.iconst 0, 1) := by decide +kernel
theorem dX7_chokesAt_3 : decode cX7_chokesAt 3 = .ok (.istore_n 3, 1) := by decide +kernel
theorem dX7_chokesAt_4 : decode cX7_chokesAt 4 = .ok (.iload_n 3, 1) := by decide +kernel
theorem dX7_chokesAt_5 : decode cX7_chokesAt 5 = .ok (.aload_n 0, 1) := by decide +kernel
theorem dX7_chokesAt_6 : decode cX7_chokesAt 6 = .ok (.getfield 9, 3) := by decide +kernel
theorem dX7_chokesAt_9 : decode cX7_chokesAt 9 = .ok (.iconst 2, 1) := by decide +kernel
theorem dX7_chokesAt_10 : decode cX7_chokesAt 10 = .ok (.iaload, 1) := by decide +kernel
theorem dX7_chokesAt_11 : decode cX7_chokesAt 11 = .ok (.if_icmp .ge 39, 3) := by decide +kernel
theorem dX7_chokesAt_14 : decode cX7_chokesAt 14 = .ok (.aload_n 0, 1) := by decide +kernel
theorem dX7_chokesAt_15 : decode cX7_chokesAt 15 = .ok (.iload_n 1, 1) := by decide +kernel
theorem dX7_chokesAt_16 : decode cX7_chokesAt 16 = .ok (.iload_n 3, 1) := by decide +kernel
theorem dX7_chokesAt_17 : decode cX7_chokesAt 17 = .ok (.invokevirtual 279, 3) := by decide +kernel
theorem dX7_chokesAt_20 : decode cX7_chokesAt 20 = .ok (.istore 4, 2) := by decide +kernel
theorem dX7_chokesAt_22 : decode cX7_chokesAt 22 = .ok (.iload 4, 2) := by decide +kernel
theorem dX7_chokesAt_24 : decode cX7_chokesAt 24 = .ok (.ifCond .lt 20, 3) := by decide +kernel
theorem dX7_chokesAt_27 : decode cX7_chokesAt 27 = .ok (.iload_n 2, 1) := by decide +kernel
theorem dX7_chokesAt_28 : decode cX7_chokesAt 28 = .ok (.ifCond .lt 14, 3) := by decide +kernel
theorem dX7_chokesAt_31 : decode cX7_chokesAt 31 = .ok (.iload 4, 2) := by decide +kernel
theorem dX7_chokesAt_33 : decode cX7_chokesAt 33 = .ok (.aload_n 0, 1) := by decide +kernel
theorem dX7_chokesAt_34 : decode cX7_chokesAt 34 = .ok (.iload_n 1, 1) := by decide +kernel
theorem dX7_chokesAt_35 : decode cX7_chokesAt 35 = .ok (.iload_n 2, 1) := by decide +kernel
theorem dX7_chokesAt_36 : decode cX7_chokesAt 36 = .ok (.invokevirtual 279, 3) := by decide +kernel
theorem dX7_chokesAt_39 : decode cX7_chokesAt 39 = .ok (.if_icmp .ge 5, 3) := by decide +kernel
theorem dX7_chokesAt_42 : decode cX7_chokesAt 42 = .ok (.iload_n 3, 1) := by decide +kernel
theorem dX7_chokesAt_43 : decode cX7_chokesAt 43 = .ok (.istore_n 2, 1) := by decide +kernel
theorem dX7_chokesAt_44 : decode cX7_chokesAt 44 = .ok (.iinc 3 1, 3) := by decide +kernel
theorem dX7_chokesAt_47 : decode cX7_chokesAt 47 = .ok (.goto (-43), 3) := by decide +kernel
theorem dX7_chokesAt_50 : decode cX7_chokesAt 50 = .ok (.iload_n 2, 1) := by decide +kernel
theorem dX7_chokesAt_51 : decode cX7_chokesAt 51 = .ok (.ireturn, 1) := by decide +kernel
theorem dX7_most_0 : decode cX7_most 0 = .ok (.aload_n 0, 1) := by decide +kernel
theorem dX7_most_1 : decode cX7_most 1 = .ok (.iload_n 1, 1) := by decide +kernel
theorem dX7_most_2 : decode cX7_most 2 = .ok (.invokevirtual 58, 3) := by decide +kernel
theorem dX7_most_5 : decode cX7_most 5 = .ok (.ifCond .eq 16, 3) := by decide +kernel
theorem dX7_most_8 : decode cX7_most 8 = .ok (.aload_n 0, 1) := by decide +kernel
theorem dX7_most_9 : decode cX7_most 9 = .ok (.iload_n 1, 1) := by decide +kernel
theorem dX7_most_10 : decode cX7_most 10 = .ok (.aload_n 0, 1) := by decide +kernel
theorem dX7_most_11 : decode cX7_most 11 = .ok (.iload_n 1, 1) := by decide +kernel
theorem dX7_most_12 : decode cX7_most 12 = .ok (.invokevirtual 282, 3) := by decide +kernel
theorem dX7_most_15 : decode cX7_most 15 = .ok (.invokevirtual 279, 3) := by decide +kernel
theorem dX7_most_18 : decode cX7_most 18 = .ok (.goto 9, 3) := by decide +kernel
theorem dX7_most_21 : decode cX7_most 21 = .ok (.aload_n 0, 1) := by decide +kernel
theorem dX7_most_22 : decode cX7_most 22 = .ok (.ldc 40, 2) := by decide +kernel
theorem dX7_most_24 : decode cX7_most 24 = .ok (.invokevirtual 42, 3) := by decide +kernel
theorem dX7_most_27 : decode cX7_most 27 = .ok (.ireturn, 1) := by decide +kernel
theorem dX7_chokes_0 : decode cX7_chokes 0 = .ok (.aload_n 0, 1) := by decide +kernel
theorem dX7_chokes_1 : decode cX7_chokes 1 = .ok (.iload_n 1, 1) := by decide +kernel
theorem dX7_chokes_2 : decode cX7_chokes 2 = .ok (.invokevirtual 58, 3) := by decide +kernel
theorem dX7_chokes_5 : decode cX7_chokes 5 = .ok (.ifCond .eq 11, 3) := by decide +kernel
theorem dX7_chokes_8 : decode cX7_chokes 8 = .ok (.aload_n 0, 1) := by decide +kernel
theorem dX7_chokes_9 : decode cX7_chokes 9 = .ok (.iload_n 1, 1) := by decide +kernel
theorem dX7_chokes_10 : decode cX7_chokes 10 = .ok (.invokevirtual 282, 3) := by decide +kernel
theorem dX7_chokes_13 : decode cX7_chokes 13 = .ok (.goto 9, 3) := by decide +kernel
theorem dX7_chokes_16 : decode cX7_chokes 16 = .ok (.aload_n 0, 1) := by decide +kernel
theorem dX7_chokes_17 : decode cX7_chokes 17 = .ok (.ldc 40, 2) := by decide +kernel
theorem dX7_chokes_19 : decode cX7_chokes 19 = .ok (.invokevirtual 42, 3) := by decide +kernel
theorem dX7_chokes_22 : decode cX7_chokes 22 = .ok (.ireturn, 1) := by decide +kernel
theorem dX7_idle_0 : decode cX7_idle 0 = .ok (.iload_n 1, 1) := by decide +kernel
theorem dX7_idle_1 : decode cX7_idle 1 = .ok (.i2l, 1) := by decide +kernel
theorem dX7_idle_2 : decode cX7_idle 2 = .ok (.lconst 0, 1) := by decide +kernel
theorem dX7_idle_3 : decode cX7_idle 3 = .ok (.iconst 1, 1) := by decide +kernel
theorem dX7_idle_4 : decode cX7_idle 4 = .ok (.aload_n 0, 1) := by decide +kernel
theorem dX7_idle_5 : decode cX7_idle 5 = .ok (.getfield 9, 3) := by decide +kernel
theorem dX7_idle_8 : decode cX7_idle 8 = .ok (.iconst 2, 1) := by decide +kernel
theorem dX7_idle_9 : decode cX7_idle 9 = .ok (.iaload, 1) := by decide +kernel
theorem dX7_idle_10 : decode cX7_idle 10 = .ok (.ishl, 1) := by decide +kernel
theorem dX7_idle_11 : decode cX7_idle 11 = .ok (.iconst 1, 1) := by decide +kernel
theorem dX7_idle_12 : decode cX7_idle 12 = .ok (.isub, 1) := by decide +kernel
theorem dX7_idle_13 : decode cX7_idle 13 = .ok (.i2l, 1) := by decide +kernel
theorem dX7_idle_14 : decode cX7_idle 14 = .ok (.invokestatic 46, 3) := by decide +kernel
theorem dX7_idle_17 : decode cX7_idle 17 = .ok (.ifCond .ne 10, 3) := by decide +kernel
theorem dX7_idle_20 : decode cX7_idle 20 = .ok (.aload_n 0, 1) := by decide +kernel
theorem dX7_idle_21 : decode cX7_idle 21 = .ok (.ldc 40, 2) := by decide +kernel
theorem dX7_idle_23 : decode cX7_idle 23 = .ok (.invokevirtual 42, 3) := by decide +kernel
theorem dX7_idle_26 : decode cX7_idle 26 = .ok (.ireturn, 1) := by decide +kernel
theorem dX7_idle_27 : decode cX7_idle 27 = .ok (.iconst 1, 1) := by decide +kernel
theorem dX7_idle_28 : decode cX7_idle 28 = .ok (.aload_n 0, 1) := by decide +kernel
theorem dX7_idle_29 : decode cX7_idle 29 = .ok (.getfield 9, 3) := by decide +kernel
theorem dX7_idle_32 : decode cX7_idle 32 = .ok (.iconst 0, 1) := by decide +kernel
theorem dX7_idle_33 : decode cX7_idle 33 = .ok (.iaload, 1) := by decide +kernel
theorem dX7_idle_34 : decode cX7_idle 34 = .ok (.ishl, 1) := by decide +kernel
theorem dX7_idle_35 : decode cX7_idle 35 = .ok (.iconst 1, 1) := by decide +kernel
theorem dX7_idle_36 : decode cX7_idle 36 = .ok (.isub, 1) := by decide +kernel
theorem dX7_idle_37 : decode cX7_idle 37 = .ok (.istore_n 2, 1) := by decide +kernel
theorem dX7_idle_38 : decode cX7_idle 38 = .ok (.iconst 0, 1) := by decide +kernel
theorem dX7_idle_39 : decode cX7_idle 39 = .ok (.istore_n 3, 1) := by decide +kernel
theorem dX7_idle_40 : decode cX7_idle 40 = .ok (.iload_n 3, 1) := by decide +kernel
theorem dX7_idle_41 : decode cX7_idle 41 = .ok (.aload_n 0, 1) := by decide +kernel
theorem dX7_idle_42 : decode cX7_idle 42 = .ok (.getfield 9, 3) := by decide +kernel
theorem dX7_idle_45 : decode cX7_idle 45 = .ok (.iconst 2, 1) := by decide +kernel
theorem dX7_idle_46 : decode cX7_idle 46 = .ok (.iaload, 1) := by decide +kernel
theorem dX7_idle_47 : decode cX7_idle 47 = .ok (.if_icmp .ge 35, 3) := by decide +kernel
theorem dX7_idle_50 : decode cX7_idle 50 = .ok (.iload_n 2, 1) := by decide +kernel
theorem dX7_idle_51 : decode cX7_idle 51 = .ok (.iload_n 1, 1) := by decide +kernel
theorem dX7_idle_52 : decode cX7_idle 52 = .ok (.iload_n 3, 1) := by decide +kernel
theorem dX7_idle_53 : decode cX7_idle 53 = .ok (.invokestatic 180, 3) := by decide +kernel
theorem dX7_idle_56 : decode cX7_idle 56 = .ok (.ifCond .eq 17, 3) := by decide +kernel
theorem dX7_idle_59 : decode cX7_idle 59 = .ok (.aload_n 0, 1) := by decide +kernel
theorem dX7_idle_60 : decode cX7_idle 60 = .ok (.getfield 9, 3) := by decide +kernel
theorem dX7_idle_63 : decode cX7_idle 63 = .ok (.bipush 6, 2) := by decide +kernel
theorem dX7_idle_65 : decode cX7_idle 65 = .ok (.iload_n 3, 1) := by decide +kernel
theorem dX7_idle_66 : decode cX7_idle 66 = .ok (.iadd, 1) := by decide +kernel
theorem dX7_idle_67 : decode cX7_idle 67 = .ok (.iaload, 1) := by decide +kernel
theorem dX7_idle_68 : decode cX7_idle 68 = .ok (.iconst (-1), 1) := by decide +kernel
theorem dX7_idle_69 : decode cX7_idle 69 = .ok (.ixor, 1) := by decide +kernel
theorem dX7_idle_70 : decode cX7_idle 70 = .ok (.goto 4, 3) := by decide +kernel
theorem dX7_idle_73 : decode cX7_idle 73 = .ok (.iconst (-1), 1) := by decide +kernel
theorem dX7_idle_74 : decode cX7_idle 74 = .ok (.iand, 1) := by decide +kernel
theorem dX7_idle_75 : decode cX7_idle 75 = .ok (.istore_n 2, 1) := by decide +kernel
theorem dX7_idle_76 : decode cX7_idle 76 = .ok (.iinc 3 1, 3) := by decide +kernel
theorem dX7_idle_79 : decode cX7_idle 79 = .ok (.goto (-39), 3) := by decide +kernel
theorem dX7_idle_82 : decode cX7_idle 82 = .ok (.iload_n 2, 1) := by decide +kernel
theorem dX7_idle_83 : decode cX7_idle 83 = .ok (.ireturn, 1) := by decide +kernel
theorem dX7_turnedBy_0 : decode cX7_turnedBy 0 = .ok (.iconst 0, 1) := by decide +kernel
theorem dX7_turnedBy_1 : decode cX7_turnedBy 1 = .ok (.istore_n 3, 1) := by decide +kernel
theorem dX7_turnedBy_2 : decode cX7_turnedBy 2 = .ok (.iconst 0, 1) := by decide +kernel
theorem dX7_turnedBy_3 : decode cX7_turnedBy 3 = .ok (.istore 4, 2) := by decide +kernel
theorem dX7_turnedBy_5 : decode cX7_turnedBy 5 = .ok (.iload 4, 2) := by decide +kernel
theorem dX7_turnedBy_7 : decode cX7_turnedBy 7 = .ok (.aload_n 0, 1) := by decide +kernel
theorem dX7_turnedBy_8 : decode cX7_turnedBy 8 = .ok (.getfield 9, 3) := by decide +kernel
theorem dX7_turnedBy_11 : decode cX7_turnedBy 11 = .ok (.iconst 0, 1) := by decide +kernel
theorem dX7_turnedBy_12 : decode cX7_turnedBy 12 = .ok (.iaload, 1) := by decide +kernel
theorem dX7_turnedBy_13 : decode cX7_turnedBy 13 = .ok (.if_icmp .ge 38, 3) := by decide +kernel
theorem dX7_turnedBy_16 : decode cX7_turnedBy 16 = .ok (.iload_n 3, 1) := by decide +kernel
theorem dX7_turnedBy_17 : decode cX7_turnedBy 17 = .ok (.iload_n 1, 1) := by decide +kernel
theorem dX7_turnedBy_18 : decode cX7_turnedBy 18 = .ok (.iload 4, 2) := by decide +kernel
theorem dX7_turnedBy_20 : decode cX7_turnedBy 20 = .ok (.invokestatic 180, 3) := by decide +kernel
theorem dX7_turnedBy_23 : decode cX7_turnedBy 23 = .ok (.ifCond .eq 19, 3) := by decide +kernel
theorem dX7_turnedBy_26 : decode cX7_turnedBy 26 = .ok (.iconst 1, 1) := by decide +kernel
theorem dX7_turnedBy_27 : decode cX7_turnedBy 27 = .ok (.iload 4, 2) := by decide +kernel
theorem dX7_turnedBy_29 : decode cX7_turnedBy 29 = .ok (.iload_n 2, 1) := by decide +kernel
theorem dX7_turnedBy_30 : decode cX7_turnedBy 30 = .ok (.iadd, 1) := by decide +kernel
theorem dX7_turnedBy_31 : decode cX7_turnedBy 31 = .ok (.aload_n 0, 1) := by decide +kernel
theorem dX7_turnedBy_32 : decode cX7_turnedBy 32 = .ok (.getfield 9, 3) := by decide +kernel
theorem dX7_turnedBy_35 : decode cX7_turnedBy 35 = .ok (.iconst 0, 1) := by decide +kernel
theorem dX7_turnedBy_36 : decode cX7_turnedBy 36 = .ok (.iaload, 1) := by decide +kernel
theorem dX7_turnedBy_37 : decode cX7_turnedBy 37 = .ok (.irem, 1) := by decide +kernel
theorem dX7_turnedBy_38 : decode cX7_turnedBy 38 = .ok (.ishl, 1) := by decide +kernel
theorem dX7_turnedBy_39 : decode cX7_turnedBy 39 = .ok (.goto 4, 3) := by decide +kernel
theorem dX7_turnedBy_42 : decode cX7_turnedBy 42 = .ok (.iconst 0, 1) := by decide +kernel
theorem dX7_turnedBy_43 : decode cX7_turnedBy 43 = .ok (.ior, 1) := by decide +kernel
theorem dX7_turnedBy_44 : decode cX7_turnedBy 44 = .ok (.istore_n 3, 1) := by decide +kernel
theorem dX7_turnedBy_45 : decode cX7_turnedBy 45 = .ok (.iinc 4 1, 3) := by decide +kernel
theorem dX7_turnedBy_48 : decode cX7_turnedBy 48 = .ok (.goto (-43), 3) := by decide +kernel
theorem dX7_turnedBy_51 : decode cX7_turnedBy 51 = .ok (.iload_n 3, 1) := by decide +kernel
theorem dX7_turnedBy_52 : decode cX7_turnedBy 52 = .ok (.ireturn, 1) := by decide +kernel
theorem dX7_turned_0 : decode cX7_turned 0 = .ok (.aload_n 0, 1) := by decide +kernel
theorem dX7_turned_1 : decode cX7_turned 1 = .ok (.iload_n 1, 1) := by decide +kernel
theorem dX7_turned_2 : decode cX7_turned 2 = .ok (.invokevirtual 58, 3) := by decide +kernel
theorem dX7_turned_5 : decode cX7_turned 5 = .ok (.ifCond .ne 10, 3) := by decide +kernel
theorem dX7_turned_8 : decode cX7_turned 8 = .ok (.aload_n 0, 1) := by decide +kernel
theorem dX7_turned_9 : decode cX7_turned 9 = .ok (.ldc 40, 2) := by decide +kernel
theorem dX7_turned_11 : decode cX7_turned 11 = .ok (.invokevirtual 42, 3) := by decide +kernel
theorem dX7_turned_14 : decode cX7_turned 14 = .ok (.ireturn, 1) := by decide +kernel
theorem dX7_turned_15 : decode cX7_turned 15 = .ok (.aload_n 0, 1) := by decide +kernel
theorem dX7_turned_16 : decode cX7_turned 16 = .ok (.iload_n 1, 1) := by decide +kernel
theorem dX7_turned_17 : decode cX7_turned 17 = .ok (.iconst 0, 1) := by decide +kernel
theorem dX7_turned_18 : decode cX7_turned 18 = .ok (.invokevirtual 240, 3) := by decide +kernel
theorem dX7_turned_21 : decode cX7_turned 21 = .ok (.istore_n 2, 1) := by decide +kernel
theorem dX7_turned_22 : decode cX7_turned 22 = .ok (.iconst 0, 1) := by decide +kernel
theorem dX7_turned_23 : decode cX7_turned 23 = .ok (.istore_n 3, 1) := by decide +kernel
theorem dX7_turned_24 : decode cX7_turned 24 = .ok (.iconst 0, 1) := by decide +kernel
theorem dX7_turned_25 : decode cX7_turned 25 = .ok (.istore 4, 2) := by decide +kernel
theorem dX7_turned_27 : decode cX7_turned 27 = .ok (.iload 4, 2) := by decide +kernel
theorem dX7_turned_29 : decode cX7_turned 29 = .ok (.aload_n 0, 1) := by decide +kernel
theorem dX7_turned_30 : decode cX7_turned 30 = .ok (.getfield 9, 3) := by decide +kernel
theorem dX7_turned_33 : decode cX7_turned 33 = .ok (.iconst 2, 1) := by decide +kernel
theorem dX7_turned_34 : decode cX7_turned 34 = .ok (.iaload, 1) := by decide +kernel
theorem dX7_turned_35 : decode cX7_turned 35 = .ok (.if_icmp .ge 109, 3) := by decide +kernel
theorem dX7_turned_38 : decode cX7_turned 38 = .ok (.aload_n 0, 1) := by decide +kernel
theorem dX7_turned_39 : decode cX7_turned 39 = .ok (.getfield 9, 3) := by decide +kernel
theorem dX7_turned_42 : decode cX7_turned 42 = .ok (.bipush 6, 2) := by decide +kernel
theorem dX7_turned_44 : decode cX7_turned 44 = .ok (.iload 4, 2) := by decide +kernel
theorem dX7_turned_46 : decode cX7_turned 46 = .ok (.iadd, 1) := by decide +kernel
theorem dX7_turned_47 : decode cX7_turned 47 = .ok (.iaload, 1) := by decide +kernel
theorem dX7_turned_48 : decode cX7_turned 48 = .ok (.istore 5, 2) := by decide +kernel
theorem dX7_turned_50 : decode cX7_turned 50 = .ok (.iconst 1, 1) := by decide +kernel
theorem dX7_turned_51 : decode cX7_turned 51 = .ok (.istore 6, 2) := by decide +kernel
theorem dX7_turned_53 : decode cX7_turned 53 = .ok (.iload 6, 2) := by decide +kernel
theorem dX7_turned_55 : decode cX7_turned 55 = .ok (.aload_n 0, 1) := by decide +kernel
theorem dX7_turned_56 : decode cX7_turned 56 = .ok (.getfield 9, 3) := by decide +kernel
theorem dX7_turned_59 : decode cX7_turned 59 = .ok (.iconst 0, 1) := by decide +kernel
theorem dX7_turned_60 : decode cX7_turned 60 = .ok (.iaload, 1) := by decide +kernel
theorem dX7_turned_61 : decode cX7_turned 61 = .ok (.if_icmp .ge 65, 3) := by decide +kernel
theorem dX7_turned_64 : decode cX7_turned 64 = .ok (.aload_n 0, 1) := by decide +kernel
theorem dX7_turned_65 : decode cX7_turned 65 = .ok (.getfield 9, 3) := by decide +kernel
theorem dX7_turned_68 : decode cX7_turned 68 = .ok (.bipush 6, 2) := by decide +kernel
theorem dX7_turned_70 : decode cX7_turned 70 = .ok (.iload 4, 2) := by decide +kernel
theorem dX7_turned_72 : decode cX7_turned 72 = .ok (.iadd, 1) := by decide +kernel
theorem dX7_turned_73 : decode cX7_turned 73 = .ok (.aload_n 0, 1) := by decide +kernel
theorem dX7_turned_74 : decode cX7_turned 74 = .ok (.iload 5, 2) := by decide +kernel
theorem dX7_turned_76 : decode cX7_turned 76 = .ok (.iload 6, 2) := by decide +kernel
theorem dX7_turned_78 : decode cX7_turned 78 = .ok (.invokevirtual 285, 3) := by decide +kernel
theorem dX7_turned_81 : decode cX7_turned 81 = .ok (.iastore, 1) := by decide +kernel
theorem dX7_turned_82 : decode cX7_turned 82 = .ok (.aload_n 0, 1) := by decide +kernel
theorem dX7_turned_83 : decode cX7_turned 83 = .ok (.iload_n 1, 1) := by decide +kernel
theorem dX7_turned_84 : decode cX7_turned 84 = .ok (.iconst 0, 1) := by decide +kernel
theorem dX7_turned_85 : decode cX7_turned 85 = .ok (.invokevirtual 240, 3) := by decide +kernel
theorem dX7_turned_88 : decode cX7_turned 88 = .ok (.istore 7, 2) := by decide +kernel
theorem dX7_turned_90 : decode cX7_turned 90 = .ok (.iload 7, 2) := by decide +kernel
theorem dX7_turned_92 : decode cX7_turned 92 = .ok (.ifCond .lt 28, 3) := by decide +kernel
theorem dX7_turned_95 : decode cX7_turned 95 = .ok (.iload_n 2, 1) := by decide +kernel
theorem dX7_turned_96 : decode cX7_turned 96 = .ok (.ifCond .lt 12, 3) := by decide +kernel
theorem dX7_turned_99 : decode cX7_turned 99 = .ok (.iload 7, 2) := by decide +kernel
theorem dX7_turned_101 : decode cX7_turned 101 = .ok (.iload_n 2, 1) := by decide +kernel
theorem dX7_turned_102 : decode cX7_turned 102 = .ok (.if_icmp .lt 6, 3) := by decide +kernel
theorem dX7_turned_105 : decode cX7_turned 105 = .ok (.goto 15, 3) := by decide +kernel
theorem dX7_turned_108 : decode cX7_turned 108 = .ok (.iload 7, 2) := by decide +kernel
theorem dX7_turned_110 : decode cX7_turned 110 = .ok (.istore_n 2, 1) := by decide +kernel
theorem dX7_turned_111 : decode cX7_turned 111 = .ok (.bipush 100, 2) := by decide +kernel
theorem dX7_turned_113 : decode cX7_turned 113 = .ok (.iload 4, 2) := by decide +kernel
theorem dX7_turned_115 : decode cX7_turned 115 = .ok (.imul, 1) := by decide +kernel
theorem dX7_turned_116 : decode cX7_turned 116 = .ok (.iload 6, 2) := by decide +kernel
theorem dX7_turned_118 : decode cX7_turned 118 = .ok (.iadd, 1) := by decide +kernel
theorem dX7_turned_119 : decode cX7_turned 119 = .ok (.istore_n 3, 1) := by decide +kernel
theorem dX7_turned_120 : decode cX7_turned 120 = .ok (.iinc 6 1, 3) := by decide +kernel
theorem dX7_turned_123 : decode cX7_turned 123 = .ok (.goto (-70), 3) := by decide +kernel
theorem dX7_turned_126 : decode cX7_turned 126 = .ok (.aload_n 0, 1) := by decide +kernel
theorem dX7_turned_127 : decode cX7_turned 127 = .ok (.getfield 9, 3) := by decide +kernel
theorem dX7_turned_130 : decode cX7_turned 130 = .ok (.bipush 6, 2) := by decide +kernel
theorem dX7_turned_132 : decode cX7_turned 132 = .ok (.iload 4, 2) := by decide +kernel
theorem dX7_turned_134 : decode cX7_turned 134 = .ok (.iadd, 1) := by decide +kernel
theorem dX7_turned_135 : decode cX7_turned 135 = .ok (.iload 5, 2) := by decide +kernel
theorem dX7_turned_137 : decode cX7_turned 137 = .ok (.iastore, 1) := by decide +kernel
theorem dX7_turned_138 : decode cX7_turned 138 = .ok (.iinc 4 1, 3) := by decide +kernel
theorem dX7_turned_141 : decode cX7_turned 141 = .ok (.goto (-114), 3) := by decide +kernel
theorem dX7_turned_144 : decode cX7_turned 144 = .ok (.iload_n 3, 1) := by decide +kernel
theorem dX7_turned_145 : decode cX7_turned 145 = .ok (.ireturn, 1) := by decide +kernel
theorem dX7_soonest_0 : decode cX7_soonest 0 = .ok (.aload_n 0, 1) := by decide +kernel
theorem dX7_soonest_1 : decode cX7_soonest 1 = .ok (.getfield 9, 3) := by decide +kernel
theorem dX7_soonest_4 : decode cX7_soonest 4 = .ok (.iload_n 3, 1) := by decide +kernel
theorem dX7_soonest_5 : decode cX7_soonest 5 = .ok (.iaload, 1) := by decide +kernel
theorem dX7_soonest_6 : decode cX7_soonest 6 = .ok (.istore 6, 2) := by decide +kernel
theorem dX7_soonest_8 : decode cX7_soonest 8 = .ok (.bipush (-2), 2) := by decide +kernel
theorem dX7_soonest_10 : decode cX7_soonest 10 = .ok (.istore 7, 2) := by decide +kernel
theorem dX7_soonest_12 : decode cX7_soonest 12 = .ok (.iconst 0, 1) := by decide +kernel
theorem dX7_soonest_13 : decode cX7_soonest 13 = .ok (.istore 8, 2) := by decide +kernel
theorem dX7_soonest_15 : decode cX7_soonest 15 = .ok (.iload 4, 2) := by decide +kernel
theorem dX7_soonest_17 : decode cX7_soonest 17 = .ok (.istore 9, 2) := by decide +kernel
theorem dX7_soonest_19 : decode cX7_soonest 19 = .ok (.iload 9, 2) := by decide +kernel
theorem dX7_soonest_21 : decode cX7_soonest 21 = .ok (.iload 5, 2) := by decide +kernel
theorem dX7_soonest_23 : decode cX7_soonest 23 = .ok (.if_icmp .gt 55, 3) := by decide +kernel
theorem dX7_soonest_26 : decode cX7_soonest 26 = .ok (.aload_n 0, 1) := by decide +kernel
theorem dX7_soonest_27 : decode cX7_soonest 27 = .ok (.getfield 9, 3) := by decide +kernel
theorem dX7_soonest_30 : decode cX7_soonest 30 = .ok (.iload_n 3, 1) := by decide +kernel
theorem dX7_soonest_31 : decode cX7_soonest 31 = .ok (.iload 9, 2) := by decide +kernel
theorem dX7_soonest_33 : decode cX7_soonest 33 = .ok (.iastore, 1) := by decide +kernel
theorem dX7_soonest_34 : decode cX7_soonest 34 = .ok (.aload_n 0, 1) := by decide +kernel
theorem dX7_soonest_35 : decode cX7_soonest 35 = .ok (.iload_n 1, 1) := by decide +kernel
theorem dX7_soonest_36 : decode cX7_soonest 36 = .ok (.iload_n 2, 1) := by decide +kernel
theorem dX7_soonest_37 : decode cX7_soonest 37 = .ok (.invokevirtual 240, 3) := by decide +kernel
theorem dX7_soonest_40 : decode cX7_soonest 40 = .ok (.istore 10, 2) := by decide +kernel
theorem dX7_soonest_42 : decode cX7_soonest 42 = .ok (.iload 10, 2) := by decide +kernel
theorem dX7_soonest_44 : decode cX7_soonest 44 = .ok (.ifCond .lt 28, 3) := by decide +kernel
theorem dX7_soonest_47 : decode cX7_soonest 47 = .ok (.iload 7, 2) := by decide +kernel
theorem dX7_soonest_49 : decode cX7_soonest 49 = .ok (.bipush (-2), 2) := by decide +kernel
theorem dX7_soonest_51 : decode cX7_soonest 51 = .ok (.if_icmp .le 13, 3) := by decide +kernel
theorem dX7_soonest_54 : decode cX7_soonest 54 = .ok (.iload 10, 2) := by decide +kernel
theorem dX7_soonest_56 : decode cX7_soonest 56 = .ok (.iload 8, 2) := by decide +kernel
theorem dX7_soonest_58 : decode cX7_soonest 58 = .ok (.if_icmp .lt 6, 3) := by decide +kernel
theorem dX7_soonest_61 : decode cX7_soonest 61 = .ok (.goto 11, 3) := by decide +kernel
theorem dX7_soonest_64 : decode cX7_soonest 64 = .ok (.iload 9, 2) := by decide +kernel
theorem dX7_soonest_66 : decode cX7_soonest 66 = .ok (.istore 7, 2) := by decide +kernel
theorem dX7_soonest_68 : decode cX7_soonest 68 = .ok (.iload 10, 2) := by decide +kernel
theorem dX7_soonest_70 : decode cX7_soonest 70 = .ok (.istore 8, 2) := by decide +kernel
theorem dX7_soonest_72 : decode cX7_soonest 72 = .ok (.iinc 9 1, 3) := by decide +kernel
theorem dX7_soonest_75 : decode cX7_soonest 75 = .ok (.goto (-56), 3) := by decide +kernel
theorem dX7_soonest_78 : decode cX7_soonest 78 = .ok (.aload_n 0, 1) := by decide +kernel
theorem dX7_soonest_79 : decode cX7_soonest 79 = .ok (.getfield 9, 3) := by decide +kernel
theorem dX7_soonest_82 : decode cX7_soonest 82 = .ok (.iload_n 3, 1) := by decide +kernel
theorem dX7_soonest_83 : decode cX7_soonest 83 = .ok (.iload 6, 2) := by decide +kernel
theorem dX7_soonest_85 : decode cX7_soonest 85 = .ok (.iastore, 1) := by decide +kernel
theorem dX7_soonest_86 : decode cX7_soonest 86 = .ok (.iload 7, 2) := by decide +kernel
theorem dX7_soonest_88 : decode cX7_soonest 88 = .ok (.bipush (-2), 2) := by decide +kernel
theorem dX7_soonest_90 : decode cX7_soonest 90 = .ok (.if_icmp .ne 12, 3) := by decide +kernel
theorem dX7_soonest_93 : decode cX7_soonest 93 = .ok (.aload_n 0, 1) := by decide +kernel
theorem dX7_soonest_94 : decode cX7_soonest 94 = .ok (.ldc 41, 2) := by decide +kernel
theorem dX7_soonest_96 : decode cX7_soonest 96 = .ok (.invokevirtual 42, 3) := by decide +kernel
theorem dX7_soonest_99 : decode cX7_soonest 99 = .ok (.goto 5, 3) := by decide +kernel
theorem dX7_soonest_102 : decode cX7_soonest 102 = .ok (.iload 7, 2) := by decide +kernel
theorem dX7_soonest_104 : decode cX7_soonest 104 = .ok (.ireturn, 1) := by decide +kernel
theorem dX7_roundFor_0 : decode cX7_roundFor 0 = .ok (.aload_n 0, 1) := by decide +kernel
theorem dX7_roundFor_1 : decode cX7_roundFor 1 = .ok (.iload_n 1, 1) := by decide +kernel
theorem dX7_roundFor_2 : decode cX7_roundFor 2 = .ok (.invokevirtual 58, 3) := by decide +kernel
theorem dX7_roundFor_5 : decode cX7_roundFor 5 = .ok (.ifCond .eq 23, 3) := by decide +kernel
theorem dX7_roundFor_8 : decode cX7_roundFor 8 = .ok (.iload_n 2, 1) := by decide +kernel
theorem dX7_roundFor_9 : decode cX7_roundFor 9 = .ok (.invokestatic 187, 3) := by decide +kernel
theorem dX7_roundFor_12 : decode cX7_roundFor 12 = .ok (.ifCond .eq 16, 3) := by decide +kernel
theorem dX7_roundFor_15 : decode cX7_roundFor 15 = .ok (.aload_n 0, 1) := by decide +kernel
theorem dX7_roundFor_16 : decode cX7_roundFor 16 = .ok (.iload_n 1, 1) := by decide +kernel
theorem dX7_roundFor_17 : decode cX7_roundFor 17 = .ok (.iload_n 2, 1) := by decide +kernel
theorem dX7_roundFor_18 : decode cX7_roundFor 18 = .ok (.iconst 0, 1) := by decide +kernel
theorem dX7_roundFor_19 : decode cX7_roundFor 19 = .ok (.iconst 1, 1) := by decide +kernel
theorem dX7_roundFor_20 : decode cX7_roundFor 20 = .ok (.bipush 12, 2) := by decide +kernel
theorem dX7_roundFor_22 : decode cX7_roundFor 22 = .ok (.invokevirtual 288, 3) := by decide +kernel
theorem dX7_roundFor_25 : decode cX7_roundFor 25 = .ok (.goto 9, 3) := by decide +kernel
theorem dX7_roundFor_28 : decode cX7_roundFor 28 = .ok (.aload_n 0, 1) := by decide +kernel
theorem dX7_roundFor_29 : decode cX7_roundFor 29 = .ok (.ldc 40, 2) := by decide +kernel
theorem dX7_roundFor_31 : decode cX7_roundFor 31 = .ok (.invokevirtual 42, 3) := by decide +kernel
theorem dX7_roundFor_34 : decode cX7_roundFor 34 = .ok (.ireturn, 1) := by decide +kernel
theorem dX7_nearFor_0 : decode cX7_nearFor 0 = .ok (.aload_n 0, 1) := by decide +kernel
theorem dX7_nearFor_1 : decode cX7_nearFor 1 = .ok (.iload_n 1, 1) := by decide +kernel
theorem dX7_nearFor_2 : decode cX7_nearFor 2 = .ok (.invokevirtual 58, 3) := by decide +kernel
theorem dX7_nearFor_5 : decode cX7_nearFor 5 = .ok (.ifCond .eq 23, 3) := by decide +kernel
theorem dX7_nearFor_8 : decode cX7_nearFor 8 = .ok (.iload_n 2, 1) := by decide +kernel
theorem dX7_nearFor_9 : decode cX7_nearFor 9 = .ok (.invokestatic 187, 3) := by decide +kernel
theorem dX7_nearFor_12 : decode cX7_nearFor 12 = .ok (.ifCond .eq 16, 3) := by decide +kernel
theorem dX7_nearFor_15 : decode cX7_nearFor 15 = .ok (.aload_n 0, 1) := by decide +kernel
theorem dX7_nearFor_16 : decode cX7_nearFor 16 = .ok (.iload_n 1, 1) := by decide +kernel
theorem dX7_nearFor_17 : decode cX7_nearFor 17 = .ok (.iload_n 2, 1) := by decide +kernel
theorem dX7_nearFor_18 : decode cX7_nearFor 18 = .ok (.iconst 1, 1) := by decide +kernel
theorem dX7_nearFor_19 : decode cX7_nearFor 19 = .ok (.iconst (-1), 1) := by decide +kernel
theorem dX7_nearFor_20 : decode cX7_nearFor 20 = .ok (.bipush 11, 2) := by decide +kernel
theorem dX7_nearFor_22 : decode cX7_nearFor 22 = .ok (.invokevirtual 288, 3) := by decide +kernel
theorem dX7_nearFor_25 : decode cX7_nearFor 25 = .ok (.goto 9, 3) := by decide +kernel
theorem dX7_nearFor_28 : decode cX7_nearFor 28 = .ok (.aload_n 0, 1) := by decide +kernel
theorem dX7_nearFor_29 : decode cX7_nearFor 29 = .ok (.ldc 40, 2) := by decide +kernel
theorem dX7_nearFor_31 : decode cX7_nearFor 31 = .ok (.invokevirtual 42, 3) := by decide +kernel
theorem dX7_nearFor_34 : decode cX7_nearFor 34 = .ok (.ireturn, 1) := by decide +kernel
theorem dX7_chance_0 : decode cX7_chance 0 = .ok (.aload_n 0, 1) := by decide +kernel
theorem dX7_chance_1 : decode cX7_chance 1 = .ok (.iload_n 1, 1) := by decide +kernel
theorem dX7_chance_2 : decode cX7_chance 2 = .ok (.invokevirtual 58, 3) := by decide +kernel
theorem dX7_chance_5 : decode cX7_chance 5 = .ok (.ifCond .eq 15, 3) := by decide +kernel
theorem dX7_chance_8 : decode cX7_chance 8 = .ok (.iload_n 2, 1) := by decide +kernel
theorem dX7_chance_9 : decode cX7_chance 9 = .ok (.i2l, 1) := by decide +kernel
theorem dX7_chance_10 : decode cX7_chance 10 = .ok (.lconst 1, 1) := by decide +kernel
theorem dX7_chance_11 : decode cX7_chance 11 = .ok (.ldc2_w 292, 3) := by decide +kernel
theorem dX7_chance_14 : decode cX7_chance 14 = .ok (.invokestatic 46, 3) := by decide +kernel
theorem dX7_chance_17 : decode cX7_chance 17 = .ok (.ifCond .ne 10, 3) := by decide +kernel
theorem dX7_chance_20 : decode cX7_chance 20 = .ok (.aload_n 0, 1) := by decide +kernel
theorem dX7_chance_21 : decode cX7_chance 21 = .ok (.ldc 40, 2) := by decide +kernel
theorem dX7_chance_23 : decode cX7_chance 23 = .ok (.invokevirtual 42, 3) := by decide +kernel
theorem dX7_chance_26 : decode cX7_chance 26 = .ok (.ireturn, 1) := by decide +kernel
theorem dX7_chance_27 : decode cX7_chance 27 = .ok (.iconst 0, 1) := by decide +kernel
theorem dX7_chance_28 : decode cX7_chance 28 = .ok (.istore_n 3, 1) := by decide +kernel
theorem dX7_chance_29 : decode cX7_chance 29 = .ok (.iconst 0, 1) := by decide +kernel
theorem dX7_chance_30 : decode cX7_chance 30 = .ok (.istore 4, 2) := by decide +kernel
theorem dX7_chance_32 : decode cX7_chance 32 = .ok (.iload 4, 2) := by decide +kernel
theorem dX7_chance_34 : decode cX7_chance 34 = .ok (.iload_n 2, 1) := by decide +kernel
theorem dX7_chance_35 : decode cX7_chance 35 = .ok (.if_icmp .ge 57, 3) := by decide +kernel
theorem dX7_chance_38 : decode cX7_chance 38 = .ok (.aload_n 0, 1) := by decide +kernel
theorem dX7_chance_39 : decode cX7_chance 39 = .ok (.getfield 9, 3) := by decide +kernel
theorem dX7_chance_42 : decode cX7_chance 42 = .ok (.iconst 5, 1) := by decide +kernel
theorem dX7_chance_43 : decode cX7_chance 43 = .ok (.aload_n 0, 1) := by decide +kernel
theorem dX7_chance_44 : decode cX7_chance 44 = .ok (.getfield 9, 3) := by decide +kernel
theorem dX7_chance_47 : decode cX7_chance 47 = .ok (.iconst 5, 1) := by decide +kernel
theorem dX7_chance_48 : decode cX7_chance 48 = .ok (.iaload, 1) := by decide +kernel
theorem dX7_chance_49 : decode cX7_chance 49 = .ok (.ldc_w 294, 3) := by decide +kernel
theorem dX7_chance_52 : decode cX7_chance 52 = .ok (.imul, 1) := by decide +kernel
theorem dX7_chance_53 : decode cX7_chance 53 = .ok (.sipush 12345, 3) := by decide +kernel
theorem dX7_chance_56 : decode cX7_chance 56 = .ok (.iadd, 1) := by decide +kernel
theorem dX7_chance_57 : decode cX7_chance 57 = .ok (.iastore, 1) := by decide +kernel
theorem dX7_chance_58 : decode cX7_chance 58 = .ok (.iload_n 3, 1) := by decide +kernel
theorem dX7_chance_59 : decode cX7_chance 59 = .ok (.aload_n 0, 1) := by decide +kernel
theorem dX7_chance_60 : decode cX7_chance 60 = .ok (.iload_n 1, 1) := by decide +kernel
theorem dX7_chance_61 : decode cX7_chance 61 = .ok (.aload_n 0, 1) := by decide +kernel
theorem dX7_chance_62 : decode cX7_chance 62 = .ok (.getfield 9, 3) := by decide +kernel
theorem dX7_chance_65 : decode cX7_chance 65 = .ok (.iconst 5, 1) := by decide +kernel
theorem dX7_chance_66 : decode cX7_chance 66 = .ok (.iaload, 1) := by decide +kernel
theorem dX7_chance_67 : decode cX7_chance 67 = .ok (.bipush 8, 2) := by decide +kernel
theorem dX7_chance_69 : decode cX7_chance 69 = .ok (.iushr, 1) := by decide +kernel
theorem dX7_chance_70 : decode cX7_chance 70 = .ok (.bipush 60, 2) := by decide +kernel
theorem dX7_chance_72 : decode cX7_chance 72 = .ok (.irem, 1) := by decide +kernel
theorem dX7_chance_73 : decode cX7_chance 73 = .ok (.invokevirtual 231, 3) := by decide +kernel
theorem dX7_chance_76 : decode cX7_chance 76 = .ok (.ifCond .ge 7, 3) := by decide +kernel
theorem dX7_chance_79 : decode cX7_chance 79 = .ok (.iconst 1, 1) := by decide +kernel
theorem dX7_chance_80 : decode cX7_chance 80 = .ok (.goto 4, 3) := by decide +kernel
theorem dX7_chance_83 : decode cX7_chance 83 = .ok (.iconst 0, 1) := by decide +kernel
theorem dX7_chance_84 : decode cX7_chance 84 = .ok (.iadd, 1) := by decide +kernel
theorem dX7_chance_85 : decode cX7_chance 85 = .ok (.istore_n 3, 1) := by decide +kernel
theorem dX7_chance_86 : decode cX7_chance 86 = .ok (.iinc 4 1, 3) := by decide +kernel
theorem dX7_chance_89 : decode cX7_chance 89 = .ok (.goto (-57), 3) := by decide +kernel
theorem dX7_chance_92 : decode cX7_chance 92 = .ok (.iload_n 3, 1) := by decide +kernel
theorem dX7_chance_93 : decode cX7_chance 93 = .ok (.ireturn, 1) := by decide +kernel
theorem dX7_seed_0 : decode cX7_seed 0 = .ok (.aload_n 0, 1) := by decide +kernel
theorem dX7_seed_1 : decode cX7_seed 1 = .ok (.iconst 5, 1) := by decide +kernel
theorem dX7_seed_2 : decode cX7_seed 2 = .ok (.iload_n 1, 1) := by decide +kernel
theorem dX7_seed_3 : decode cX7_seed 3 = .ok (.invokevirtual 168, 3) := by decide +kernel
theorem dX7_seed_6 : decode cX7_seed 6 = .ok (.ireturn, 1) := by decide +kernel
theorem dX7_hold_0 : decode cX7_hold 0 = .ok (.iload_n 1, 1) := by decide +kernel
theorem dX7_hold_1 : decode cX7_hold 1 = .ok (.i2l, 1) := by decide +kernel
theorem dX7_hold_2 : decode cX7_hold 2 = .ok (.lconst 0, 1) := by decide +kernel
theorem dX7_hold_3 : decode cX7_hold 3 = .ok (.ldc2_w 295, 3) := by decide +kernel
theorem dX7_hold_6 : decode cX7_hold 6 = .ok (.invokestatic 46, 3) := by decide +kernel
theorem dX7_hold_9 : decode cX7_hold 9 = .ok (.ifCond .eq 16, 3) := by decide +kernel
theorem dX7_hold_12 : decode cX7_hold 12 = .ok (.iload_n 2, 1) := by decide +kernel
theorem dX7_hold_13 : decode cX7_hold 13 = .ok (.iconst (-1), 1) := by decide +kernel
theorem dX7_hold_14 : decode cX7_hold 14 = .ok (.if_icmp .eq 18, 3) := by decide +kernel
theorem dX7_hold_17 : decode cX7_hold 17 = .ok (.aload_n 0, 1) := by decide +kernel
theorem dX7_hold_18 : decode cX7_hold 18 = .ok (.iload_n 2, 1) := by decide +kernel
theorem dX7_hold_19 : decode cX7_hold 19 = .ok (.invokevirtual 58, 3) := by decide +kernel
theorem dX7_hold_22 : decode cX7_hold 22 = .ok (.ifCond .ne 10, 3) := by decide +kernel
theorem dX7_hold_25 : decode cX7_hold 25 = .ok (.aload_n 0, 1) := by decide +kernel
theorem dX7_hold_26 : decode cX7_hold 26 = .ok (.ldc 40, 2) := by decide +kernel
theorem dX7_hold_28 : decode cX7_hold 28 = .ok (.invokevirtual 42, 3) := by decide +kernel
theorem dX7_hold_31 : decode cX7_hold 31 = .ok (.ireturn, 1) := by decide +kernel
theorem dX7_hold_32 : decode cX7_hold 32 = .ok (.aload_n 0, 1) := by decide +kernel
theorem dX7_hold_33 : decode cX7_hold 33 = .ok (.getfield 9, 3) := by decide +kernel
theorem dX7_hold_36 : decode cX7_hold 36 = .ok (.sipush 237, 3) := by decide +kernel
theorem dX7_hold_39 : decode cX7_hold 39 = .ok (.iload_n 1, 1) := by decide +kernel
theorem dX7_hold_40 : decode cX7_hold 40 = .ok (.iadd, 1) := by decide +kernel
theorem dX7_hold_41 : decode cX7_hold 41 = .ok (.iload_n 2, 1) := by decide +kernel
theorem dX7_hold_42 : decode cX7_hold 42 = .ok (.iastore, 1) := by decide +kernel
theorem dX7_hold_43 : decode cX7_hold 43 = .ok (.iconst 1, 1) := by decide +kernel
theorem dX7_hold_44 : decode cX7_hold 44 = .ok (.ireturn, 1) := by decide +kernel
theorem dX7_above_0 : decode cX7_above 0 = .ok (.iload_n 0, 1) := by decide +kernel
theorem dX7_above_1 : decode cX7_above 1 = .ok (.tableswitch 51 0 6 #[43, 51, 51, 51, 45, 47, 49], 43) := by decide +kernel
theorem dX7_above_44 : decode cX7_above 44 = .ok (.iconst (-1), 1) := by decide +kernel
theorem dX7_above_45 : decode cX7_above 45 = .ok (.ireturn, 1) := by decide +kernel
theorem dX7_above_46 : decode cX7_above 46 = .ok (.iconst 1, 1) := by decide +kernel
theorem dX7_above_47 : decode cX7_above 47 = .ok (.ireturn, 1) := by decide +kernel
theorem dX7_above_48 : decode cX7_above 48 = .ok (.iconst 4, 1) := by decide +kernel
theorem dX7_above_49 : decode cX7_above 49 = .ok (.ireturn, 1) := by decide +kernel
theorem dX7_above_50 : decode cX7_above 50 = .ok (.iconst 3, 1) := by decide +kernel
theorem dX7_above_51 : decode cX7_above 51 = .ok (.ireturn, 1) := by decide +kernel
theorem dX7_above_52 : decode cX7_above 52 = .ok (.iconst 0, 1) := by decide +kernel
theorem dX7_above_53 : decode cX7_above 53 = .ok (.ireturn, 1) := by decide +kernel
theorem dX7_as_0 : decode cX7_as 0 = .ok (.iload_n 1, 1) := by decide +kernel
theorem dX7_as_1 : decode cX7_as 1 = .ok (.i2l, 1) := by decide +kernel
theorem dX7_as_2 : decode cX7_as 2 = .ok (.lconst 0, 1) := by decide +kernel
theorem dX7_as_3 : decode cX7_as 3 = .ok (.ldc2_w 295, 3) := by decide +kernel
theorem dX7_as_6 : decode cX7_as 6 = .ok (.invokestatic 46, 3) := by decide +kernel
theorem dX7_as_9 : decode cX7_as 9 = .ok (.ifCond .eq 10, 3) := by decide +kernel
theorem dX7_as_12 : decode cX7_as 12 = .ok (.iload_n 2, 1) := by decide +kernel
theorem dX7_as_13 : decode cX7_as 13 = .ok (.invokestatic 193, 3) := by decide +kernel
theorem dX7_as_16 : decode cX7_as 16 = .ok (.ifCond .ne 10, 3) := by decide +kernel
theorem dX7_as_19 : decode cX7_as 19 = .ok (.aload_n 0, 1) := by decide +kernel
theorem dX7_as_20 : decode cX7_as 20 = .ok (.ldc 40, 2) := by decide +kernel
theorem dX7_as_22 : decode cX7_as 22 = .ok (.invokevirtual 42, 3) := by decide +kernel
theorem dX7_as_25 : decode cX7_as 25 = .ok (.ireturn, 1) := by decide +kernel
theorem dX7_as_26 : decode cX7_as 26 = .ok (.aload_n 0, 1) := by decide +kernel
theorem dX7_as_27 : decode cX7_as 27 = .ok (.getfield 9, 3) := by decide +kernel
theorem dX7_as_30 : decode cX7_as 30 = .ok (.sipush 237, 3) := by decide +kernel
theorem dX7_as_33 : decode cX7_as 33 = .ok (.iload_n 1, 1) := by decide +kernel
theorem dX7_as_34 : decode cX7_as 34 = .ok (.iadd, 1) := by decide +kernel
theorem dX7_as_35 : decode cX7_as 35 = .ok (.iaload, 1) := by decide +kernel
theorem dX7_as_36 : decode cX7_as 36 = .ok (.istore_n 3, 1) := by decide +kernel
theorem dX7_as_37 : decode cX7_as 37 = .ok (.iload_n 3, 1) := by decide +kernel
theorem dX7_as_38 : decode cX7_as 38 = .ok (.ifCond .ge 11, 3) := by decide +kernel
theorem dX7_as_41 : decode cX7_as 41 = .ok (.aload_n 0, 1) := by decide +kernel
theorem dX7_as_42 : decode cX7_as 42 = .ok (.ldc_w 297, 3) := by decide +kernel
theorem dX7_as_45 : decode cX7_as 45 = .ok (.invokevirtual 42, 3) := by decide +kernel
theorem dX7_as_48 : decode cX7_as 48 = .ok (.ireturn, 1) := by decide +kernel
theorem dX7_as_49 : decode cX7_as 49 = .ok (.aload_n 0, 1) := by decide +kernel
theorem dX7_as_50 : decode cX7_as 50 = .ok (.iload_n 3, 1) := by decide +kernel
theorem dX7_as_51 : decode cX7_as 51 = .ok (.invokevirtual 202, 3) := by decide +kernel
theorem dX7_as_54 : decode cX7_as 54 = .ok (.istore 4, 2) := by decide +kernel
theorem dX7_as_56 : decode cX7_as 56 = .ok (.iload 4, 2) := by decide +kernel
theorem dX7_as_58 : decode cX7_as 58 = .ok (.ifCond .lt 21, 3) := by decide +kernel
theorem dX7_as_61 : decode cX7_as 61 = .ok (.iload 4, 2) := by decide +kernel
theorem dX7_as_63 : decode cX7_as 63 = .ok (.iload_n 2, 1) := by decide +kernel
theorem dX7_as_64 : decode cX7_as 64 = .ok (.if_icmp .ne 5, 3) := by decide +kernel
theorem dX7_as_67 : decode cX7_as 67 = .ok (.iload_n 3, 1) := by decide +kernel
theorem dX7_as_68 : decode cX7_as 68 = .ok (.ireturn, 1) := by decide +kernel
theorem dX7_as_69 : decode cX7_as 69 = .ok (.iload 4, 2) := by decide +kernel
theorem dX7_as_71 : decode cX7_as 71 = .ok (.invokestatic 298, 3) := by decide +kernel
theorem dX7_as_74 : decode cX7_as 74 = .ok (.istore 4, 2) := by decide +kernel
theorem dX7_as_76 : decode cX7_as 76 = .ok (.goto (-20), 3) := by decide +kernel
theorem dX7_as_79 : decode cX7_as 79 = .ok (.aload_n 0, 1) := by decide +kernel
theorem dX7_as_80 : decode cX7_as 80 = .ok (.ldc_w 301, 3) := by decide +kernel
theorem dX7_as_83 : decode cX7_as 83 = .ok (.invokevirtual 42, 3) := by decide +kernel
theorem dX7_as_86 : decode cX7_as 86 = .ok (.ireturn, 1) := by decide +kernel
theorem dX7_isSheet_0 : decode cX7_isSheet 0 = .ok (.iload_n 0, 1) := by decide +kernel
theorem dX7_isSheet_1 : decode cX7_isSheet 1 = .ok (.i2l, 1) := by decide +kernel
theorem dX7_isSheet_2 : decode cX7_isSheet 2 = .ok (.lconst 0, 1) := by decide +kernel
theorem dX7_isSheet_3 : decode cX7_isSheet 3 = .ok (.ldc2_w 302, 3) := by decide +kernel
theorem dX7_isSheet_6 : decode cX7_isSheet 6 = .ok (.invokestatic 46, 3) := by decide +kernel
theorem dX7_isSheet_9 : decode cX7_isSheet 9 = .ok (.ireturn, 1) := by decide +kernel
theorem dX7_sheet_0 : decode cX7_sheet 0 = .ok (.iload_n 1, 1) := by decide +kernel
theorem dX7_sheet_1 : decode cX7_sheet 1 = .ok (.invokestatic 304, 3) := by decide +kernel
theorem dX7_sheet_4 : decode cX7_sheet 4 = .ok (.ifCond .eq 25, 3) := by decide +kernel
theorem dX7_sheet_7 : decode cX7_sheet 7 = .ok (.iload_n 2, 1) := by decide +kernel
theorem dX7_sheet_8 : decode cX7_sheet 8 = .ok (.ifCond .eq 28, 3) := by decide +kernel
theorem dX7_sheet_11 : decode cX7_sheet 11 = .ok (.iload_n 2, 1) := by decide +kernel
theorem dX7_sheet_12 : decode cX7_sheet 12 = .ok (.bipush 8, 2) := by decide +kernel
theorem dX7_sheet_14 : decode cX7_sheet 14 = .ok (.if_icmp .eq 22, 3) := by decide +kernel
theorem dX7_sheet_17 : decode cX7_sheet 17 = .ok (.iload_n 2, 1) := by decide +kernel
theorem dX7_sheet_18 : decode cX7_sheet 18 = .ok (.bipush 16, 2) := by decide +kernel
theorem dX7_sheet_20 : decode cX7_sheet 20 = .ok (.if_icmp .eq 16, 3) := by decide +kernel
theorem dX7_sheet_23 : decode cX7_sheet 23 = .ok (.iload_n 2, 1) := by decide +kernel
theorem dX7_sheet_24 : decode cX7_sheet 24 = .ok (.bipush 32, 2) := by decide +kernel
theorem dX7_sheet_26 : decode cX7_sheet 26 = .ok (.if_icmp .eq 10, 3) := by decide +kernel
theorem dX7_sheet_29 : decode cX7_sheet 29 = .ok (.aload_n 0, 1) := by decide +kernel
theorem dX7_sheet_30 : decode cX7_sheet 30 = .ok (.ldc 40, 2) := by decide +kernel
theorem dX7_sheet_32 : decode cX7_sheet 32 = .ok (.invokevirtual 42, 3) := by decide +kernel
theorem dX7_sheet_35 : decode cX7_sheet 35 = .ok (.ireturn, 1) := by decide +kernel
theorem dX7_sheet_36 : decode cX7_sheet 36 = .ok (.iload_n 3, 1) := by decide +kernel
theorem dX7_sheet_37 : decode cX7_sheet 37 = .ok (.ifCond .ge 11, 3) := by decide +kernel
theorem dX7_sheet_40 : decode cX7_sheet 40 = .ok (.aload_n 0, 1) := by decide +kernel
theorem dX7_sheet_41 : decode cX7_sheet 41 = .ok (.ldc_w 307, 3) := by decide +kernel
theorem dX7_sheet_44 : decode cX7_sheet 44 = .ok (.invokevirtual 42, 3) := by decide +kernel
theorem dX7_sheet_47 : decode cX7_sheet 47 = .ok (.ireturn, 1) := by decide +kernel
theorem dX7_sheet_48 : decode cX7_sheet 48 = .ok (.iload_n 3, 1) := by decide +kernel
theorem dX7_sheet_49 : decode cX7_sheet 49 = .ok (.bipush 40, 2) := by decide +kernel
theorem dX7_sheet_51 : decode cX7_sheet 51 = .ok (.if_icmp .le 10, 3) := by decide +kernel
theorem dX7_sheet_54 : decode cX7_sheet 54 = .ok (.aload_n 0, 1) := by decide +kernel
theorem dX7_sheet_55 : decode cX7_sheet 55 = .ok (.ldc 40, 2) := by decide +kernel
theorem dX7_sheet_57 : decode cX7_sheet 57 = .ok (.invokevirtual 42, 3) := by decide +kernel
theorem dX7_sheet_60 : decode cX7_sheet 60 = .ok (.ireturn, 1) := by decide +kernel
theorem dX7_sheet_61 : decode cX7_sheet 61 = .ok (.aload_n 0, 1) := by decide +kernel
theorem dX7_sheet_62 : decode cX7_sheet 62 = .ok (.getfield 31, 3) := by decide +kernel
theorem dX7_sheet_65 : decode cX7_sheet 65 = .ok (.iload_n 1, 1) := by decide +kernel
theorem dX7_sheet_66 : decode cX7_sheet 66 = .ok (.iload_n 2, 1) := by decide +kernel
theorem dX7_sheet_67 : decode cX7_sheet 67 = .ok (.iastore, 1) := by decide +kernel
theorem dX7_sheet_68 : decode cX7_sheet 68 = .ok (.aload_n 0, 1) := by decide +kernel
theorem dX7_sheet_69 : decode cX7_sheet 69 = .ok (.getfield 34, 3) := by decide +kernel
theorem dX7_sheet_72 : decode cX7_sheet 72 = .ok (.iload_n 1, 1) := by decide +kernel
theorem dX7_sheet_73 : decode cX7_sheet 73 = .ok (.iload_n 2, 1) := by decide +kernel
theorem dX7_sheet_74 : decode cX7_sheet 74 = .ok (.ifCond .ne 7, 3) := by decide +kernel
theorem dX7_sheet_77 : decode cX7_sheet 77 = .ok (.iconst 0, 1) := by decide +kernel
theorem dX7_sheet_78 : decode cX7_sheet 78 = .ok (.goto 4, 3) := by decide +kernel
theorem dX7_sheet_81 : decode cX7_sheet 81 = .ok (.iload_n 3, 1) := by decide +kernel
theorem dX7_sheet_82 : decode cX7_sheet 82 = .ok (.iastore, 1) := by decide +kernel
theorem dX7_sheet_83 : decode cX7_sheet 83 = .ok (.iconst 0, 1) := by decide +kernel
theorem dX7_sheet_84 : decode cX7_sheet 84 = .ok (.istore 4, 2) := by decide +kernel
theorem dX7_sheet_86 : decode cX7_sheet 86 = .ok (.iload 4, 2) := by decide +kernel
theorem dX7_sheet_88 : decode cX7_sheet 88 = .ok (.bipush 40, 2) := by decide +kernel
theorem dX7_sheet_90 : decode cX7_sheet 90 = .ok (.if_icmp .ge 22, 3) := by decide +kernel
theorem dX7_sheet_93 : decode cX7_sheet 93 = .ok (.aload_n 0, 1) := by decide +kernel
theorem dX7_sheet_94 : decode cX7_sheet 94 = .ok (.getfield 37, 3) := by decide +kernel
theorem dX7_sheet_97 : decode cX7_sheet 97 = .ok (.bipush 40, 2) := by decide +kernel
theorem dX7_sheet_99 : decode cX7_sheet 99 = .ok (.iload_n 1, 1) := by decide +kernel
theorem dX7_sheet_100 : decode cX7_sheet 100 = .ok (.imul, 1) := by decide +kernel
theorem dX7_sheet_101 : decode cX7_sheet 101 = .ok (.iload 4, 2) := by decide +kernel
theorem dX7_sheet_103 : decode cX7_sheet 103 = .ok (.iadd, 1) := by decide +kernel
theorem dX7_sheet_104 : decode cX7_sheet 104 = .ok (.iconst 0, 1) := by decide +kernel
theorem dX7_sheet_105 : decode cX7_sheet 105 = .ok (.iastore, 1) := by decide +kernel
theorem dX7_sheet_106 : decode cX7_sheet 106 = .ok (.iinc 4 1, 3) := by decide +kernel
theorem dX7_sheet_109 : decode cX7_sheet 109 = .ok (.goto (-23), 3) := by decide +kernel
theorem dX7_sheet_112 : decode cX7_sheet 112 = .ok (.aload_n 0, 1) := by decide +kernel
theorem dX7_sheet_113 : decode cX7_sheet 113 = .ok (.getfield 34, 3) := by decide +kernel
theorem dX7_sheet_116 : decode cX7_sheet 116 = .ok (.iload_n 1, 1) := by decide +kernel
theorem dX7_sheet_117 : decode cX7_sheet 117 = .ok (.iaload, 1) := by decide +kernel
theorem dX7_sheet_118 : decode cX7_sheet 118 = .ok (.ireturn, 1) := by decide +kernel
theorem dX7_write_0 : decode cX7_write 0 = .ok (.iload_n 1, 1) := by decide +kernel
theorem dX7_write_1 : decode cX7_write 1 = .ok (.invokestatic 304, 3) := by decide +kernel
theorem dX7_write_4 : decode cX7_write 4 = .ok (.ifCond .ne 10, 3) := by decide +kernel
theorem dX7_write_7 : decode cX7_write 7 = .ok (.aload_n 0, 1) := by decide +kernel
theorem dX7_write_8 : decode cX7_write 8 = .ok (.ldc 40, 2) := by decide +kernel
theorem dX7_write_10 : decode cX7_write 10 = .ok (.invokevirtual 42, 3) := by decide +kernel
theorem dX7_write_13 : decode cX7_write 13 = .ok (.ireturn, 1) := by decide +kernel
theorem dX7_write_14 : decode cX7_write 14 = .ok (.aload_n 0, 1) := by decide +kernel
theorem dX7_write_15 : decode cX7_write 15 = .ok (.getfield 31, 3) := by decide +kernel
theorem dX7_write_18 : decode cX7_write 18 = .ok (.iload_n 1, 1) := by decide +kernel
theorem dX7_write_19 : decode cX7_write 19 = .ok (.iaload, 1) := by decide +kernel
theorem dX7_write_20 : decode cX7_write 20 = .ok (.ifCond .ne 11, 3) := by decide +kernel
theorem dX7_write_23 : decode cX7_write 23 = .ok (.aload_n 0, 1) := by decide +kernel
theorem dX7_write_24 : decode cX7_write 24 = .ok (.ldc_w 297, 3) := by decide +kernel
theorem dX7_write_27 : decode cX7_write 27 = .ok (.invokevirtual 42, 3) := by decide +kernel
theorem dX7_write_30 : decode cX7_write 30 = .ok (.ireturn, 1) := by decide +kernel
theorem dX7_write_31 : decode cX7_write 31 = .ok (.iload_n 2, 1) := by decide +kernel
theorem dX7_write_32 : decode cX7_write 32 = .ok (.i2l, 1) := by decide +kernel
theorem dX7_write_33 : decode cX7_write 33 = .ok (.lconst 0, 1) := by decide +kernel
theorem dX7_write_34 : decode cX7_write 34 = .ok (.aload_n 0, 1) := by decide +kernel
theorem dX7_write_35 : decode cX7_write 35 = .ok (.getfield 34, 3) := by decide +kernel
theorem dX7_write_38 : decode cX7_write 38 = .ok (.iload_n 1, 1) := by decide +kernel
theorem dX7_write_39 : decode cX7_write 39 = .ok (.iaload, 1) := by decide +kernel
theorem dX7_write_40 : decode cX7_write 40 = .ok (.iconst 1, 1) := by decide +kernel
theorem dX7_write_41 : decode cX7_write 41 = .ok (.isub, 1) := by decide +kernel
theorem dX7_write_42 : decode cX7_write 42 = .ok (.i2l, 1) := by decide +kernel
theorem dX7_write_43 : decode cX7_write 43 = .ok (.invokestatic 46, 3) := by decide +kernel
theorem dX7_write_46 : decode cX7_write 46 = .ok (.ifCond .ne 10, 3) := by decide +kernel
theorem dX7_write_49 : decode cX7_write 49 = .ok (.aload_n 0, 1) := by decide +kernel
theorem dX7_write_50 : decode cX7_write 50 = .ok (.ldc 40, 2) := by decide +kernel
theorem dX7_write_52 : decode cX7_write 52 = .ok (.invokevirtual 42, 3) := by decide +kernel
theorem dX7_write_55 : decode cX7_write 55 = .ok (.ireturn, 1) := by decide +kernel
theorem dX7_write_56 : decode cX7_write 56 = .ok (.aload_n 0, 1) := by decide +kernel
theorem dX7_write_57 : decode cX7_write 57 = .ok (.getfield 37, 3) := by decide +kernel
theorem dX7_write_60 : decode cX7_write 60 = .ok (.bipush 40, 2) := by decide +kernel
theorem dX7_write_62 : decode cX7_write 62 = .ok (.iload_n 1, 1) := by decide +kernel
theorem dX7_write_63 : decode cX7_write 63 = .ok (.imul, 1) := by decide +kernel
theorem dX7_write_64 : decode cX7_write 64 = .ok (.iload_n 2, 1) := by decide +kernel
theorem dX7_write_65 : decode cX7_write 65 = .ok (.iadd, 1) := by decide +kernel
theorem dX7_write_66 : decode cX7_write 66 = .ok (.aload_n 0, 1) := by decide +kernel
theorem dX7_write_67 : decode cX7_write 67 = .ok (.getfield 31, 3) := by decide +kernel
theorem dX7_write_70 : decode cX7_write 70 = .ok (.iload_n 1, 1) := by decide +kernel
theorem dX7_write_71 : decode cX7_write 71 = .ok (.iaload, 1) := by decide +kernel
theorem dX7_write_72 : decode cX7_write 72 = .ok (.bipush 8, 2) := by decide +kernel
theorem dX7_write_74 : decode cX7_write 74 = .ok (.if_icmp .ne 8, 3) := by decide +kernel
theorem dX7_write_77 : decode cX7_write 77 = .ok (.iload_n 3, 1) := by decide +kernel
theorem dX7_write_78 : decode cX7_write 78 = .ok (.i2b, 1) := by decide +kernel
theorem dX7_write_79 : decode cX7_write 79 = .ok (.goto 20, 3) := by decide +kernel
theorem dX7_write_82 : decode cX7_write 82 = .ok (.aload_n 0, 1) := by decide +kernel
theorem dX7_write_83 : decode cX7_write 83 = .ok (.getfield 31, 3) := by decide +kernel
theorem dX7_write_86 : decode cX7_write 86 = .ok (.iload_n 1, 1) := by decide +kernel
theorem dX7_write_87 : decode cX7_write 87 = .ok (.iaload, 1) := by decide +kernel
theorem dX7_write_88 : decode cX7_write 88 = .ok (.bipush 16, 2) := by decide +kernel
theorem dX7_write_90 : decode cX7_write 90 = .ok (.if_icmp .ne 8, 3) := by decide +kernel
theorem dX7_write_93 : decode cX7_write 93 = .ok (.iload_n 3, 1) := by decide +kernel
theorem dX7_write_94 : decode cX7_write 94 = .ok (.i2s, 1) := by decide +kernel
theorem dX7_write_95 : decode cX7_write 95 = .ok (.goto 4, 3) := by decide +kernel
theorem dX7_write_98 : decode cX7_write 98 = .ok (.iload_n 3, 1) := by decide +kernel
theorem dX7_write_99 : decode cX7_write 99 = .ok (.iastore, 1) := by decide +kernel
theorem dX7_write_100 : decode cX7_write 100 = .ok (.iconst 1, 1) := by decide +kernel
theorem dX7_write_101 : decode cX7_write 101 = .ok (.ireturn, 1) := by decide +kernel
theorem dX7_copy_0 : decode cX7_copy 0 = .ok (.iload_n 1, 1) := by decide +kernel
theorem dX7_copy_1 : decode cX7_copy 1 = .ok (.invokestatic 304, 3) := by decide +kernel
theorem dX7_copy_4 : decode cX7_copy 4 = .ok (.ifCond .eq 10, 3) := by decide +kernel
theorem dX7_copy_7 : decode cX7_copy 7 = .ok (.iload_n 3, 1) := by decide +kernel
theorem dX7_copy_8 : decode cX7_copy 8 = .ok (.invokestatic 304, 3) := by decide +kernel
theorem dX7_copy_11 : decode cX7_copy 11 = .ok (.ifCond .ne 10, 3) := by decide +kernel
theorem dX7_copy_14 : decode cX7_copy 14 = .ok (.aload_n 0, 1) := by decide +kernel
theorem dX7_copy_15 : decode cX7_copy 15 = .ok (.ldc 40, 2) := by decide +kernel
theorem dX7_copy_17 : decode cX7_copy 17 = .ok (.invokevirtual 42, 3) := by decide +kernel
theorem dX7_copy_20 : decode cX7_copy 20 = .ok (.ireturn, 1) := by decide +kernel
theorem dX7_copy_21 : decode cX7_copy 21 = .ok (.aload_n 0, 1) := by decide +kernel
theorem dX7_copy_22 : decode cX7_copy 22 = .ok (.getfield 31, 3) := by decide +kernel
theorem dX7_copy_25 : decode cX7_copy 25 = .ok (.iload_n 1, 1) := by decide +kernel
theorem dX7_copy_26 : decode cX7_copy 26 = .ok (.iaload, 1) := by decide +kernel
theorem dX7_copy_27 : decode cX7_copy 27 = .ok (.ifCond .eq 12, 3) := by decide +kernel
theorem dX7_copy_30 : decode cX7_copy 30 = .ok (.aload_n 0, 1) := by decide +kernel
theorem dX7_copy_31 : decode cX7_copy 31 = .ok (.getfield 31, 3) := by decide +kernel
theorem dX7_copy_34 : decode cX7_copy 34 = .ok (.iload_n 3, 1) := by decide +kernel
theorem dX7_copy_35 : decode cX7_copy 35 = .ok (.iaload, 1) := by decide +kernel
theorem dX7_copy_36 : decode cX7_copy 36 = .ok (.ifCond .ne 11, 3) := by decide +kernel
theorem dX7_copy_39 : decode cX7_copy 39 = .ok (.aload_n 0, 1) := by decide +kernel
theorem dX7_copy_40 : decode cX7_copy 40 = .ok (.ldc_w 297, 3) := by decide +kernel
theorem dX7_copy_43 : decode cX7_copy 43 = .ok (.invokevirtual 42, 3) := by decide +kernel
theorem dX7_copy_46 : decode cX7_copy 46 = .ok (.ireturn, 1) := by decide +kernel
theorem dX7_copy_47 : decode cX7_copy 47 = .ok (.aload_n 0, 1) := by decide +kernel
theorem dX7_copy_48 : decode cX7_copy 48 = .ok (.getfield 31, 3) := by decide +kernel
theorem dX7_copy_51 : decode cX7_copy 51 = .ok (.iload_n 1, 1) := by decide +kernel
theorem dX7_copy_52 : decode cX7_copy 52 = .ok (.iaload, 1) := by decide +kernel
theorem dX7_copy_53 : decode cX7_copy 53 = .ok (.aload_n 0, 1) := by decide +kernel
theorem dX7_copy_54 : decode cX7_copy 54 = .ok (.getfield 31, 3) := by decide +kernel
theorem dX7_copy_57 : decode cX7_copy 57 = .ok (.iload_n 3, 1) := by decide +kernel
theorem dX7_copy_58 : decode cX7_copy 58 = .ok (.iaload, 1) := by decide +kernel
theorem dX7_copy_59 : decode cX7_copy 59 = .ok (.if_icmp .eq 11, 3) := by decide +kernel
theorem dX7_copy_62 : decode cX7_copy 62 = .ok (.aload_n 0, 1) := by decide +kernel
theorem dX7_copy_63 : decode cX7_copy 63 = .ok (.ldc_w 301, 3) := by decide +kernel
theorem dX7_copy_66 : decode cX7_copy 66 = .ok (.invokevirtual 42, 3) := by decide +kernel
theorem dX7_copy_69 : decode cX7_copy 69 = .ok (.ireturn, 1) := by decide +kernel
theorem dX7_copy_70 : decode cX7_copy 70 = .ok (.iload 5, 2) := by decide +kernel
theorem dX7_copy_72 : decode cX7_copy 72 = .ok (.ifCond .lt 39, 3) := by decide +kernel
theorem dX7_copy_75 : decode cX7_copy 75 = .ok (.iload_n 2, 1) := by decide +kernel
theorem dX7_copy_76 : decode cX7_copy 76 = .ok (.ifCond .lt 35, 3) := by decide +kernel
theorem dX7_copy_79 : decode cX7_copy 79 = .ok (.iload 4, 2) := by decide +kernel
theorem dX7_copy_81 : decode cX7_copy 81 = .ok (.ifCond .lt 30, 3) := by decide +kernel
theorem dX7_copy_84 : decode cX7_copy 84 = .ok (.iload 5, 2) := by decide +kernel
theorem dX7_copy_86 : decode cX7_copy 86 = .ok (.aload_n 0, 1) := by decide +kernel
theorem dX7_copy_87 : decode cX7_copy 87 = .ok (.getfield 34, 3) := by decide +kernel
theorem dX7_copy_90 : decode cX7_copy 90 = .ok (.iload_n 1, 1) := by decide +kernel
theorem dX7_copy_91 : decode cX7_copy 91 = .ok (.iaload, 1) := by decide +kernel
theorem dX7_copy_92 : decode cX7_copy 92 = .ok (.iload_n 2, 1) := by decide +kernel
theorem dX7_copy_93 : decode cX7_copy 93 = .ok (.isub, 1) := by decide +kernel
theorem dX7_copy_94 : decode cX7_copy 94 = .ok (.if_icmp .gt 17, 3) := by decide +kernel
theorem dX7_copy_97 : decode cX7_copy 97 = .ok (.iload 5, 2) := by decide +kernel
theorem dX7_copy_99 : decode cX7_copy 99 = .ok (.aload_n 0, 1) := by decide +kernel
theorem dX7_copy_100 : decode cX7_copy 100 = .ok (.getfield 34, 3) := by decide +kernel
theorem dX7_copy_103 : decode cX7_copy 103 = .ok (.iload_n 3, 1) := by decide +kernel
theorem dX7_copy_104 : decode cX7_copy 104 = .ok (.iaload, 1) := by decide +kernel
theorem dX7_copy_105 : decode cX7_copy 105 = .ok (.iload 4, 2) := by decide +kernel
theorem dX7_copy_107 : decode cX7_copy 107 = .ok (.isub, 1) := by decide +kernel
theorem dX7_copy_108 : decode cX7_copy 108 = .ok (.if_icmp .le 10, 3) := by decide +kernel
theorem dX7_copy_111 : decode cX7_copy 111 = .ok (.aload_n 0, 1) := by decide +kernel
theorem dX7_copy_112 : decode cX7_copy 112 = .ok (.ldc 40, 2) := by decide +kernel
theorem dX7_copy_114 : decode cX7_copy 114 = .ok (.invokevirtual 42, 3) := by decide +kernel
theorem dX7_copy_117 : decode cX7_copy 117 = .ok (.ireturn, 1) := by decide +kernel
theorem dX7_copy_118 : decode cX7_copy 118 = .ok (.iload_n 1, 1) := by decide +kernel
theorem dX7_copy_119 : decode cX7_copy 119 = .ok (.iload_n 3, 1) := by decide +kernel
theorem dX7_copy_120 : decode cX7_copy 120 = .ok (.if_icmp .ne 13, 3) := by decide +kernel
theorem dX7_copy_123 : decode cX7_copy 123 = .ok (.iload_n 2, 1) := by decide +kernel
theorem dX7_copy_124 : decode cX7_copy 124 = .ok (.iload 4, 2) := by decide +kernel
theorem dX7_copy_126 : decode cX7_copy 126 = .ok (.if_icmp .ge 7, 3) := by decide +kernel
theorem dX7_copy_129 : decode cX7_copy 129 = .ok (.iconst 1, 1) := by decide +kernel
theorem dX7_copy_130 : decode cX7_copy 130 = .ok (.goto 4, 3) := by decide +kernel
theorem dX7_copy_133 : decode cX7_copy 133 = .ok (.iconst 0, 1) := by decide +kernel
theorem dX7_copy_134 : decode cX7_copy 134 = .ok (.istore 6, 2) := by decide +kernel
theorem dX7_copy_136 : decode cX7_copy 136 = .ok (.iconst 0, 1) := by decide +kernel
theorem dX7_copy_137 : decode cX7_copy 137 = .ok (.istore 7, 2) := by decide +kernel
theorem dX7_copy_139 : decode cX7_copy 139 = .ok (.iload 7, 2) := by decide +kernel
theorem dX7_copy_141 : decode cX7_copy 141 = .ok (.iload 5, 2) := by decide +kernel
theorem dX7_copy_143 : decode cX7_copy 143 = .ok (.if_icmp .ge 57, 3) := by decide +kernel
theorem dX7_copy_146 : decode cX7_copy 146 = .ok (.iload 6, 2) := by decide +kernel
theorem dX7_copy_148 : decode cX7_copy 148 = .ok (.ifCond .eq 13, 3) := by decide +kernel
theorem dX7_copy_151 : decode cX7_copy 151 = .ok (.iload 5, 2) := by decide +kernel
theorem dX7_copy_153 : decode cX7_copy 153 = .ok (.iconst 1, 1) := by decide +kernel
theorem dX7_copy_154 : decode cX7_copy 154 = .ok (.isub, 1) := by decide +kernel
theorem dX7_copy_155 : decode cX7_copy 155 = .ok (.iload 7, 2) := by decide +kernel
theorem dX7_copy_157 : decode cX7_copy 157 = .ok (.isub, 1) := by decide +kernel
theorem dX7_copy_158 : decode cX7_copy 158 = .ok (.goto 5, 3) := by decide +kernel
theorem dX7_copy_161 : decode cX7_copy 161 = .ok (.iload 7, 2) := by decide +kernel
theorem dX7_copy_163 : decode cX7_copy 163 = .ok (.istore 8, 2) := by decide +kernel
theorem dX7_copy_165 : decode cX7_copy 165 = .ok (.aload_n 0, 1) := by decide +kernel
theorem dX7_copy_166 : decode cX7_copy 166 = .ok (.getfield 37, 3) := by decide +kernel
theorem dX7_copy_169 : decode cX7_copy 169 = .ok (.bipush 40, 2) := by decide +kernel
theorem dX7_copy_171 : decode cX7_copy 171 = .ok (.iload_n 3, 1) := by decide +kernel
theorem dX7_copy_172 : decode cX7_copy 172 = .ok (.imul, 1) := by decide +kernel
theorem dX7_copy_173 : decode cX7_copy 173 = .ok (.iload 4, 2) := by decide +kernel
theorem dX7_copy_175 : decode cX7_copy 175 = .ok (.iadd, 1) := by decide +kernel
theorem dX7_copy_176 : decode cX7_copy 176 = .ok (.iload 8, 2) := by decide +kernel
theorem dX7_copy_178 : decode cX7_copy 178 = .ok (.iadd, 1) := by decide +kernel
theorem dX7_copy_179 : decode cX7_copy 179 = .ok (.aload_n 0, 1) := by decide +kernel
theorem dX7_copy_180 : decode cX7_copy 180 = .ok (.getfield 37, 3) := by decide +kernel
theorem dX7_copy_183 : decode cX7_copy 183 = .ok (.bipush 40, 2) := by decide +kernel
theorem dX7_copy_185 : decode cX7_copy 185 = .ok (.iload_n 1, 1) := by decide +kernel
theorem dX7_copy_186 : decode cX7_copy 186 = .ok (.imul, 1) := by decide +kernel
theorem dX7_copy_187 : decode cX7_copy 187 = .ok (.iload_n 2, 1) := by decide +kernel
theorem dX7_copy_188 : decode cX7_copy 188 = .ok (.iadd, 1) := by decide +kernel
theorem dX7_copy_189 : decode cX7_copy 189 = .ok (.iload 8, 2) := by decide +kernel
theorem dX7_copy_191 : decode cX7_copy 191 = .ok (.iadd, 1) := by decide +kernel
theorem dX7_copy_192 : decode cX7_copy 192 = .ok (.iaload, 1) := by decide +kernel
theorem dX7_copy_193 : decode cX7_copy 193 = .ok (.iastore, 1) := by decide +kernel
theorem dX7_copy_194 : decode cX7_copy 194 = .ok (.iinc 7 1, 3) := by decide +kernel
theorem dX7_copy_197 : decode cX7_copy 197 = .ok (.goto (-58), 3) := by decide +kernel
theorem dX7_copy_200 : decode cX7_copy 200 = .ok (.iload 5, 2) := by decide +kernel
theorem dX7_copy_202 : decode cX7_copy 202 = .ok (.ireturn, 1) := by decide +kernel
theorem dX7_load_0 : decode cX7_load 0 = .ok (.iload_n 1, 1) := by decide +kernel
theorem dX7_load_1 : decode cX7_load 1 = .ok (.invokestatic 304, 3) := by decide +kernel
theorem dX7_load_4 : decode cX7_load 4 = .ok (.ifCond .ne 10, 3) := by decide +kernel
theorem dX7_load_7 : decode cX7_load 7 = .ok (.aload_n 0, 1) := by decide +kernel
theorem dX7_load_8 : decode cX7_load 8 = .ok (.ldc 40, 2) := by decide +kernel
theorem dX7_load_10 : decode cX7_load 10 = .ok (.invokevirtual 42, 3) := by decide +kernel
theorem dX7_load_13 : decode cX7_load 13 = .ok (.ireturn, 1) := by decide +kernel
theorem dX7_load_14 : decode cX7_load 14 = .ok (.aload_n 0, 1) := by decide +kernel
theorem dX7_load_15 : decode cX7_load 15 = .ok (.getfield 31, 3) := by decide +kernel
theorem dX7_load_18 : decode cX7_load 18 = .ok (.iload_n 1, 1) := by decide +kernel
theorem dX7_load_19 : decode cX7_load 19 = .ok (.iaload, 1) := by decide +kernel
theorem dX7_load_20 : decode cX7_load 20 = .ok (.ifCond .ne 11, 3) := by decide +kernel
theorem dX7_load_23 : decode cX7_load 23 = .ok (.aload_n 0, 1) := by decide +kernel
theorem dX7_load_24 : decode cX7_load 24 = .ok (.ldc_w 297, 3) := by decide +kernel
theorem dX7_load_27 : decode cX7_load 27 = .ok (.invokevirtual 42, 3) := by decide +kernel
theorem dX7_load_30 : decode cX7_load 30 = .ok (.ireturn, 1) := by decide +kernel
theorem dX7_load_31 : decode cX7_load 31 = .ok (.iconst 0, 1) := by decide +kernel
theorem dX7_load_32 : decode cX7_load 32 = .ok (.istore_n 2, 1) := by decide +kernel
theorem dX7_load_33 : decode cX7_load 33 = .ok (.iload_n 2, 1) := by decide +kernel
theorem dX7_load_34 : decode cX7_load 34 = .ok (.aload_n 0, 1) := by decide +kernel
theorem dX7_load_35 : decode cX7_load 35 = .ok (.getfield 34, 3) := by decide +kernel
theorem dX7_load_38 : decode cX7_load 38 = .ok (.iload_n 1, 1) := by decide +kernel
theorem dX7_load_39 : decode cX7_load 39 = .ok (.iaload, 1) := by decide +kernel
theorem dX7_load_40 : decode cX7_load 40 = .ok (.if_icmp .ge 61, 3) := by decide +kernel
theorem dX7_load_43 : decode cX7_load 43 = .ok (.iload_n 2, 1) := by decide +kernel
theorem dX7_load_44 : decode cX7_load 44 = .ok (.aload_n 0, 1) := by decide +kernel
theorem dX7_load_45 : decode cX7_load 45 = .ok (.getfield 9, 3) := by decide +kernel
theorem dX7_load_48 : decode cX7_load 48 = .ok (.iconst 2, 1) := by decide +kernel
theorem dX7_load_49 : decode cX7_load 49 = .ok (.iaload, 1) := by decide +kernel
theorem dX7_load_50 : decode cX7_load 50 = .ok (.if_icmp .ge 51, 3) := by decide +kernel
theorem dX7_load_53 : decode cX7_load 53 = .ok (.aload_n 0, 1) := by decide +kernel
theorem dX7_load_54 : decode cX7_load 54 = .ok (.getfield 37, 3) := by decide +kernel
theorem dX7_load_57 : decode cX7_load 57 = .ok (.bipush 40, 2) := by decide +kernel
theorem dX7_load_59 : decode cX7_load 59 = .ok (.iload_n 1, 1) := by decide +kernel
theorem dX7_load_60 : decode cX7_load 60 = .ok (.imul, 1) := by decide +kernel
theorem dX7_load_61 : decode cX7_load 61 = .ok (.iload_n 2, 1) := by decide +kernel
theorem dX7_load_62 : decode cX7_load 62 = .ok (.iadd, 1) := by decide +kernel
theorem dX7_load_63 : decode cX7_load 63 = .ok (.iaload, 1) := by decide +kernel
theorem dX7_load_64 : decode cX7_load 64 = .ok (.i2l, 1) := by decide +kernel
theorem dX7_load_65 : decode cX7_load 65 = .ok (.lconst 0, 1) := by decide +kernel
theorem dX7_load_66 : decode cX7_load 66 = .ok (.ldc2_w 175, 3) := by decide +kernel
theorem dX7_load_69 : decode cX7_load 69 = .ok (.invokestatic 46, 3) := by decide +kernel
theorem dX7_load_72 : decode cX7_load 72 = .ok (.ifCond .eq 29, 3) := by decide +kernel
theorem dX7_load_75 : decode cX7_load 75 = .ok (.aload_n 0, 1) := by decide +kernel
theorem dX7_load_76 : decode cX7_load 76 = .ok (.getfield 9, 3) := by decide +kernel
theorem dX7_load_79 : decode cX7_load 79 = .ok (.bipush 6, 2) := by decide +kernel
theorem dX7_load_81 : decode cX7_load 81 = .ok (.iload_n 2, 1) := by decide +kernel
theorem dX7_load_82 : decode cX7_load 82 = .ok (.iadd, 1) := by decide +kernel
theorem dX7_load_83 : decode cX7_load 83 = .ok (.aload_n 0, 1) := by decide +kernel
theorem dX7_load_84 : decode cX7_load 84 = .ok (.getfield 37, 3) := by decide +kernel
theorem dX7_load_87 : decode cX7_load 87 = .ok (.bipush 40, 2) := by decide +kernel
theorem dX7_load_89 : decode cX7_load 89 = .ok (.iload_n 1, 1) := by decide +kernel
theorem dX7_load_90 : decode cX7_load 90 = .ok (.imul, 1) := by decide +kernel
theorem dX7_load_91 : decode cX7_load 91 = .ok (.iload_n 2, 1) := by decide +kernel
theorem dX7_load_92 : decode cX7_load 92 = .ok (.iadd, 1) := by decide +kernel
theorem dX7_load_93 : decode cX7_load 93 = .ok (.iaload, 1) := by decide +kernel
theorem dX7_load_94 : decode cX7_load 94 = .ok (.iastore, 1) := by decide +kernel
theorem dX7_load_95 : decode cX7_load 95 = .ok (.iinc 2 1, 3) := by decide +kernel
theorem dX7_load_98 : decode cX7_load 98 = .ok (.goto (-65), 3) := by decide +kernel
theorem dX7_load_101 : decode cX7_load 101 = .ok (.iload_n 2, 1) := by decide +kernel
theorem dX7_load_102 : decode cX7_load 102 = .ok (.ireturn, 1) := by decide +kernel
theorem dX7_isRight_0 : decode cX7_isRight 0 = .ok (.iload_n 3, 1) := by decide +kernel
theorem dX7_isRight_1 : decode cX7_isRight 1 = .ok (.ifCond .lt 14, 3) := by decide +kernel
theorem dX7_isRight_4 : decode cX7_isRight 4 = .ok (.iload_n 2, 1) := by decide +kernel
theorem dX7_isRight_5 : decode cX7_isRight 5 = .ok (.ifCond .ne 12, 3) := by decide +kernel
theorem dX7_isRight_8 : decode cX7_isRight 8 = .ok (.iload_n 3, 1) := by decide +kernel
theorem dX7_isRight_9 : decode cX7_isRight 9 = .ok (.invokestatic 187, 3) := by decide +kernel
theorem dX7_isRight_12 : decode cX7_isRight 12 = .ok (.ifCond .ne 5, 3) := by decide +kernel
theorem dX7_isRight_15 : decode cX7_isRight 15 = .ok (.iconst 0, 1) := by decide +kernel
theorem dX7_isRight_16 : decode cX7_isRight 16 = .ok (.ireturn, 1) := by decide +kernel
theorem dX7_isRight_17 : decode cX7_isRight 17 = .ok (.aload_n 0, 1) := by decide +kernel
theorem dX7_isRight_18 : decode cX7_isRight 18 = .ok (.iload_n 1, 1) := by decide +kernel
theorem dX7_isRight_19 : decode cX7_isRight 19 = .ok (.iload_n 2, 1) := by decide +kernel
theorem dX7_isRight_20 : decode cX7_isRight 20 = .ok (.iload 4, 2) := by decide +kernel
theorem dX7_isRight_22 : decode cX7_isRight 22 = .ok (.invokevirtual 225, 3) := by decide +kernel
theorem dX7_isRight_25 : decode cX7_isRight 25 = .ok (.iload_n 3, 1) := by decide +kernel
theorem dX7_isRight_26 : decode cX7_isRight 26 = .ok (.if_icmp .ne 25, 3) := by decide +kernel
theorem dX7_isRight_29 : decode cX7_isRight 29 = .ok (.iload_n 2, 1) := by decide +kernel
theorem dX7_isRight_30 : decode cX7_isRight 30 = .ok (.ifCond .eq 17, 3) := by decide +kernel
theorem dX7_isRight_33 : decode cX7_isRight 33 = .ok (.iload_n 3, 1) := by decide +kernel
theorem dX7_isRight_34 : decode cX7_isRight 34 = .ok (.iload 4, 2) := by decide +kernel
theorem dX7_isRight_36 : decode cX7_isRight 36 = .ok (.isub, 1) := by decide +kernel
theorem dX7_isRight_37 : decode cX7_isRight 37 = .ok (.aload_n 0, 1) := by decide +kernel
theorem dX7_isRight_38 : decode cX7_isRight 38 = .ok (.iload_n 1, 1) := by decide +kernel
theorem dX7_isRight_39 : decode cX7_isRight 39 = .ok (.iload_n 2, 1) := by decide +kernel
theorem dX7_isRight_40 : decode cX7_isRight 40 = .ok (.iconst 2, 1) := by decide +kernel
theorem dX7_isRight_41 : decode cX7_isRight 41 = .ok (.invokevirtual 210, 3) := by decide +kernel
theorem dX7_isRight_44 : decode cX7_isRight 44 = .ok (.if_icmp .gt 7, 3) := by decide +kernel
theorem dX7_isRight_47 : decode cX7_isRight 47 = .ok (.iconst 1, 1) := by decide +kernel
theorem dX7_isRight_48 : decode cX7_isRight 48 = .ok (.goto 4, 3) := by decide +kernel
theorem dX7_isRight_51 : decode cX7_isRight 51 = .ok (.iconst 0, 1) := by decide +kernel
theorem dX7_isRight_52 : decode cX7_isRight 52 = .ok (.ireturn, 1) := by decide +kernel
theorem dX7_judge_0 : decode cX7_judge 0 = .ok (.iload_n 1, 1) := by decide +kernel
theorem dX7_judge_1 : decode cX7_judge 1 = .ok (.invokestatic 304, 3) := by decide +kernel
theorem dX7_judge_4 : decode cX7_judge 4 = .ok (.ifCond .ne 10, 3) := by decide +kernel
theorem dX7_judge_7 : decode cX7_judge 7 = .ok (.aload_n 0, 1) := by decide +kernel
theorem dX7_judge_8 : decode cX7_judge 8 = .ok (.ldc 40, 2) := by decide +kernel
theorem dX7_judge_10 : decode cX7_judge 10 = .ok (.invokevirtual 42, 3) := by decide +kernel
theorem dX7_judge_13 : decode cX7_judge 13 = .ok (.ireturn, 1) := by decide +kernel
theorem dX7_judge_14 : decode cX7_judge 14 = .ok (.aload_n 0, 1) := by decide +kernel
theorem dX7_judge_15 : decode cX7_judge 15 = .ok (.getfield 31, 3) := by decide +kernel
theorem dX7_judge_18 : decode cX7_judge 18 = .ok (.iload_n 1, 1) := by decide +kernel
theorem dX7_judge_19 : decode cX7_judge 19 = .ok (.iaload, 1) := by decide +kernel
theorem dX7_judge_20 : decode cX7_judge 20 = .ok (.ifCond .ne 11, 3) := by decide +kernel
theorem dX7_judge_23 : decode cX7_judge 23 = .ok (.aload_n 0, 1) := by decide +kernel
theorem dX7_judge_24 : decode cX7_judge 24 = .ok (.ldc_w 297, 3) := by decide +kernel
theorem dX7_judge_27 : decode cX7_judge 27 = .ok (.invokevirtual 42, 3) := by decide +kernel
theorem dX7_judge_30 : decode cX7_judge 30 = .ok (.ireturn, 1) := by decide +kernel
theorem dX7_judge_31 : decode cX7_judge 31 = .ok (.aload_n 0, 1) := by decide +kernel
theorem dX7_judge_32 : decode cX7_judge 32 = .ok (.iload_n 2, 1) := by decide +kernel
theorem dX7_judge_33 : decode cX7_judge 33 = .ok (.invokevirtual 58, 3) := by decide +kernel
theorem dX7_judge_36 : decode cX7_judge 36 = .ok (.ifCond .ne 10, 3) := by decide +kernel
theorem dX7_judge_39 : decode cX7_judge 39 = .ok (.aload_n 0, 1) := by decide +kernel
theorem dX7_judge_40 : decode cX7_judge 40 = .ok (.ldc 40, 2) := by decide +kernel
theorem dX7_judge_42 : decode cX7_judge 42 = .ok (.invokevirtual 42, 3) := by decide +kernel
theorem dX7_judge_45 : decode cX7_judge 45 = .ok (.ireturn, 1) := by decide +kernel
theorem dX7_judge_46 : decode cX7_judge 46 = .ok (.iconst 0, 1) := by decide +kernel
theorem dX7_judge_47 : decode cX7_judge 47 = .ok (.istore_n 3, 1) := by decide +kernel
theorem dX7_judge_48 : decode cX7_judge 48 = .ok (.iload_n 3, 1) := by decide +kernel
theorem dX7_judge_49 : decode cX7_judge 49 = .ok (.aload_n 0, 1) := by decide +kernel
theorem dX7_judge_50 : decode cX7_judge 50 = .ok (.getfield 34, 3) := by decide +kernel
theorem dX7_judge_53 : decode cX7_judge 53 = .ok (.iload_n 1, 1) := by decide +kernel
theorem dX7_judge_54 : decode cX7_judge 54 = .ok (.iaload, 1) := by decide +kernel
theorem dX7_judge_55 : decode cX7_judge 55 = .ok (.if_icmp .ge 59, 3) := by decide +kernel
theorem dX7_judge_58 : decode cX7_judge 58 = .ok (.iload_n 3, 1) := by decide +kernel
theorem dX7_judge_59 : decode cX7_judge 59 = .ok (.aload_n 0, 1) := by decide +kernel
theorem dX7_judge_60 : decode cX7_judge 60 = .ok (.iload_n 2, 1) := by decide +kernel
theorem dX7_judge_61 : decode cX7_judge 61 = .ok (.invokevirtual 62, 3) := by decide +kernel
theorem dX7_judge_64 : decode cX7_judge 64 = .ok (.if_icmp .ge 50, 3) := by decide +kernel
theorem dX7_judge_67 : decode cX7_judge 67 = .ok (.aload_n 0, 1) := by decide +kernel
theorem dX7_judge_68 : decode cX7_judge 68 = .ok (.iload_n 2, 1) := by decide +kernel
theorem dX7_judge_69 : decode cX7_judge 69 = .ok (.iload_n 3, 1) := by decide +kernel
theorem dX7_judge_70 : decode cX7_judge 70 = .ok (.aload_n 0, 1) := by decide +kernel
theorem dX7_judge_71 : decode cX7_judge 71 = .ok (.getfield 37, 3) := by decide +kernel
theorem dX7_judge_74 : decode cX7_judge 74 = .ok (.bipush 40, 2) := by decide +kernel
theorem dX7_judge_76 : decode cX7_judge 76 = .ok (.iload_n 1, 1) := by decide +kernel
theorem dX7_judge_77 : decode cX7_judge 77 = .ok (.imul, 1) := by decide +kernel
theorem dX7_judge_78 : decode cX7_judge 78 = .ok (.iload_n 3, 1) := by decide +kernel
theorem dX7_judge_79 : decode cX7_judge 79 = .ok (.iadd, 1) := by decide +kernel
theorem dX7_judge_80 : decode cX7_judge 80 = .ok (.iaload, 1) := by decide +kernel
theorem dX7_judge_81 : decode cX7_judge 81 = .ok (.aload_n 0, 1) := by decide +kernel
theorem dX7_judge_82 : decode cX7_judge 82 = .ok (.getfield 37, 3) := by decide +kernel
theorem dX7_judge_85 : decode cX7_judge 85 = .ok (.bipush 40, 2) := by decide +kernel
theorem dX7_judge_87 : decode cX7_judge 87 = .ok (.iload_n 1, 1) := by decide +kernel
theorem dX7_judge_88 : decode cX7_judge 88 = .ok (.imul, 1) := by decide +kernel
theorem dX7_judge_89 : decode cX7_judge 89 = .ok (.iload_n 3, 1) := by decide +kernel
theorem dX7_judge_90 : decode cX7_judge 90 = .ok (.ifCond .ne 7, 3) := by decide +kernel
theorem dX7_judge_93 : decode cX7_judge 93 = .ok (.iconst 0, 1) := by decide +kernel
theorem dX7_judge_94 : decode cX7_judge 94 = .ok (.goto 6, 3) := by decide +kernel
theorem dX7_judge_97 : decode cX7_judge 97 = .ok (.iload_n 3, 1) := by decide +kernel
theorem dX7_judge_98 : decode cX7_judge 98 = .ok (.iconst 1, 1) := by decide +kernel
theorem dX7_judge_99 : decode cX7_judge 99 = .ok (.isub, 1) := by decide +kernel
theorem dX7_judge_100 : decode cX7_judge 100 = .ok (.iadd, 1) := by decide +kernel
theorem dX7_judge_101 : decode cX7_judge 101 = .ok (.iaload, 1) := by decide +kernel
theorem dX7_judge_102 : decode cX7_judge 102 = .ok (.invokevirtual 308, 3) := by decide +kernel
theorem dX7_judge_105 : decode cX7_judge 105 = .ok (.ifCond .eq 9, 3) := by decide +kernel
theorem dX7_judge_108 : decode cX7_judge 108 = .ok (.iinc 3 1, 3) := by decide +kernel
theorem dX7_judge_111 : decode cX7_judge 111 = .ok (.goto (-63), 3) := by decide +kernel
theorem dX7_judge_114 : decode cX7_judge 114 = .ok (.iload_n 3, 1) := by decide +kernel
theorem dX7_judge_115 : decode cX7_judge 115 = .ok (.aload_n 0, 1) := by decide +kernel
theorem dX7_judge_116 : decode cX7_judge 116 = .ok (.getfield 34, 3) := by decide +kernel
theorem dX7_judge_119 : decode cX7_judge 119 = .ok (.iload_n 1, 1) := by decide +kernel
theorem dX7_judge_120 : decode cX7_judge 120 = .ok (.iaload, 1) := by decide +kernel
theorem dX7_judge_121 : decode cX7_judge 121 = .ok (.if_icmp .ne 16, 3) := by decide +kernel
theorem dX7_judge_124 : decode cX7_judge 124 = .ok (.iload_n 3, 1) := by decide +kernel
theorem dX7_judge_125 : decode cX7_judge 125 = .ok (.aload_n 0, 1) := by decide +kernel
theorem dX7_judge_126 : decode cX7_judge 126 = .ok (.iload_n 2, 1) := by decide +kernel
theorem dX7_judge_127 : decode cX7_judge 127 = .ok (.invokevirtual 62, 3) := by decide +kernel
theorem dX7_judge_130 : decode cX7_judge 130 = .ok (.if_icmp .ne 7, 3) := by decide +kernel
theorem dX7_judge_133 : decode cX7_judge 133 = .ok (.iconst 0, 1) := by decide +kernel
theorem dX7_judge_134 : decode cX7_judge 134 = .ok (.goto 6, 3) := by decide +kernel
theorem dX7_judge_137 : decode cX7_judge 137 = .ok (.iconst 1, 1) := by decide +kernel
theorem dX7_judge_138 : decode cX7_judge 138 = .ok (.iload_n 3, 1) := by decide +kernel
theorem dX7_judge_139 : decode cX7_judge 139 = .ok (.iadd, 1) := by decide +kernel
theorem dX7_judge_140 : decode cX7_judge 140 = .ok (.ireturn, 1) := by decide +kernel
theorem dX7_image_0 : decode cX7_image 0 = .ok (.iconst 0, 1) := by decide +kernel
theorem dX7_image_1 : decode cX7_image 1 = .ok (.istore_n 1, 1) := by decide +kernel
theorem dX7_image_2 : decode cX7_image 2 = .ok (.iload_n 1, 1) := by decide +kernel
theorem dX7_image_3 : decode cX7_image 3 = .ok (.sipush 247, 3) := by decide +kernel
theorem dX7_image_6 : decode cX7_image 6 = .ok (.if_icmp .ge 21, 3) := by decide +kernel
theorem dX7_image_9 : decode cX7_image 9 = .ok (.aload_n 0, 1) := by decide +kernel
theorem dX7_image_10 : decode cX7_image 10 = .ok (.getfield 13, 3) := by decide +kernel
theorem dX7_image_13 : decode cX7_image 13 = .ok (.iload_n 1, 1) := by decide +kernel
theorem dX7_image_14 : decode cX7_image 14 = .ok (.aload_n 0, 1) := by decide +kernel
theorem dX7_image_15 : decode cX7_image 15 = .ok (.getfield 9, 3) := by decide +kernel
theorem dX7_image_18 : decode cX7_image 18 = .ok (.iload_n 1, 1) := by decide +kernel
theorem dX7_image_19 : decode cX7_image 19 = .ok (.iaload, 1) := by decide +kernel
theorem dX7_image_20 : decode cX7_image 20 = .ok (.iastore, 1) := by decide +kernel
theorem dX7_image_21 : decode cX7_image 21 = .ok (.iinc 1 1, 3) := by decide +kernel
theorem dX7_image_24 : decode cX7_image 24 = .ok (.goto (-22), 3) := by decide +kernel
theorem dX7_image_27 : decode cX7_image 27 = .ok (.aload_n 0, 1) := by decide +kernel
theorem dX7_image_28 : decode cX7_image 28 = .ok (.iconst 1, 1) := by decide +kernel
theorem dX7_image_29 : decode cX7_image 29 = .ok (.putfield 312, 3) := by decide +kernel
theorem dX7_image_32 : decode cX7_image 32 = .ok (.iconst 1, 1) := by decide +kernel
theorem dX7_image_33 : decode cX7_image 33 = .ok (.ireturn, 1) := by decide +kernel
theorem dX7_undo_0 : decode cX7_undo 0 = .ok (.aload_n 0, 1) := by decide +kernel
theorem dX7_undo_1 : decode cX7_undo 1 = .ok (.getfield 312, 3) := by decide +kernel
theorem dX7_undo_4 : decode cX7_undo 4 = .ok (.ifCond .ne 10, 3) := by decide +kernel
theorem dX7_undo_7 : decode cX7_undo 7 = .ok (.aload_n 0, 1) := by decide +kernel
theorem dX7_undo_8 : decode cX7_undo 8 = .ok (.ldc 41, 2) := by decide +kernel
theorem dX7_undo_10 : decode cX7_undo 10 = .ok (.invokevirtual 42, 3) := by decide +kernel
theorem dX7_undo_13 : decode cX7_undo 13 = .ok (.ireturn, 1) := by decide +kernel
theorem dX7_undo_14 : decode cX7_undo 14 = .ok (.iconst 0, 1) := by decide +kernel
theorem dX7_undo_15 : decode cX7_undo 15 = .ok (.istore_n 1, 1) := by decide +kernel
theorem dX7_undo_16 : decode cX7_undo 16 = .ok (.iload_n 1, 1) := by decide +kernel
theorem dX7_undo_17 : decode cX7_undo 17 = .ok (.sipush 247, 3) := by decide +kernel
theorem dX7_undo_20 : decode cX7_undo 20 = .ok (.if_icmp .ge 21, 3) := by decide +kernel
theorem dX7_undo_23 : decode cX7_undo 23 = .ok (.aload_n 0, 1) := by decide +kernel
theorem dX7_undo_24 : decode cX7_undo 24 = .ok (.getfield 9, 3) := by decide +kernel
theorem dX7_undo_27 : decode cX7_undo 27 = .ok (.iload_n 1, 1) := by decide +kernel
theorem dX7_undo_28 : decode cX7_undo 28 = .ok (.aload_n 0, 1) := by decide +kernel
theorem dX7_undo_29 : decode cX7_undo 29 = .ok (.getfield 13, 3) := by decide +kernel
theorem dX7_undo_32 : decode cX7_undo 32 = .ok (.iload_n 1, 1) := by decide +kernel
theorem dX7_undo_33 : decode cX7_undo 33 = .ok (.iaload, 1) := by decide +kernel
theorem dX7_undo_34 : decode cX7_undo 34 = .ok (.iastore, 1) := by decide +kernel
theorem dX7_undo_35 : decode cX7_undo 35 = .ok (.iinc 1 1, 3) := by decide +kernel
theorem dX7_undo_38 : decode cX7_undo 38 = .ok (.goto (-22), 3) := by decide +kernel
theorem dX7_undo_41 : decode cX7_undo 41 = .ok (.aload_n 0, 1) := by decide +kernel
theorem dX7_undo_42 : decode cX7_undo 42 = .ok (.getfield 9, 3) := by decide +kernel
theorem dX7_undo_45 : decode cX7_undo 45 = .ok (.iconst 3, 1) := by decide +kernel
theorem dX7_undo_46 : decode cX7_undo 46 = .ok (.iaload, 1) := by decide +kernel
theorem dX7_undo_47 : decode cX7_undo 47 = .ok (.ireturn, 1) := by decide +kernel
theorem dX7_tear_0 : decode cX7_tear 0 = .ok (.aload_n 0, 1) := by decide +kernel
theorem dX7_tear_1 : decode cX7_tear 1 = .ok (.getfield 312, 3) := by decide +kernel
theorem dX7_tear_4 : decode cX7_tear 4 = .ok (.ifCond .eq 7, 3) := by decide +kernel
theorem dX7_tear_7 : decode cX7_tear 7 = .ok (.iconst 1, 1) := by decide +kernel
theorem dX7_tear_8 : decode cX7_tear 8 = .ok (.goto 4, 3) := by decide +kernel
theorem dX7_tear_11 : decode cX7_tear 11 = .ok (.iconst 0, 1) := by decide +kernel
theorem dX7_tear_12 : decode cX7_tear 12 = .ok (.istore_n 1, 1) := by decide +kernel
theorem dX7_tear_13 : decode cX7_tear 13 = .ok (.aload_n 0, 1) := by decide +kernel
theorem dX7_tear_14 : decode cX7_tear 14 = .ok (.iconst 0, 1) := by decide +kernel
theorem dX7_tear_15 : decode cX7_tear 15 = .ok (.putfield 312, 3) := by decide +kernel
theorem dX7_tear_18 : decode cX7_tear 18 = .ok (.iload_n 1, 1) := by decide +kernel
theorem dX7_tear_19 : decode cX7_tear 19 = .ok (.ireturn, 1) := by decide +kernel
theorem dX7_count_0 : decode cX7_count 0 = .ok (.iconst 0, 1) := by decide +kernel
theorem dX7_count_1 : decode cX7_count 1 = .ok (.istore_n 2, 1) := by decide +kernel
theorem dX7_count_2 : decode cX7_count 2 = .ok (.iload_n 1, 1) := by decide +kernel
theorem dX7_count_3 : decode cX7_count 3 = .ok (.tableswitch 101 0 7 #[45, 45, 45, 45, 45, 52, 57, 64], 45) := by decide +kernel
theorem dX7_count_48 : decode cX7_count 48 = .ok (.aload_n 0, 1) := by decide +kernel
theorem dX7_count_49 : decode cX7_count 49 = .ok (.getfield 9, 3) := by decide +kernel
theorem dX7_count_52 : decode cX7_count 52 = .ok (.iload_n 1, 1) := by decide +kernel
theorem dX7_count_53 : decode cX7_count 53 = .ok (.iaload, 1) := by decide +kernel
theorem dX7_count_54 : decode cX7_count 54 = .ok (.ireturn, 1) := by decide +kernel
theorem dX7_count_55 : decode cX7_count 55 = .ok (.aload_n 0, 1) := by decide +kernel
theorem dX7_count_56 : decode cX7_count 56 = .ok (.getfield 67, 3) := by decide +kernel
theorem dX7_count_59 : decode cX7_count 59 = .ok (.ireturn, 1) := by decide +kernel
theorem dX7_count_60 : decode cX7_count 60 = .ok (.aload_n 0, 1) := by decide +kernel
theorem dX7_count_61 : decode cX7_count 61 = .ok (.getfield 9, 3) := by decide +kernel
theorem dX7_count_64 : decode cX7_count 64 = .ok (.iconst 5, 1) := by decide +kernel
theorem dX7_count_65 : decode cX7_count 65 = .ok (.iaload, 1) := by decide +kernel
theorem dX7_count_66 : decode cX7_count 66 = .ok (.ireturn, 1) := by decide +kernel
theorem dX7_count_67 : decode cX7_count 67 = .ok (.iconst 0, 1) := by decide +kernel
theorem dX7_count_68 : decode cX7_count 68 = .ok (.istore_n 3, 1) := by decide +kernel
theorem dX7_count_69 : decode cX7_count 69 = .ok (.iload_n 3, 1) := by decide +kernel
theorem dX7_count_70 : decode cX7_count 70 = .ok (.bipush 10, 2) := by decide +kernel
theorem dX7_count_72 : decode cX7_count 72 = .ok (.if_icmp .ge 30, 3) := by decide +kernel
theorem dX7_count_75 : decode cX7_count 75 = .ok (.iload_n 2, 1) := by decide +kernel
theorem dX7_count_76 : decode cX7_count 76 = .ok (.aload_n 0, 1) := by decide +kernel
theorem dX7_count_77 : decode cX7_count 77 = .ok (.getfield 9, 3) := by decide +kernel
theorem dX7_count_80 : decode cX7_count 80 = .ok (.sipush 237, 3) := by decide +kernel
theorem dX7_count_83 : decode cX7_count 83 = .ok (.iload_n 3, 1) := by decide +kernel
theorem dX7_count_84 : decode cX7_count 84 = .ok (.iadd, 1) := by decide +kernel
theorem dX7_count_85 : decode cX7_count 85 = .ok (.iaload, 1) := by decide +kernel
theorem dX7_count_86 : decode cX7_count 86 = .ok (.ifCond .ge 7, 3) := by decide +kernel
theorem dX7_count_89 : decode cX7_count 89 = .ok (.iconst 0, 1) := by decide +kernel
theorem dX7_count_90 : decode cX7_count 90 = .ok (.goto 4, 3) := by decide +kernel
theorem dX7_count_93 : decode cX7_count 93 = .ok (.iconst 1, 1) := by decide +kernel
theorem dX7_count_94 : decode cX7_count 94 = .ok (.iadd, 1) := by decide +kernel
theorem dX7_count_95 : decode cX7_count 95 = .ok (.istore_n 2, 1) := by decide +kernel
theorem dX7_count_96 : decode cX7_count 96 = .ok (.iinc 3 1, 3) := by decide +kernel
theorem dX7_count_99 : decode cX7_count 99 = .ok (.goto (-30), 3) := by decide +kernel
theorem dX7_count_102 : decode cX7_count 102 = .ok (.iload_n 2, 1) := by decide +kernel
theorem dX7_count_103 : decode cX7_count 103 = .ok (.ireturn, 1) := by decide +kernel
theorem dX7_count_104 : decode cX7_count 104 = .ok (.aload_n 0, 1) := by decide +kernel
theorem dX7_count_105 : decode cX7_count 105 = .ok (.ldc 40, 2) := by decide +kernel
theorem dX7_count_107 : decode cX7_count 107 = .ok (.invokevirtual 42, 3) := by decide +kernel
theorem dX7_count_110 : decode cX7_count 110 = .ok (.ireturn, 1) := by decide +kernel
theorem dX7_status_0 : decode cX7_status 0 = .ok (.iload_n 1, 1) := by decide +kernel
theorem dX7_status_1 : decode cX7_status 1 = .ok (.i2l, 1) := by decide +kernel
theorem dX7_status_2 : decode cX7_status 2 = .ok (.ldc2_w 171, 3) := by decide +kernel
theorem dX7_status_5 : decode cX7_status 5 = .ok (.ldc2_w 52, 3) := by decide +kernel
theorem dX7_status_8 : decode cX7_status 8 = .ok (.invokestatic 46, 3) := by decide +kernel
theorem dX7_status_11 : decode cX7_status 11 = .ok (.ifCond .ne 10, 3) := by decide +kernel
theorem dX7_status_14 : decode cX7_status 14 = .ok (.aload_n 0, 1) := by decide +kernel
theorem dX7_status_15 : decode cX7_status 15 = .ok (.ldc 40, 2) := by decide +kernel
theorem dX7_status_17 : decode cX7_status 17 = .ok (.invokevirtual 42, 3) := by decide +kernel
theorem dX7_status_20 : decode cX7_status 20 = .ok (.ireturn, 1) := by decide +kernel
theorem dX7_status_21 : decode cX7_status 21 = .ok (.iconst 0, 1) := by decide +kernel
theorem dX7_status_22 : decode cX7_status 22 = .ok (.istore_n 2, 1) := by decide +kernel
theorem dX7_status_23 : decode cX7_status 23 = .ok (.iconst 0, 1) := by decide +kernel
theorem dX7_status_24 : decode cX7_status 24 = .ok (.istore_n 3, 1) := by decide +kernel
theorem dX7_status_25 : decode cX7_status 25 = .ok (.iload_n 3, 1) := by decide +kernel
theorem dX7_status_26 : decode cX7_status 26 = .ok (.bipush 7, 2) := by decide +kernel
theorem dX7_status_28 : decode cX7_status 28 = .ok (.if_icmp .ge 31, 3) := by decide +kernel
theorem dX7_status_31 : decode cX7_status 31 = .ok (.iload_n 2, 1) := by decide +kernel
theorem dX7_status_32 : decode cX7_status 32 = .ok (.iload_n 1, 1) := by decide +kernel
theorem dX7_status_33 : decode cX7_status 33 = .ok (.ifCond .lt 8, 3) := by decide +kernel
theorem dX7_status_36 : decode cX7_status 36 = .ok (.iload_n 1, 1) := by decide +kernel
theorem dX7_status_37 : decode cX7_status 37 = .ok (.iload_n 3, 1) := by decide +kernel
theorem dX7_status_38 : decode cX7_status 38 = .ok (.if_icmp .ne 12, 3) := by decide +kernel
theorem dX7_status_41 : decode cX7_status 41 = .ok (.aload_n 0, 1) := by decide +kernel
theorem dX7_status_42 : decode cX7_status 42 = .ok (.getfield 16, 3) := by decide +kernel
theorem dX7_status_45 : decode cX7_status 45 = .ok (.iload_n 3, 1) := by decide +kernel
theorem dX7_status_46 : decode cX7_status 46 = .ok (.iaload, 1) := by decide +kernel
theorem dX7_status_47 : decode cX7_status 47 = .ok (.goto 4, 3) := by decide +kernel
theorem dX7_status_50 : decode cX7_status 50 = .ok (.iconst 0, 1) := by decide +kernel
theorem dX7_status_51 : decode cX7_status 51 = .ok (.iadd, 1) := by decide +kernel
theorem dX7_status_52 : decode cX7_status 52 = .ok (.istore_n 2, 1) := by decide +kernel
theorem dX7_status_53 : decode cX7_status 53 = .ok (.iinc 3 1, 3) := by decide +kernel
theorem dX7_status_56 : decode cX7_status 56 = .ok (.goto (-31), 3) := by decide +kernel
theorem dX7_status_59 : decode cX7_status 59 = .ok (.iload_n 2, 1) := by decide +kernel
theorem dX7_status_60 : decode cX7_status 60 = .ok (.ireturn, 1) := by decide +kernel
end
section
theorem dJ6_bitCount_0f7a4_0 : decode cJ6_bitCount_0f7a4 0 = .ok (.iload_n 0, 1) := by decide +kernel
theorem dJ6_bitCount_0f7a4_1 : decode cJ6_bitCount_0f7a4 1 = .ok (.iload_n 0, 1) := by decide +kernel
theorem dJ6_bitCount_0f7a4_2 : decode cJ6_bitCount_0f7a4 2 = .ok (.iconst 1, 1) := by decide +kernel
theorem dJ6_bitCount_0f7a4_3 : decode cJ6_bitCount_0f7a4 3 = .ok (.iushr, 1) := by decide +kernel
theorem dJ6_bitCount_0f7a4_4 : decode cJ6_bitCount_0f7a4 4 = .ok (.ldc_w 265, 3) := by decide +kernel
theorem dJ6_bitCount_0f7a4_7 : decode cJ6_bitCount_0f7a4 7 = .ok (.iand, 1) := by decide +kernel
theorem dJ6_bitCount_0f7a4_8 : decode cJ6_bitCount_0f7a4 8 = .ok (.isub, 1) := by decide +kernel
theorem dJ6_bitCount_0f7a4_9 : decode cJ6_bitCount_0f7a4 9 = .ok (.istore_n 0, 1) := by decide +kernel
theorem dJ6_bitCount_0f7a4_10 : decode cJ6_bitCount_0f7a4 10 = .ok (.iload_n 0, 1) := by decide +kernel
theorem dJ6_bitCount_0f7a4_11 : decode cJ6_bitCount_0f7a4 11 = .ok (.ldc_w 266, 3) := by decide +kernel
theorem dJ6_bitCount_0f7a4_14 : decode cJ6_bitCount_0f7a4 14 = .ok (.iand, 1) := by decide +kernel
theorem dJ6_bitCount_0f7a4_15 : decode cJ6_bitCount_0f7a4 15 = .ok (.iload_n 0, 1) := by decide +kernel
theorem dJ6_bitCount_0f7a4_16 : decode cJ6_bitCount_0f7a4 16 = .ok (.iconst 2, 1) := by decide +kernel
theorem dJ6_bitCount_0f7a4_17 : decode cJ6_bitCount_0f7a4 17 = .ok (.iushr, 1) := by decide +kernel
theorem dJ6_bitCount_0f7a4_18 : decode cJ6_bitCount_0f7a4 18 = .ok (.ldc_w 266, 3) := by decide +kernel
theorem dJ6_bitCount_0f7a4_21 : decode cJ6_bitCount_0f7a4 21 = .ok (.iand, 1) := by decide +kernel
theorem dJ6_bitCount_0f7a4_22 : decode cJ6_bitCount_0f7a4 22 = .ok (.iadd, 1) := by decide +kernel
theorem dJ6_bitCount_0f7a4_23 : decode cJ6_bitCount_0f7a4 23 = .ok (.istore_n 0, 1) := by decide +kernel
theorem dJ6_bitCount_0f7a4_24 : decode cJ6_bitCount_0f7a4 24 = .ok (.iload_n 0, 1) := by decide +kernel
theorem dJ6_bitCount_0f7a4_25 : decode cJ6_bitCount_0f7a4 25 = .ok (.iload_n 0, 1) := by decide +kernel
theorem dJ6_bitCount_0f7a4_26 : decode cJ6_bitCount_0f7a4 26 = .ok (.iconst 4, 1) := by decide +kernel
theorem dJ6_bitCount_0f7a4_27 : decode cJ6_bitCount_0f7a4 27 = .ok (.iushr, 1) := by decide +kernel
theorem dJ6_bitCount_0f7a4_28 : decode cJ6_bitCount_0f7a4 28 = .ok (.iadd, 1) := by decide +kernel
theorem dJ6_bitCount_0f7a4_29 : decode cJ6_bitCount_0f7a4 29 = .ok (.ldc_w 267, 3) := by decide +kernel
theorem dJ6_bitCount_0f7a4_32 : decode cJ6_bitCount_0f7a4 32 = .ok (.iand, 1) := by decide +kernel
theorem dJ6_bitCount_0f7a4_33 : decode cJ6_bitCount_0f7a4 33 = .ok (.istore_n 0, 1) := by decide +kernel
theorem dJ6_bitCount_0f7a4_34 : decode cJ6_bitCount_0f7a4 34 = .ok (.iload_n 0, 1) := by decide +kernel
theorem dJ6_bitCount_0f7a4_35 : decode cJ6_bitCount_0f7a4 35 = .ok (.iload_n 0, 1) := by decide +kernel
theorem dJ6_bitCount_0f7a4_36 : decode cJ6_bitCount_0f7a4 36 = .ok (.bipush 8, 2) := by decide +kernel
theorem dJ6_bitCount_0f7a4_38 : decode cJ6_bitCount_0f7a4 38 = .ok (.iushr, 1) := by decide +kernel
theorem dJ6_bitCount_0f7a4_39 : decode cJ6_bitCount_0f7a4 39 = .ok (.iadd, 1) := by decide +kernel
theorem dJ6_bitCount_0f7a4_40 : decode cJ6_bitCount_0f7a4 40 = .ok (.istore_n 0, 1) := by decide +kernel
theorem dJ6_bitCount_0f7a4_41 : decode cJ6_bitCount_0f7a4 41 = .ok (.iload_n 0, 1) := by decide +kernel
theorem dJ6_bitCount_0f7a4_42 : decode cJ6_bitCount_0f7a4 42 = .ok (.iload_n 0, 1) := by decide +kernel
theorem dJ6_bitCount_0f7a4_43 : decode cJ6_bitCount_0f7a4 43 = .ok (.bipush 16, 2) := by decide +kernel
theorem dJ6_bitCount_0f7a4_45 : decode cJ6_bitCount_0f7a4 45 = .ok (.iushr, 1) := by decide +kernel
theorem dJ6_bitCount_0f7a4_46 : decode cJ6_bitCount_0f7a4 46 = .ok (.iadd, 1) := by decide +kernel
theorem dJ6_bitCount_0f7a4_47 : decode cJ6_bitCount_0f7a4 47 = .ok (.istore_n 0, 1) := by decide +kernel
theorem dJ6_bitCount_0f7a4_48 : decode cJ6_bitCount_0f7a4 48 = .ok (.iload_n 0, 1) := by decide +kernel
theorem dJ6_bitCount_0f7a4_49 : decode cJ6_bitCount_0f7a4 49 = .ok (.bipush 63, 2) := by decide +kernel
theorem dJ6_bitCount_0f7a4_51 : decode cJ6_bitCount_0f7a4 51 = .ok (.iand, 1) := by decide +kernel
theorem dJ6_bitCount_0f7a4_52 : decode cJ6_bitCount_0f7a4 52 = .ok (.ireturn, 1) := by decide +kernel
theorem dJ9_max_7cf53_0 : decode cJ9_max_7cf53 0 = .ok (.iload_n 0, 1) := by decide +kernel
theorem dJ9_max_7cf53_1 : decode cJ9_max_7cf53 1 = .ok (.iload_n 1, 1) := by decide +kernel
theorem dJ9_max_7cf53_2 : decode cJ9_max_7cf53 2 = .ok (.if_icmp .lt 7, 3) := by decide +kernel
theorem dJ9_max_7cf53_5 : decode cJ9_max_7cf53 5 = .ok (.iload_n 0, 1) := by decide +kernel
theorem dJ9_max_7cf53_6 : decode cJ9_max_7cf53 6 = .ok (.goto 4, 3) := by decide +kernel
theorem dJ9_max_7cf53_9 : decode cJ9_max_7cf53 9 = .ok (.iload_n 1, 1) := by decide +kernel
theorem dJ9_max_7cf53_10 : decode cJ9_max_7cf53 10 = .ok (.ireturn, 1) := by decide +kernel
theorem dJ9_min_7cf53_0 : decode cJ9_min_7cf53 0 = .ok (.iload_n 0, 1) := by decide +kernel
theorem dJ9_min_7cf53_1 : decode cJ9_min_7cf53 1 = .ok (.iload_n 1, 1) := by decide +kernel
theorem dJ9_min_7cf53_2 : decode cJ9_min_7cf53 2 = .ok (.if_icmp .gt 7, 3) := by decide +kernel
theorem dJ9_min_7cf53_5 : decode cJ9_min_7cf53 5 = .ok (.iload_n 0, 1) := by decide +kernel
theorem dJ9_min_7cf53_6 : decode cJ9_min_7cf53 6 = .ok (.goto 4, 3) := by decide +kernel
theorem dJ9_min_7cf53_9 : decode cJ9_min_7cf53 9 = .ok (.iload_n 1, 1) := by decide +kernel
theorem dJ9_min_7cf53_10 : decode cJ9_min_7cf53 10 = .ok (.ireturn, 1) := by decide +kernel
theorem dJ0_length_8abf5_0 : decode cJ0_length_8abf5 0 = .ok (.aload_n 0, 1) := by decide +kernel
theorem dJ0_length_8abf5_1 : decode cJ0_length_8abf5 1 = .ok (.getfield 9, 3) := by decide +kernel
theorem dJ0_length_8abf5_4 : decode cJ0_length_8abf5 4 = .ok (.arraylength, 1) := by decide +kernel
theorem dJ0_length_8abf5_5 : decode cJ0_length_8abf5 5 = .ok (.aload_n 0, 1) := by decide +kernel
theorem dJ0_length_8abf5_6 : decode cJ0_length_8abf5 6 = .ok (.invokevirtual 335, 3) := by decide +kernel
theorem dJ0_length_8abf5_9 : decode cJ0_length_8abf5 9 = .ok (.ishr, 1) := by decide +kernel
theorem dJ0_length_8abf5_10 : decode cJ0_length_8abf5 10 = .ok (.ireturn, 1) := by decide +kernel
theorem dJ0_charAt_5068e_0 : decode cJ0_charAt_5068e 0 = .ok (.aload_n 0, 1) := by decide +kernel
theorem dJ0_charAt_5068e_1 : decode cJ0_charAt_5068e 1 = .ok (.invokevirtual 492, 3) := by decide +kernel
theorem dJ0_charAt_5068e_4 : decode cJ0_charAt_5068e 4 = .ok (.ifCond .eq 12, 3) := by decide +kernel
theorem dJ0_charAt_5068e_7 : decode cJ0_charAt_5068e 7 = .ok (.aload_n 0, 1) := by decide +kernel
theorem dJ0_charAt_5068e_8 : decode cJ0_charAt_5068e 8 = .ok (.getfield 9, 3) := by decide +kernel
theorem dJ0_charAt_5068e_11 : decode cJ0_charAt_5068e 11 = .ok (.iload_n 1, 1) := by decide +kernel
theorem dJ0_charAt_5068e_12 : decode cJ0_charAt_5068e 12 = .ok (.invokestatic 495, 3) := by decide +kernel
theorem dJ0_charAt_5068e_15 : decode cJ0_charAt_5068e 15 = .ok (.ireturn, 1) := by decide +kernel
theorem dJ0_charAt_5068e_16 : decode cJ0_charAt_5068e 16 = .ok (.aload_n 0, 1) := by decide +kernel
theorem dJ0_charAt_5068e_17 : decode cJ0_charAt_5068e 17 = .ok (.getfield 9, 3) := by decide +kernel
theorem dJ0_charAt_5068e_20 : decode cJ0_charAt_5068e 20 = .ok (.iload_n 1, 1) := by decide +kernel
theorem dJ0_charAt_5068e_21 : decode cJ0_charAt_5068e 21 = .ok (.invokestatic 498, 3) := by decide +kernel
theorem dJ0_charAt_5068e_24 : decode cJ0_charAt_5068e 24 = .ok (.ireturn, 1) := by decide +kernel
theorem dJ0_coder_7d493_0 : decode cJ0_coder_7d493 0 = .ok (.getstatic 38, 3) := by decide +kernel
theorem dJ0_coder_7d493_3 : decode cJ0_coder_7d493 3 = .ok (.ifCond .eq 10, 3) := by decide +kernel
theorem dJ0_coder_7d493_6 : decode cJ0_coder_7d493 6 = .ok (.aload_n 0, 1) := by decide +kernel
theorem dJ0_coder_7d493_7 : decode cJ0_coder_7d493 7 = .ok (.getfield 15, 3) := by decide +kernel
theorem dJ0_coder_7d493_10 : decode cJ0_coder_7d493 10 = .ok (.goto 4, 3) := by decide +kernel
theorem dJ0_coder_7d493_13 : decode cJ0_coder_7d493 13 = .ok (.iconst 1, 1) := by decide +kernel
theorem dJ0_coder_7d493_14 : decode cJ0_coder_7d493 14 = .ok (.ireturn, 1) := by decide +kernel
theorem dJ0_isLatin1_aae02_0 : decode cJ0_isLatin1_aae02 0 = .ok (.getstatic 38, 3) := by decide +kernel
theorem dJ0_isLatin1_aae02_3 : decode cJ0_isLatin1_aae02 3 = .ok (.ifCond .eq 14, 3) := by decide +kernel
theorem dJ0_isLatin1_aae02_6 : decode cJ0_isLatin1_aae02 6 = .ok (.aload_n 0, 1) := by decide +kernel
theorem dJ0_isLatin1_aae02_7 : decode cJ0_isLatin1_aae02 7 = .ok (.getfield 15, 3) := by decide +kernel
theorem dJ0_isLatin1_aae02_10 : decode cJ0_isLatin1_aae02 10 = .ok (.ifCond .ne 7, 3) := by decide +kernel
theorem dJ0_isLatin1_aae02_13 : decode cJ0_isLatin1_aae02 13 = .ok (.iconst 1, 1) := by decide +kernel
theorem dJ0_isLatin1_aae02_14 : decode cJ0_isLatin1_aae02 14 = .ok (.goto 4, 3) := by decide +kernel
theorem dJ0_isLatin1_aae02_17 : decode cJ0_isLatin1_aae02 17 = .ok (.iconst 0, 1) := by decide +kernel
theorem dJ0_isLatin1_aae02_18 : decode cJ0_isLatin1_aae02 18 = .ok (.ireturn, 1) := by decide +kernel
theorem dJ0_checkIndex_df160_0 : decode cJ0_checkIndex_df160 0 = .ok (.iload_n 0, 1) := by decide +kernel
theorem dJ0_checkIndex_df160_1 : decode cJ0_checkIndex_df160 1 = .ok (.iload_n 1, 1) := by decide +kernel
theorem dJ0_checkIndex_df160_2 : decode cJ0_checkIndex_df160 2 = .ok (.getstatic 1053, 3) := by decide +kernel
theorem dJ0_checkIndex_df160_5 : decode cJ0_checkIndex_df160 5 = .ok (.invokestatic 1059, 3) := by decide +kernel
theorem dJ0_checkIndex_df160_8 : decode cJ0_checkIndex_df160 8 = .ok (.pop, 1) := by decide +kernel
theorem dJ0_checkIndex_df160_9 : decode cJ0_checkIndex_df160 9 = .ok (.return_, 1) := by decide +kernel
theorem dJ1_charAt_3b067_0 : decode cJ1_charAt_3b067 0 = .ok (.iload_n 1, 1) := by decide +kernel
theorem dJ1_charAt_3b067_1 : decode cJ1_charAt_3b067 1 = .ok (.aload_n 0, 1) := by decide +kernel
theorem dJ1_charAt_3b067_2 : decode cJ1_charAt_3b067 2 = .ok (.arraylength, 1) := by decide +kernel
theorem dJ1_charAt_3b067_3 : decode cJ1_charAt_3b067 3 = .ok (.invokestatic 9, 3) := by decide +kernel
theorem dJ1_charAt_3b067_6 : decode cJ1_charAt_3b067 6 = .ok (.aload_n 0, 1) := by decide +kernel
theorem dJ1_charAt_3b067_7 : decode cJ1_charAt_3b067 7 = .ok (.iload_n 1, 1) := by decide +kernel
theorem dJ1_charAt_3b067_8 : decode cJ1_charAt_3b067 8 = .ok (.baload, 1) := by decide +kernel
theorem dJ1_charAt_3b067_9 : decode cJ1_charAt_3b067 9 = .ok (.sipush 255, 3) := by decide +kernel
theorem dJ1_charAt_3b067_12 : decode cJ1_charAt_3b067 12 = .ok (.iand, 1) := by decide +kernel
theorem dJ1_charAt_3b067_13 : decode cJ1_charAt_3b067 13 = .ok (.i2c, 1) := by decide +kernel
theorem dJ1_charAt_3b067_14 : decode cJ1_charAt_3b067 14 = .ok (.ireturn, 1) := by decide +kernel
theorem dJ2_getChar_3b067_0 : decode cJ2_getChar_3b067 0 = .ok (.getstatic 44, 3) := by decide +kernel
theorem dJ2_getChar_3b067_3 : decode cJ2_getChar_3b067 3 = .ok (.ifCond .ne 25, 3) := by decide +kernel
theorem dJ2_getChar_3b067_6 : decode cJ2_getChar_3b067 6 = .ok (.iload_n 1, 1) := by decide +kernel
theorem dJ2_getChar_3b067_7 : decode cJ2_getChar_3b067 7 = .ok (.ifCond .lt 11, 3) := by decide +kernel
theorem dJ2_getChar_3b067_10 : decode cJ2_getChar_3b067 10 = .ok (.iload_n 1, 1) := by decide +kernel
theorem dJ2_getChar_3b067_11 : decode cJ2_getChar_3b067 11 = .ok (.aload_n 0, 1) := by decide +kernel
theorem dJ2_getChar_3b067_12 : decode cJ2_getChar_3b067 12 = .ok (.invokestatic 48, 3) := by decide +kernel
theorem dJ2_getChar_3b067_15 : decode cJ2_getChar_3b067 15 = .ok (.if_icmp .lt 13, 3) := by decide +kernel
theorem dJ2_getChar_3b067_18 : decode cJ2_getChar_3b067 18 = .ok (.new 52, 3) := by decide +kernel
theorem dJ2_getChar_3b067_21 : decode cJ2_getChar_3b067 21 = .ok (.dup, 1) := by decide +kernel
theorem dJ2_getChar_3b067_22 : decode cJ2_getChar_3b067 22 = .ok (.ldc 54, 2) := by decide +kernel
theorem dJ2_getChar_3b067_24 : decode cJ2_getChar_3b067 24 = .ok (.invokespecial 56, 3) := by decide +kernel
theorem dJ2_getChar_3b067_27 : decode cJ2_getChar_3b067 27 = .ok (.athrow, 1) := by decide +kernel
theorem dJ2_getChar_3b067_28 : decode cJ2_getChar_3b067 28 = .ok (.iload_n 1, 1) := by decide +kernel
theorem dJ2_getChar_3b067_29 : decode cJ2_getChar_3b067 29 = .ok (.iconst 1, 1) := by decide +kernel
theorem dJ2_getChar_3b067_30 : decode cJ2_getChar_3b067 30 = .ok (.ishl, 1) := by decide +kernel
theorem dJ2_getChar_3b067_31 : decode cJ2_getChar_3b067 31 = .ok (.istore_n 1, 1) := by decide +kernel
theorem dJ2_getChar_3b067_32 : decode cJ2_getChar_3b067 32 = .ok (.aload_n 0, 1) := by decide +kernel
theorem dJ2_getChar_3b067_33 : decode cJ2_getChar_3b067 33 = .ok (.iload_n 1, 1) := by decide +kernel
theorem dJ2_getChar_3b067_34 : decode cJ2_getChar_3b067 34 = .ok (.iinc 1 1, 3) := by decide +kernel
theorem dJ2_getChar_3b067_37 : decode cJ2_getChar_3b067 37 = .ok (.baload, 1) := by decide +kernel
theorem dJ2_getChar_3b067_38 : decode cJ2_getChar_3b067 38 = .ok (.sipush 255, 3) := by decide +kernel
theorem dJ2_getChar_3b067_41 : decode cJ2_getChar_3b067 41 = .ok (.iand, 1) := by decide +kernel
theorem dJ2_getChar_3b067_42 : decode cJ2_getChar_3b067 42 = .ok (.getstatic 59, 3) := by decide +kernel
theorem dJ2_getChar_3b067_45 : decode cJ2_getChar_3b067 45 = .ok (.ishl, 1) := by decide +kernel
theorem dJ2_getChar_3b067_46 : decode cJ2_getChar_3b067 46 = .ok (.aload_n 0, 1) := by decide +kernel
theorem dJ2_getChar_3b067_47 : decode cJ2_getChar_3b067 47 = .ok (.iload_n 1, 1) := by decide +kernel
theorem dJ2_getChar_3b067_48 : decode cJ2_getChar_3b067 48 = .ok (.baload, 1) := by decide +kernel
theorem dJ2_getChar_3b067_49 : decode cJ2_getChar_3b067 49 = .ok (.sipush 255, 3) := by decide +kernel
theorem dJ2_getChar_3b067_52 : decode cJ2_getChar_3b067 52 = .ok (.iand, 1) := by decide +kernel
theorem dJ2_getChar_3b067_53 : decode cJ2_getChar_3b067 53 = .ok (.getstatic 63, 3) := by decide +kernel
theorem dJ2_getChar_3b067_56 : decode cJ2_getChar_3b067 56 = .ok (.ishl, 1) := by decide +kernel
theorem dJ2_getChar_3b067_57 : decode cJ2_getChar_3b067 57 = .ok (.ior, 1) := by decide +kernel
theorem dJ2_getChar_3b067_58 : decode cJ2_getChar_3b067 58 = .ok (.i2c, 1) := by decide +kernel
theorem dJ2_getChar_3b067_59 : decode cJ2_getChar_3b067 59 = .ok (.ireturn, 1) := by decide +kernel
theorem dJ2_length_9d52b_0 : decode cJ2_length_9d52b 0 = .ok (.aload_n 0, 1) := by decide +kernel
theorem dJ2_length_9d52b_1 : decode cJ2_length_9d52b 1 = .ok (.arraylength, 1) := by decide +kernel
theorem dJ2_length_9d52b_2 : decode cJ2_length_9d52b 2 = .ok (.iconst 1, 1) := by decide +kernel
theorem dJ2_length_9d52b_3 : decode cJ2_length_9d52b 3 = .ok (.ishr, 1) := by decide +kernel
theorem dJ2_length_9d52b_4 : decode cJ2_length_9d52b 4 = .ok (.ireturn, 1) := by decide +kernel
theorem dJ2_charAt_3b067_0 : decode cJ2_charAt_3b067 0 = .ok (.iload_n 1, 1) := by decide +kernel
theorem dJ2_charAt_3b067_1 : decode cJ2_charAt_3b067 1 = .ok (.aload_n 0, 1) := by decide +kernel
theorem dJ2_charAt_3b067_2 : decode cJ2_charAt_3b067 2 = .ok (.invokestatic 67, 3) := by decide +kernel
theorem dJ2_charAt_3b067_5 : decode cJ2_charAt_3b067 5 = .ok (.aload_n 0, 1) := by decide +kernel
theorem dJ2_charAt_3b067_6 : decode cJ2_charAt_3b067 6 = .ok (.iload_n 1, 1) := by decide +kernel
theorem dJ2_charAt_3b067_7 : decode cJ2_charAt_3b067 7 = .ok (.invokestatic 71, 3) := by decide +kernel
theorem dJ2_charAt_3b067_10 : decode cJ2_charAt_3b067 10 = .ok (.ireturn, 1) := by decide +kernel
theorem dJ2_checkIndex_2214a_0 : decode cJ2_checkIndex_2214a 0 = .ok (.iload_n 0, 1) := by decide +kernel
theorem dJ2_checkIndex_2214a_1 : decode cJ2_checkIndex_2214a 1 = .ok (.aload_n 1, 1) := by decide +kernel
theorem dJ2_checkIndex_2214a_2 : decode cJ2_checkIndex_2214a 2 = .ok (.invokestatic 48, 3) := by decide +kernel
theorem dJ2_checkIndex_2214a_5 : decode cJ2_checkIndex_2214a 5 = .ok (.invokestatic 414, 3) := by decide +kernel
theorem dJ2_checkIndex_2214a_8 : decode cJ2_checkIndex_2214a 8 = .ok (.return_, 1) := by decide +kernel
theorem dJ3_checkIndex_8e157_0 : decode cJ3_checkIndex_8e157 0 = .ok (.iload_n 0, 1) := by decide +kernel
theorem dJ3_checkIndex_8e157_1 : decode cJ3_checkIndex_8e157 1 = .ok (.ifCond .lt 8, 3) := by decide +kernel
theorem dJ3_checkIndex_8e157_4 : decode cJ3_checkIndex_8e157 4 = .ok (.iload_n 0, 1) := by decide +kernel
theorem dJ3_checkIndex_8e157_5 : decode cJ3_checkIndex_8e157 5 = .ok (.iload_n 1, 1) := by decide +kernel
theorem dJ3_checkIndex_8e157_6 : decode cJ3_checkIndex_8e157 6 = .ok (.if_icmp .lt 10, 3) := by decide +kernel
theorem dJ3_checkIndex_8e157_9 : decode cJ3_checkIndex_8e157 9 = .ok (.aload_n 2, 1) := by decide +kernel
theorem dJ3_checkIndex_8e157_10 : decode cJ3_checkIndex_8e157 10 = .ok (.iload_n 0, 1) := by decide +kernel
theorem dJ3_checkIndex_8e157_11 : decode cJ3_checkIndex_8e157 11 = .ok (.iload_n 1, 1) := by decide +kernel
theorem dJ3_checkIndex_8e157_12 : decode cJ3_checkIndex_8e157 12 = .ok (.invokestatic 95, 3) := by decide +kernel
theorem dJ3_checkIndex_8e157_15 : decode cJ3_checkIndex_8e157 15 = .ok (.athrow, 1) := by decide +kernel
theorem dJ3_checkIndex_8e157_16 : decode cJ3_checkIndex_8e157 16 = .ok (.iload_n 0, 1) := by decide +kernel
theorem dJ3_checkIndex_8e157_17 : decode cJ3_checkIndex_8e157 17 = .ok (.ireturn, 1) := by decide +kernel
theorem dL_law_0 : decode cL_law 0 = .ok (.new 7, 3) := by decide +kernel
theorem dL_law_3 : decode cL_law 3 = .ok (.dup, 1) := by decide +kernel
theorem dL_law_4 : decode cL_law 4 = .ok (.invokespecial 9, 3) := by decide +kernel
theorem dL_law_7 : decode cL_law 7 = .ok (.astore_n 1, 1) := by decide +kernel
theorem dL_law_8 : decode cL_law 8 = .ok (.new 10, 3) := by decide +kernel
theorem dL_law_11 : decode cL_law 11 = .ok (.dup, 1) := by decide +kernel
theorem dL_law_12 : decode cL_law 12 = .ok (.invokespecial 12, 3) := by decide +kernel
theorem dL_law_15 : decode cL_law 15 = .ok (.astore_n 2, 1) := by decide +kernel
theorem dL_law_16 : decode cL_law 16 = .ok (.iconst 0, 1) := by decide +kernel
theorem dL_law_17 : decode cL_law 17 = .ok (.istore_n 3, 1) := by decide +kernel
theorem dL_law_18 : decode cL_law 18 = .ok (.iload_n 3, 1) := by decide +kernel
theorem dL_law_19 : decode cL_law 19 = .ok (.aload_n 0, 1) := by decide +kernel
theorem dL_law_20 : decode cL_law 20 = .ok (.arraylength, 1) := by decide +kernel
theorem dL_law_21 : decode cL_law 21 = .ok (.bipush 6, 2) := by decide +kernel
theorem dL_law_23 : decode cL_law 23 = .ok (.isub, 1) := by decide +kernel
theorem dL_law_24 : decode cL_law 24 = .ok (.if_icmp .gt 1605, 3) := by decide +kernel
theorem dL_law_27 : decode cL_law 27 = .ok (.aload_n 0, 1) := by decide +kernel
theorem dL_law_28 : decode cL_law 28 = .ok (.iload_n 3, 1) := by decide +kernel
theorem dL_law_29 : decode cL_law 29 = .ok (.iaload, 1) := by decide +kernel
theorem dL_law_30 : decode cL_law 30 = .ok (.bipush 63, 2) := by decide +kernel
theorem dL_law_32 : decode cL_law 32 = .ok (.iand, 1) := by decide +kernel
theorem dL_law_33 : decode cL_law 33 = .ok (.tableswitch 1590 0 44 #[195, 228, 241, 254, 277, 300, 323, 356, 389, 432, 485, 528, 561, 614, 657, 700, 733, 766, 799, 832, 865, 908, 941, 954, 997, 1020, 1043, 1066, 1089, 1112, 1145, 1178, 1211, 1234, 1267, 1300, 1343, 1386, 1449, 1472, 1505, 1518, 1531, 1544, 1567], 195) := by decide +kernel
theorem dL_law_228 : decode cL_law 228 = .ok (.aload_n 1, 1) := by decide +kernel
theorem dL_law_229 : decode cL_law 229 = .ok (.aload_n 0, 1) := by decide +kernel
theorem dL_law_230 : decode cL_law 230 = .ok (.iload_n 3, 1) := by decide +kernel
theorem dL_law_231 : decode cL_law 231 = .ok (.iconst 1, 1) := by decide +kernel
theorem dL_law_232 : decode cL_law 232 = .ok (.iadd, 1) := by decide +kernel
theorem dL_law_233 : decode cL_law 233 = .ok (.iaload, 1) := by decide +kernel
theorem dL_law_234 : decode cL_law 234 = .ok (.aload_n 0, 1) := by decide +kernel
theorem dL_law_235 : decode cL_law 235 = .ok (.iload_n 3, 1) := by decide +kernel
theorem dL_law_236 : decode cL_law 236 = .ok (.iconst 2, 1) := by decide +kernel
theorem dL_law_237 : decode cL_law 237 = .ok (.iadd, 1) := by decide +kernel
theorem dL_law_238 : decode cL_law 238 = .ok (.iaload, 1) := by decide +kernel
theorem dL_law_239 : decode cL_law 239 = .ok (.invokevirtual 13, 3) := by decide +kernel
theorem dL_law_242 : decode cL_law 242 = .ok (.aload_n 2, 1) := by decide +kernel
theorem dL_law_243 : decode cL_law 243 = .ok (.aload_n 0, 1) := by decide +kernel
theorem dL_law_244 : decode cL_law 244 = .ok (.iload_n 3, 1) := by decide +kernel
theorem dL_law_245 : decode cL_law 245 = .ok (.iconst 1, 1) := by decide +kernel
theorem dL_law_246 : decode cL_law 246 = .ok (.iadd, 1) := by decide +kernel
theorem dL_law_247 : decode cL_law 247 = .ok (.iaload, 1) := by decide +kernel
theorem dL_law_248 : decode cL_law 248 = .ok (.aload_n 0, 1) := by decide +kernel
theorem dL_law_249 : decode cL_law 249 = .ok (.iload_n 3, 1) := by decide +kernel
theorem dL_law_250 : decode cL_law 250 = .ok (.iconst 2, 1) := by decide +kernel
theorem dL_law_251 : decode cL_law 251 = .ok (.iadd, 1) := by decide +kernel
theorem dL_law_252 : decode cL_law 252 = .ok (.iaload, 1) := by decide +kernel
theorem dL_law_253 : decode cL_law 253 = .ok (.invokevirtual 17, 3) := by decide +kernel
theorem dL_law_256 : decode cL_law 256 = .ok (.if_icmp .eq 1367, 3) := by decide +kernel
theorem dL_law_259 : decode cL_law 259 = .ok (.iconst 0, 1) := by decide +kernel
theorem dL_law_260 : decode cL_law 260 = .ok (.ireturn, 1) := by decide +kernel
theorem dL_law_261 : decode cL_law 261 = .ok (.aload_n 1, 1) := by decide +kernel
theorem dL_law_262 : decode cL_law 262 = .ok (.invokevirtual 18, 3) := by decide +kernel
theorem dL_law_265 : decode cL_law 265 = .ok (.aload_n 2, 1) := by decide +kernel
theorem dL_law_266 : decode cL_law 266 = .ok (.invokevirtual 22, 3) := by decide +kernel
theorem dL_law_269 : decode cL_law 269 = .ok (.if_icmp .eq 1354, 3) := by decide +kernel
theorem dL_law_272 : decode cL_law 272 = .ok (.iconst 0, 1) := by decide +kernel
theorem dL_law_273 : decode cL_law 273 = .ok (.ireturn, 1) := by decide +kernel
theorem dL_law_274 : decode cL_law 274 = .ok (.aload_n 1, 1) := by decide +kernel
theorem dL_law_275 : decode cL_law 275 = .ok (.invokevirtual 23, 3) := by decide +kernel
theorem dL_law_278 : decode cL_law 278 = .ok (.aload_n 2, 1) := by decide +kernel
theorem dL_law_279 : decode cL_law 279 = .ok (.invokevirtual 26, 3) := by decide +kernel
theorem dL_law_282 : decode cL_law 282 = .ok (.if_icmp .eq 1341, 3) := by decide +kernel
theorem dL_law_285 : decode cL_law 285 = .ok (.iconst 0, 1) := by decide +kernel
theorem dL_law_286 : decode cL_law 286 = .ok (.ireturn, 1) := by decide +kernel
theorem dL_law_287 : decode cL_law 287 = .ok (.aload_n 1, 1) := by decide +kernel
theorem dL_law_288 : decode cL_law 288 = .ok (.aload_n 0, 1) := by decide +kernel
theorem dL_law_289 : decode cL_law 289 = .ok (.iload_n 3, 1) := by decide +kernel
theorem dL_law_290 : decode cL_law 290 = .ok (.iconst 1, 1) := by decide +kernel
theorem dL_law_291 : decode cL_law 291 = .ok (.iadd, 1) := by decide +kernel
theorem dL_law_292 : decode cL_law 292 = .ok (.iaload, 1) := by decide +kernel
theorem dL_law_293 : decode cL_law 293 = .ok (.invokevirtual 27, 3) := by decide +kernel
theorem dL_law_296 : decode cL_law 296 = .ok (.aload_n 2, 1) := by decide +kernel
theorem dL_law_297 : decode cL_law 297 = .ok (.aload_n 0, 1) := by decide +kernel
theorem dL_law_298 : decode cL_law 298 = .ok (.iload_n 3, 1) := by decide +kernel
theorem dL_law_299 : decode cL_law 299 = .ok (.iconst 1, 1) := by decide +kernel
theorem dL_law_300 : decode cL_law 300 = .ok (.iadd, 1) := by decide +kernel
theorem dL_law_301 : decode cL_law 301 = .ok (.iaload, 1) := by decide +kernel
theorem dL_law_302 : decode cL_law 302 = .ok (.invokevirtual 31, 3) := by decide +kernel
theorem dL_law_305 : decode cL_law 305 = .ok (.if_icmp .eq 1318, 3) := by decide +kernel
theorem dL_law_308 : decode cL_law 308 = .ok (.iconst 0, 1) := by decide +kernel
theorem dL_law_309 : decode cL_law 309 = .ok (.ireturn, 1) := by decide +kernel
theorem dL_law_310 : decode cL_law 310 = .ok (.aload_n 1, 1) := by decide +kernel
theorem dL_law_311 : decode cL_law 311 = .ok (.aload_n 0, 1) := by decide +kernel
theorem dL_law_312 : decode cL_law 312 = .ok (.iload_n 3, 1) := by decide +kernel
theorem dL_law_313 : decode cL_law 313 = .ok (.iconst 1, 1) := by decide +kernel
theorem dL_law_314 : decode cL_law 314 = .ok (.iadd, 1) := by decide +kernel
theorem dL_law_315 : decode cL_law 315 = .ok (.iaload, 1) := by decide +kernel
theorem dL_law_316 : decode cL_law 316 = .ok (.invokevirtual 32, 3) := by decide +kernel
theorem dL_law_319 : decode cL_law 319 = .ok (.aload_n 2, 1) := by decide +kernel
theorem dL_law_320 : decode cL_law 320 = .ok (.aload_n 0, 1) := by decide +kernel
theorem dL_law_321 : decode cL_law 321 = .ok (.iload_n 3, 1) := by decide +kernel
theorem dL_law_322 : decode cL_law 322 = .ok (.iconst 1, 1) := by decide +kernel
theorem dL_law_323 : decode cL_law 323 = .ok (.iadd, 1) := by decide +kernel
theorem dL_law_324 : decode cL_law 324 = .ok (.iaload, 1) := by decide +kernel
theorem dL_law_325 : decode cL_law 325 = .ok (.invokevirtual 35, 3) := by decide +kernel
theorem dL_law_328 : decode cL_law 328 = .ok (.if_icmp .eq 1295, 3) := by decide +kernel
theorem dL_law_331 : decode cL_law 331 = .ok (.iconst 0, 1) := by decide +kernel
theorem dL_law_332 : decode cL_law 332 = .ok (.ireturn, 1) := by decide +kernel
theorem dL_law_333 : decode cL_law 333 = .ok (.aload_n 1, 1) := by decide +kernel
theorem dL_law_334 : decode cL_law 334 = .ok (.aload_n 0, 1) := by decide +kernel
theorem dL_law_335 : decode cL_law 335 = .ok (.iload_n 3, 1) := by decide +kernel
theorem dL_law_336 : decode cL_law 336 = .ok (.iconst 1, 1) := by decide +kernel
theorem dL_law_337 : decode cL_law 337 = .ok (.iadd, 1) := by decide +kernel
theorem dL_law_338 : decode cL_law 338 = .ok (.iaload, 1) := by decide +kernel
theorem dL_law_339 : decode cL_law 339 = .ok (.invokevirtual 36, 3) := by decide +kernel
theorem dL_law_342 : decode cL_law 342 = .ok (.aload_n 2, 1) := by decide +kernel
theorem dL_law_343 : decode cL_law 343 = .ok (.aload_n 0, 1) := by decide +kernel
theorem dL_law_344 : decode cL_law 344 = .ok (.iload_n 3, 1) := by decide +kernel
theorem dL_law_345 : decode cL_law 345 = .ok (.iconst 1, 1) := by decide +kernel
theorem dL_law_346 : decode cL_law 346 = .ok (.iadd, 1) := by decide +kernel
theorem dL_law_347 : decode cL_law 347 = .ok (.iaload, 1) := by decide +kernel
theorem dL_law_348 : decode cL_law 348 = .ok (.invokevirtual 39, 3) := by decide +kernel
theorem dL_law_351 : decode cL_law 351 = .ok (.if_icmp .eq 1272, 3) := by decide +kernel
theorem dL_law_354 : decode cL_law 354 = .ok (.iconst 0, 1) := by decide +kernel
theorem dL_law_355 : decode cL_law 355 = .ok (.ireturn, 1) := by decide +kernel
theorem dL_law_356 : decode cL_law 356 = .ok (.aload_n 1, 1) := by decide +kernel
theorem dL_law_357 : decode cL_law 357 = .ok (.aload_n 0, 1) := by decide +kernel
theorem dL_law_358 : decode cL_law 358 = .ok (.iload_n 3, 1) := by decide +kernel
theorem dL_law_359 : decode cL_law 359 = .ok (.iconst 1, 1) := by decide +kernel
theorem dL_law_360 : decode cL_law 360 = .ok (.iadd, 1) := by decide +kernel
theorem dL_law_361 : decode cL_law 361 = .ok (.iaload, 1) := by decide +kernel
theorem dL_law_362 : decode cL_law 362 = .ok (.aload_n 0, 1) := by decide +kernel
theorem dL_law_363 : decode cL_law 363 = .ok (.iload_n 3, 1) := by decide +kernel
theorem dL_law_364 : decode cL_law 364 = .ok (.iconst 2, 1) := by decide +kernel
theorem dL_law_365 : decode cL_law 365 = .ok (.iadd, 1) := by decide +kernel
theorem dL_law_366 : decode cL_law 366 = .ok (.iaload, 1) := by decide +kernel
theorem dL_law_367 : decode cL_law 367 = .ok (.invokevirtual 40, 3) := by decide +kernel
theorem dL_law_370 : decode cL_law 370 = .ok (.aload_n 2, 1) := by decide +kernel
theorem dL_law_371 : decode cL_law 371 = .ok (.aload_n 0, 1) := by decide +kernel
theorem dL_law_372 : decode cL_law 372 = .ok (.iload_n 3, 1) := by decide +kernel
theorem dL_law_373 : decode cL_law 373 = .ok (.iconst 1, 1) := by decide +kernel
theorem dL_law_374 : decode cL_law 374 = .ok (.iadd, 1) := by decide +kernel
theorem dL_law_375 : decode cL_law 375 = .ok (.iaload, 1) := by decide +kernel
theorem dL_law_376 : decode cL_law 376 = .ok (.aload_n 0, 1) := by decide +kernel
theorem dL_law_377 : decode cL_law 377 = .ok (.iload_n 3, 1) := by decide +kernel
theorem dL_law_378 : decode cL_law 378 = .ok (.iconst 2, 1) := by decide +kernel
theorem dL_law_379 : decode cL_law 379 = .ok (.iadd, 1) := by decide +kernel
theorem dL_law_380 : decode cL_law 380 = .ok (.iaload, 1) := by decide +kernel
theorem dL_law_381 : decode cL_law 381 = .ok (.invokevirtual 43, 3) := by decide +kernel
theorem dL_law_384 : decode cL_law 384 = .ok (.if_icmp .eq 1239, 3) := by decide +kernel
theorem dL_law_387 : decode cL_law 387 = .ok (.iconst 0, 1) := by decide +kernel
theorem dL_law_388 : decode cL_law 388 = .ok (.ireturn, 1) := by decide +kernel
theorem dL_law_389 : decode cL_law 389 = .ok (.aload_n 1, 1) := by decide +kernel
theorem dL_law_390 : decode cL_law 390 = .ok (.aload_n 0, 1) := by decide +kernel
theorem dL_law_391 : decode cL_law 391 = .ok (.iload_n 3, 1) := by decide +kernel
theorem dL_law_392 : decode cL_law 392 = .ok (.iconst 1, 1) := by decide +kernel
theorem dL_law_393 : decode cL_law 393 = .ok (.iadd, 1) := by decide +kernel
theorem dL_law_394 : decode cL_law 394 = .ok (.iaload, 1) := by decide +kernel
theorem dL_law_395 : decode cL_law 395 = .ok (.aload_n 0, 1) := by decide +kernel
theorem dL_law_396 : decode cL_law 396 = .ok (.iload_n 3, 1) := by decide +kernel
theorem dL_law_397 : decode cL_law 397 = .ok (.iconst 2, 1) := by decide +kernel
theorem dL_law_398 : decode cL_law 398 = .ok (.iadd, 1) := by decide +kernel
theorem dL_law_399 : decode cL_law 399 = .ok (.iaload, 1) := by decide +kernel
theorem dL_law_400 : decode cL_law 400 = .ok (.invokevirtual 44, 3) := by decide +kernel
theorem dL_law_403 : decode cL_law 403 = .ok (.aload_n 2, 1) := by decide +kernel
theorem dL_law_404 : decode cL_law 404 = .ok (.aload_n 0, 1) := by decide +kernel
theorem dL_law_405 : decode cL_law 405 = .ok (.iload_n 3, 1) := by decide +kernel
theorem dL_law_406 : decode cL_law 406 = .ok (.iconst 1, 1) := by decide +kernel
theorem dL_law_407 : decode cL_law 407 = .ok (.iadd, 1) := by decide +kernel
theorem dL_law_408 : decode cL_law 408 = .ok (.iaload, 1) := by decide +kernel
theorem dL_law_409 : decode cL_law 409 = .ok (.aload_n 0, 1) := by decide +kernel
theorem dL_law_410 : decode cL_law 410 = .ok (.iload_n 3, 1) := by decide +kernel
theorem dL_law_411 : decode cL_law 411 = .ok (.iconst 2, 1) := by decide +kernel
theorem dL_law_412 : decode cL_law 412 = .ok (.iadd, 1) := by decide +kernel
theorem dL_law_413 : decode cL_law 413 = .ok (.iaload, 1) := by decide +kernel
theorem dL_law_414 : decode cL_law 414 = .ok (.invokevirtual 47, 3) := by decide +kernel
theorem dL_law_417 : decode cL_law 417 = .ok (.if_icmp .eq 1206, 3) := by decide +kernel
theorem dL_law_420 : decode cL_law 420 = .ok (.iconst 0, 1) := by decide +kernel
theorem dL_law_421 : decode cL_law 421 = .ok (.ireturn, 1) := by decide +kernel
theorem dL_law_422 : decode cL_law 422 = .ok (.aload_n 1, 1) := by decide +kernel
theorem dL_law_423 : decode cL_law 423 = .ok (.aload_n 0, 1) := by decide +kernel
theorem dL_law_424 : decode cL_law 424 = .ok (.iload_n 3, 1) := by decide +kernel
theorem dL_law_425 : decode cL_law 425 = .ok (.iconst 1, 1) := by decide +kernel
theorem dL_law_426 : decode cL_law 426 = .ok (.iadd, 1) := by decide +kernel
theorem dL_law_427 : decode cL_law 427 = .ok (.iaload, 1) := by decide +kernel
theorem dL_law_428 : decode cL_law 428 = .ok (.aload_n 0, 1) := by decide +kernel
theorem dL_law_429 : decode cL_law 429 = .ok (.iload_n 3, 1) := by decide +kernel
theorem dL_law_430 : decode cL_law 430 = .ok (.iconst 2, 1) := by decide +kernel
theorem dL_law_431 : decode cL_law 431 = .ok (.iadd, 1) := by decide +kernel
theorem dL_law_432 : decode cL_law 432 = .ok (.iaload, 1) := by decide +kernel
theorem dL_law_433 : decode cL_law 433 = .ok (.aload_n 0, 1) := by decide +kernel
theorem dL_law_434 : decode cL_law 434 = .ok (.iload_n 3, 1) := by decide +kernel
theorem dL_law_435 : decode cL_law 435 = .ok (.iconst 3, 1) := by decide +kernel
theorem dL_law_436 : decode cL_law 436 = .ok (.iadd, 1) := by decide +kernel
theorem dL_law_437 : decode cL_law 437 = .ok (.iaload, 1) := by decide +kernel
theorem dL_law_438 : decode cL_law 438 = .ok (.invokevirtual 48, 3) := by decide +kernel
theorem dL_law_441 : decode cL_law 441 = .ok (.aload_n 2, 1) := by decide +kernel
theorem dL_law_442 : decode cL_law 442 = .ok (.aload_n 0, 1) := by decide +kernel
theorem dL_law_443 : decode cL_law 443 = .ok (.iload_n 3, 1) := by decide +kernel
theorem dL_law_444 : decode cL_law 444 = .ok (.iconst 1, 1) := by decide +kernel
theorem dL_law_445 : decode cL_law 445 = .ok (.iadd, 1) := by decide +kernel
theorem dL_law_446 : decode cL_law 446 = .ok (.iaload, 1) := by decide +kernel
theorem dL_law_447 : decode cL_law 447 = .ok (.aload_n 0, 1) := by decide +kernel
theorem dL_law_448 : decode cL_law 448 = .ok (.iload_n 3, 1) := by decide +kernel
theorem dL_law_449 : decode cL_law 449 = .ok (.iconst 2, 1) := by decide +kernel
theorem dL_law_450 : decode cL_law 450 = .ok (.iadd, 1) := by decide +kernel
theorem dL_law_451 : decode cL_law 451 = .ok (.iaload, 1) := by decide +kernel
theorem dL_law_452 : decode cL_law 452 = .ok (.aload_n 0, 1) := by decide +kernel
theorem dL_law_453 : decode cL_law 453 = .ok (.iload_n 3, 1) := by decide +kernel
theorem dL_law_454 : decode cL_law 454 = .ok (.iconst 3, 1) := by decide +kernel
theorem dL_law_455 : decode cL_law 455 = .ok (.iadd, 1) := by decide +kernel
theorem dL_law_456 : decode cL_law 456 = .ok (.iaload, 1) := by decide +kernel
theorem dL_law_457 : decode cL_law 457 = .ok (.invokevirtual 52, 3) := by decide +kernel
theorem dL_law_460 : decode cL_law 460 = .ok (.if_icmp .eq 1163, 3) := by decide +kernel
theorem dL_law_463 : decode cL_law 463 = .ok (.iconst 0, 1) := by decide +kernel
theorem dL_law_464 : decode cL_law 464 = .ok (.ireturn, 1) := by decide +kernel
theorem dL_law_465 : decode cL_law 465 = .ok (.aload_n 1, 1) := by decide +kernel
theorem dL_law_466 : decode cL_law 466 = .ok (.aload_n 0, 1) := by decide +kernel
theorem dL_law_467 : decode cL_law 467 = .ok (.iload_n 3, 1) := by decide +kernel
theorem dL_law_468 : decode cL_law 468 = .ok (.iconst 1, 1) := by decide +kernel
theorem dL_law_469 : decode cL_law 469 = .ok (.iadd, 1) := by decide +kernel
theorem dL_law_470 : decode cL_law 470 = .ok (.iaload, 1) := by decide +kernel
theorem dL_law_471 : decode cL_law 471 = .ok (.aload_n 0, 1) := by decide +kernel
theorem dL_law_472 : decode cL_law 472 = .ok (.iload_n 3, 1) := by decide +kernel
theorem dL_law_473 : decode cL_law 473 = .ok (.iconst 2, 1) := by decide +kernel
theorem dL_law_474 : decode cL_law 474 = .ok (.iadd, 1) := by decide +kernel
theorem dL_law_475 : decode cL_law 475 = .ok (.iaload, 1) := by decide +kernel
theorem dL_law_476 : decode cL_law 476 = .ok (.aload_n 0, 1) := by decide +kernel
theorem dL_law_477 : decode cL_law 477 = .ok (.iload_n 3, 1) := by decide +kernel
theorem dL_law_478 : decode cL_law 478 = .ok (.iconst 3, 1) := by decide +kernel
theorem dL_law_479 : decode cL_law 479 = .ok (.iadd, 1) := by decide +kernel
theorem dL_law_480 : decode cL_law 480 = .ok (.iaload, 1) := by decide +kernel
theorem dL_law_481 : decode cL_law 481 = .ok (.aload_n 0, 1) := by decide +kernel
theorem dL_law_482 : decode cL_law 482 = .ok (.iload_n 3, 1) := by decide +kernel
theorem dL_law_483 : decode cL_law 483 = .ok (.iconst 4, 1) := by decide +kernel
theorem dL_law_484 : decode cL_law 484 = .ok (.iadd, 1) := by decide +kernel
theorem dL_law_485 : decode cL_law 485 = .ok (.iaload, 1) := by decide +kernel
theorem dL_law_486 : decode cL_law 486 = .ok (.invokevirtual 53, 3) := by decide +kernel
theorem dL_law_489 : decode cL_law 489 = .ok (.aload_n 2, 1) := by decide +kernel
theorem dL_law_490 : decode cL_law 490 = .ok (.aload_n 0, 1) := by decide +kernel
theorem dL_law_491 : decode cL_law 491 = .ok (.iload_n 3, 1) := by decide +kernel
theorem dL_law_492 : decode cL_law 492 = .ok (.iconst 1, 1) := by decide +kernel
theorem dL_law_493 : decode cL_law 493 = .ok (.iadd, 1) := by decide +kernel
theorem dL_law_494 : decode cL_law 494 = .ok (.iaload, 1) := by decide +kernel
theorem dL_law_495 : decode cL_law 495 = .ok (.aload_n 0, 1) := by decide +kernel
theorem dL_law_496 : decode cL_law 496 = .ok (.iload_n 3, 1) := by decide +kernel
theorem dL_law_497 : decode cL_law 497 = .ok (.iconst 2, 1) := by decide +kernel
theorem dL_law_498 : decode cL_law 498 = .ok (.iadd, 1) := by decide +kernel
theorem dL_law_499 : decode cL_law 499 = .ok (.iaload, 1) := by decide +kernel
theorem dL_law_500 : decode cL_law 500 = .ok (.aload_n 0, 1) := by decide +kernel
theorem dL_law_501 : decode cL_law 501 = .ok (.iload_n 3, 1) := by decide +kernel
theorem dL_law_502 : decode cL_law 502 = .ok (.iconst 3, 1) := by decide +kernel
theorem dL_law_503 : decode cL_law 503 = .ok (.iadd, 1) := by decide +kernel
theorem dL_law_504 : decode cL_law 504 = .ok (.iaload, 1) := by decide +kernel
theorem dL_law_505 : decode cL_law 505 = .ok (.aload_n 0, 1) := by decide +kernel
theorem dL_law_506 : decode cL_law 506 = .ok (.iload_n 3, 1) := by decide +kernel
theorem dL_law_507 : decode cL_law 507 = .ok (.iconst 4, 1) := by decide +kernel
theorem dL_law_508 : decode cL_law 508 = .ok (.iadd, 1) := by decide +kernel
theorem dL_law_509 : decode cL_law 509 = .ok (.iaload, 1) := by decide +kernel
theorem dL_law_510 : decode cL_law 510 = .ok (.invokevirtual 57, 3) := by decide +kernel
theorem dL_law_513 : decode cL_law 513 = .ok (.if_icmp .eq 1110, 3) := by decide +kernel
theorem dL_law_516 : decode cL_law 516 = .ok (.iconst 0, 1) := by decide +kernel
theorem dL_law_517 : decode cL_law 517 = .ok (.ireturn, 1) := by decide +kernel
theorem dL_law_518 : decode cL_law 518 = .ok (.aload_n 1, 1) := by decide +kernel
theorem dL_law_519 : decode cL_law 519 = .ok (.aload_n 0, 1) := by decide +kernel
theorem dL_law_520 : decode cL_law 520 = .ok (.iload_n 3, 1) := by decide +kernel
theorem dL_law_521 : decode cL_law 521 = .ok (.iconst 1, 1) := by decide +kernel
theorem dL_law_522 : decode cL_law 522 = .ok (.iadd, 1) := by decide +kernel
theorem dL_law_523 : decode cL_law 523 = .ok (.iaload, 1) := by decide +kernel
theorem dL_law_524 : decode cL_law 524 = .ok (.aload_n 0, 1) := by decide +kernel
theorem dL_law_525 : decode cL_law 525 = .ok (.iload_n 3, 1) := by decide +kernel
theorem dL_law_526 : decode cL_law 526 = .ok (.iconst 2, 1) := by decide +kernel
theorem dL_law_527 : decode cL_law 527 = .ok (.iadd, 1) := by decide +kernel
theorem dL_law_528 : decode cL_law 528 = .ok (.iaload, 1) := by decide +kernel
theorem dL_law_529 : decode cL_law 529 = .ok (.aload_n 0, 1) := by decide +kernel
theorem dL_law_530 : decode cL_law 530 = .ok (.iload_n 3, 1) := by decide +kernel
theorem dL_law_531 : decode cL_law 531 = .ok (.iconst 3, 1) := by decide +kernel
theorem dL_law_532 : decode cL_law 532 = .ok (.iadd, 1) := by decide +kernel
theorem dL_law_533 : decode cL_law 533 = .ok (.iaload, 1) := by decide +kernel
theorem dL_law_534 : decode cL_law 534 = .ok (.invokevirtual 58, 3) := by decide +kernel
theorem dL_law_537 : decode cL_law 537 = .ok (.aload_n 2, 1) := by decide +kernel
theorem dL_law_538 : decode cL_law 538 = .ok (.aload_n 0, 1) := by decide +kernel
theorem dL_law_539 : decode cL_law 539 = .ok (.iload_n 3, 1) := by decide +kernel
theorem dL_law_540 : decode cL_law 540 = .ok (.iconst 1, 1) := by decide +kernel
theorem dL_law_541 : decode cL_law 541 = .ok (.iadd, 1) := by decide +kernel
theorem dL_law_542 : decode cL_law 542 = .ok (.iaload, 1) := by decide +kernel
theorem dL_law_543 : decode cL_law 543 = .ok (.aload_n 0, 1) := by decide +kernel
theorem dL_law_544 : decode cL_law 544 = .ok (.iload_n 3, 1) := by decide +kernel
theorem dL_law_545 : decode cL_law 545 = .ok (.iconst 2, 1) := by decide +kernel
theorem dL_law_546 : decode cL_law 546 = .ok (.iadd, 1) := by decide +kernel
theorem dL_law_547 : decode cL_law 547 = .ok (.iaload, 1) := by decide +kernel
theorem dL_law_548 : decode cL_law 548 = .ok (.aload_n 0, 1) := by decide +kernel
theorem dL_law_549 : decode cL_law 549 = .ok (.iload_n 3, 1) := by decide +kernel
theorem dL_law_550 : decode cL_law 550 = .ok (.iconst 3, 1) := by decide +kernel
theorem dL_law_551 : decode cL_law 551 = .ok (.iadd, 1) := by decide +kernel
theorem dL_law_552 : decode cL_law 552 = .ok (.iaload, 1) := by decide +kernel
theorem dL_law_553 : decode cL_law 553 = .ok (.invokevirtual 61, 3) := by decide +kernel
theorem dL_law_556 : decode cL_law 556 = .ok (.if_icmp .eq 1067, 3) := by decide +kernel
theorem dL_law_559 : decode cL_law 559 = .ok (.iconst 0, 1) := by decide +kernel
theorem dL_law_560 : decode cL_law 560 = .ok (.ireturn, 1) := by decide +kernel
theorem dL_law_561 : decode cL_law 561 = .ok (.aload_n 1, 1) := by decide +kernel
theorem dL_law_562 : decode cL_law 562 = .ok (.aload_n 0, 1) := by decide +kernel
theorem dL_law_563 : decode cL_law 563 = .ok (.iload_n 3, 1) := by decide +kernel
theorem dL_law_564 : decode cL_law 564 = .ok (.iconst 1, 1) := by decide +kernel
theorem dL_law_565 : decode cL_law 565 = .ok (.iadd, 1) := by decide +kernel
theorem dL_law_566 : decode cL_law 566 = .ok (.iaload, 1) := by decide +kernel
theorem dL_law_567 : decode cL_law 567 = .ok (.aload_n 0, 1) := by decide +kernel
theorem dL_law_568 : decode cL_law 568 = .ok (.iload_n 3, 1) := by decide +kernel
theorem dL_law_569 : decode cL_law 569 = .ok (.iconst 2, 1) := by decide +kernel
theorem dL_law_570 : decode cL_law 570 = .ok (.iadd, 1) := by decide +kernel
theorem dL_law_571 : decode cL_law 571 = .ok (.iaload, 1) := by decide +kernel
theorem dL_law_572 : decode cL_law 572 = .ok (.invokevirtual 62, 3) := by decide +kernel
theorem dL_law_575 : decode cL_law 575 = .ok (.aload_n 2, 1) := by decide +kernel
theorem dL_law_576 : decode cL_law 576 = .ok (.aload_n 0, 1) := by decide +kernel
theorem dL_law_577 : decode cL_law 577 = .ok (.iload_n 3, 1) := by decide +kernel
theorem dL_law_578 : decode cL_law 578 = .ok (.iconst 1, 1) := by decide +kernel
theorem dL_law_579 : decode cL_law 579 = .ok (.iadd, 1) := by decide +kernel
theorem dL_law_580 : decode cL_law 580 = .ok (.iaload, 1) := by decide +kernel
theorem dL_law_581 : decode cL_law 581 = .ok (.aload_n 0, 1) := by decide +kernel
theorem dL_law_582 : decode cL_law 582 = .ok (.iload_n 3, 1) := by decide +kernel
theorem dL_law_583 : decode cL_law 583 = .ok (.iconst 2, 1) := by decide +kernel
theorem dL_law_584 : decode cL_law 584 = .ok (.iadd, 1) := by decide +kernel
theorem dL_law_585 : decode cL_law 585 = .ok (.iaload, 1) := by decide +kernel
theorem dL_law_586 : decode cL_law 586 = .ok (.invokevirtual 65, 3) := by decide +kernel
theorem dL_law_589 : decode cL_law 589 = .ok (.if_icmp .eq 1034, 3) := by decide +kernel
theorem dL_law_592 : decode cL_law 592 = .ok (.iconst 0, 1) := by decide +kernel
theorem dL_law_593 : decode cL_law 593 = .ok (.ireturn, 1) := by decide +kernel
theorem dL_law_594 : decode cL_law 594 = .ok (.aload_n 1, 1) := by decide +kernel
theorem dL_law_595 : decode cL_law 595 = .ok (.aload_n 0, 1) := by decide +kernel
theorem dL_law_596 : decode cL_law 596 = .ok (.iload_n 3, 1) := by decide +kernel
theorem dL_law_597 : decode cL_law 597 = .ok (.iconst 1, 1) := by decide +kernel
theorem dL_law_598 : decode cL_law 598 = .ok (.iadd, 1) := by decide +kernel
theorem dL_law_599 : decode cL_law 599 = .ok (.iaload, 1) := by decide +kernel
theorem dL_law_600 : decode cL_law 600 = .ok (.aload_n 0, 1) := by decide +kernel
theorem dL_law_601 : decode cL_law 601 = .ok (.iload_n 3, 1) := by decide +kernel
theorem dL_law_602 : decode cL_law 602 = .ok (.iconst 2, 1) := by decide +kernel
theorem dL_law_603 : decode cL_law 603 = .ok (.iadd, 1) := by decide +kernel
theorem dL_law_604 : decode cL_law 604 = .ok (.iaload, 1) := by decide +kernel
theorem dL_law_605 : decode cL_law 605 = .ok (.aload_n 0, 1) := by decide +kernel
theorem dL_law_606 : decode cL_law 606 = .ok (.iload_n 3, 1) := by decide +kernel
theorem dL_law_607 : decode cL_law 607 = .ok (.iconst 3, 1) := by decide +kernel
theorem dL_law_608 : decode cL_law 608 = .ok (.iadd, 1) := by decide +kernel
theorem dL_law_609 : decode cL_law 609 = .ok (.iaload, 1) := by decide +kernel
theorem dL_law_610 : decode cL_law 610 = .ok (.aload_n 0, 1) := by decide +kernel
theorem dL_law_611 : decode cL_law 611 = .ok (.iload_n 3, 1) := by decide +kernel
theorem dL_law_612 : decode cL_law 612 = .ok (.iconst 4, 1) := by decide +kernel
theorem dL_law_613 : decode cL_law 613 = .ok (.iadd, 1) := by decide +kernel
theorem dL_law_614 : decode cL_law 614 = .ok (.iaload, 1) := by decide +kernel
theorem dL_law_615 : decode cL_law 615 = .ok (.invokevirtual 66, 3) := by decide +kernel
theorem dL_law_618 : decode cL_law 618 = .ok (.aload_n 2, 1) := by decide +kernel
theorem dL_law_619 : decode cL_law 619 = .ok (.aload_n 0, 1) := by decide +kernel
theorem dL_law_620 : decode cL_law 620 = .ok (.iload_n 3, 1) := by decide +kernel
theorem dL_law_621 : decode cL_law 621 = .ok (.iconst 1, 1) := by decide +kernel
theorem dL_law_622 : decode cL_law 622 = .ok (.iadd, 1) := by decide +kernel
theorem dL_law_623 : decode cL_law 623 = .ok (.iaload, 1) := by decide +kernel
theorem dL_law_624 : decode cL_law 624 = .ok (.aload_n 0, 1) := by decide +kernel
theorem dL_law_625 : decode cL_law 625 = .ok (.iload_n 3, 1) := by decide +kernel
theorem dL_law_626 : decode cL_law 626 = .ok (.iconst 2, 1) := by decide +kernel
theorem dL_law_627 : decode cL_law 627 = .ok (.iadd, 1) := by decide +kernel
theorem dL_law_628 : decode cL_law 628 = .ok (.iaload, 1) := by decide +kernel
theorem dL_law_629 : decode cL_law 629 = .ok (.aload_n 0, 1) := by decide +kernel
theorem dL_law_630 : decode cL_law 630 = .ok (.iload_n 3, 1) := by decide +kernel
theorem dL_law_631 : decode cL_law 631 = .ok (.iconst 3, 1) := by decide +kernel
theorem dL_law_632 : decode cL_law 632 = .ok (.iadd, 1) := by decide +kernel
theorem dL_law_633 : decode cL_law 633 = .ok (.iaload, 1) := by decide +kernel
theorem dL_law_634 : decode cL_law 634 = .ok (.aload_n 0, 1) := by decide +kernel
theorem dL_law_635 : decode cL_law 635 = .ok (.iload_n 3, 1) := by decide +kernel
theorem dL_law_636 : decode cL_law 636 = .ok (.iconst 4, 1) := by decide +kernel
theorem dL_law_637 : decode cL_law 637 = .ok (.iadd, 1) := by decide +kernel
theorem dL_law_638 : decode cL_law 638 = .ok (.iaload, 1) := by decide +kernel
theorem dL_law_639 : decode cL_law 639 = .ok (.invokevirtual 69, 3) := by decide +kernel
theorem dL_law_642 : decode cL_law 642 = .ok (.if_icmp .eq 981, 3) := by decide +kernel
theorem dL_law_645 : decode cL_law 645 = .ok (.iconst 0, 1) := by decide +kernel
theorem dL_law_646 : decode cL_law 646 = .ok (.ireturn, 1) := by decide +kernel
theorem dL_law_647 : decode cL_law 647 = .ok (.aload_n 1, 1) := by decide +kernel
theorem dL_law_648 : decode cL_law 648 = .ok (.aload_n 0, 1) := by decide +kernel
theorem dL_law_649 : decode cL_law 649 = .ok (.iload_n 3, 1) := by decide +kernel
theorem dL_law_650 : decode cL_law 650 = .ok (.iconst 1, 1) := by decide +kernel
theorem dL_law_651 : decode cL_law 651 = .ok (.iadd, 1) := by decide +kernel
theorem dL_law_652 : decode cL_law 652 = .ok (.iaload, 1) := by decide +kernel
theorem dL_law_653 : decode cL_law 653 = .ok (.aload_n 0, 1) := by decide +kernel
theorem dL_law_654 : decode cL_law 654 = .ok (.iload_n 3, 1) := by decide +kernel
theorem dL_law_655 : decode cL_law 655 = .ok (.iconst 2, 1) := by decide +kernel
theorem dL_law_656 : decode cL_law 656 = .ok (.iadd, 1) := by decide +kernel
theorem dL_law_657 : decode cL_law 657 = .ok (.iaload, 1) := by decide +kernel
theorem dL_law_658 : decode cL_law 658 = .ok (.aload_n 0, 1) := by decide +kernel
theorem dL_law_659 : decode cL_law 659 = .ok (.iload_n 3, 1) := by decide +kernel
theorem dL_law_660 : decode cL_law 660 = .ok (.iconst 3, 1) := by decide +kernel
theorem dL_law_661 : decode cL_law 661 = .ok (.iadd, 1) := by decide +kernel
theorem dL_law_662 : decode cL_law 662 = .ok (.iaload, 1) := by decide +kernel
theorem dL_law_663 : decode cL_law 663 = .ok (.invokevirtual 70, 3) := by decide +kernel
theorem dL_law_666 : decode cL_law 666 = .ok (.aload_n 2, 1) := by decide +kernel
theorem dL_law_667 : decode cL_law 667 = .ok (.aload_n 0, 1) := by decide +kernel
theorem dL_law_668 : decode cL_law 668 = .ok (.iload_n 3, 1) := by decide +kernel
theorem dL_law_669 : decode cL_law 669 = .ok (.iconst 1, 1) := by decide +kernel
theorem dL_law_670 : decode cL_law 670 = .ok (.iadd, 1) := by decide +kernel
theorem dL_law_671 : decode cL_law 671 = .ok (.iaload, 1) := by decide +kernel
theorem dL_law_672 : decode cL_law 672 = .ok (.aload_n 0, 1) := by decide +kernel
theorem dL_law_673 : decode cL_law 673 = .ok (.iload_n 3, 1) := by decide +kernel
theorem dL_law_674 : decode cL_law 674 = .ok (.iconst 2, 1) := by decide +kernel
theorem dL_law_675 : decode cL_law 675 = .ok (.iadd, 1) := by decide +kernel
theorem dL_law_676 : decode cL_law 676 = .ok (.iaload, 1) := by decide +kernel
theorem dL_law_677 : decode cL_law 677 = .ok (.aload_n 0, 1) := by decide +kernel
theorem dL_law_678 : decode cL_law 678 = .ok (.iload_n 3, 1) := by decide +kernel
theorem dL_law_679 : decode cL_law 679 = .ok (.iconst 3, 1) := by decide +kernel
theorem dL_law_680 : decode cL_law 680 = .ok (.iadd, 1) := by decide +kernel
theorem dL_law_681 : decode cL_law 681 = .ok (.iaload, 1) := by decide +kernel
theorem dL_law_682 : decode cL_law 682 = .ok (.invokevirtual 73, 3) := by decide +kernel
theorem dL_law_685 : decode cL_law 685 = .ok (.if_icmp .eq 938, 3) := by decide +kernel
theorem dL_law_688 : decode cL_law 688 = .ok (.iconst 0, 1) := by decide +kernel
theorem dL_law_689 : decode cL_law 689 = .ok (.ireturn, 1) := by decide +kernel
theorem dL_law_690 : decode cL_law 690 = .ok (.aload_n 1, 1) := by decide +kernel
theorem dL_law_691 : decode cL_law 691 = .ok (.aload_n 0, 1) := by decide +kernel
theorem dL_law_692 : decode cL_law 692 = .ok (.iload_n 3, 1) := by decide +kernel
theorem dL_law_693 : decode cL_law 693 = .ok (.iconst 1, 1) := by decide +kernel
theorem dL_law_694 : decode cL_law 694 = .ok (.iadd, 1) := by decide +kernel
theorem dL_law_695 : decode cL_law 695 = .ok (.iaload, 1) := by decide +kernel
theorem dL_law_696 : decode cL_law 696 = .ok (.aload_n 0, 1) := by decide +kernel
theorem dL_law_697 : decode cL_law 697 = .ok (.iload_n 3, 1) := by decide +kernel
theorem dL_law_698 : decode cL_law 698 = .ok (.iconst 2, 1) := by decide +kernel
theorem dL_law_699 : decode cL_law 699 = .ok (.iadd, 1) := by decide +kernel
theorem dL_law_700 : decode cL_law 700 = .ok (.iaload, 1) := by decide +kernel
theorem dL_law_701 : decode cL_law 701 = .ok (.aload_n 0, 1) := by decide +kernel
theorem dL_law_702 : decode cL_law 702 = .ok (.iload_n 3, 1) := by decide +kernel
theorem dL_law_703 : decode cL_law 703 = .ok (.iconst 3, 1) := by decide +kernel
theorem dL_law_704 : decode cL_law 704 = .ok (.iadd, 1) := by decide +kernel
theorem dL_law_705 : decode cL_law 705 = .ok (.iaload, 1) := by decide +kernel
theorem dL_law_706 : decode cL_law 706 = .ok (.invokevirtual 74, 3) := by decide +kernel
theorem dL_law_709 : decode cL_law 709 = .ok (.aload_n 2, 1) := by decide +kernel
theorem dL_law_710 : decode cL_law 710 = .ok (.aload_n 0, 1) := by decide +kernel
theorem dL_law_711 : decode cL_law 711 = .ok (.iload_n 3, 1) := by decide +kernel
theorem dL_law_712 : decode cL_law 712 = .ok (.iconst 1, 1) := by decide +kernel
theorem dL_law_713 : decode cL_law 713 = .ok (.iadd, 1) := by decide +kernel
theorem dL_law_714 : decode cL_law 714 = .ok (.iaload, 1) := by decide +kernel
theorem dL_law_715 : decode cL_law 715 = .ok (.aload_n 0, 1) := by decide +kernel
theorem dL_law_716 : decode cL_law 716 = .ok (.iload_n 3, 1) := by decide +kernel
theorem dL_law_717 : decode cL_law 717 = .ok (.iconst 2, 1) := by decide +kernel
theorem dL_law_718 : decode cL_law 718 = .ok (.iadd, 1) := by decide +kernel
theorem dL_law_719 : decode cL_law 719 = .ok (.iaload, 1) := by decide +kernel
theorem dL_law_720 : decode cL_law 720 = .ok (.aload_n 0, 1) := by decide +kernel
theorem dL_law_721 : decode cL_law 721 = .ok (.iload_n 3, 1) := by decide +kernel
theorem dL_law_722 : decode cL_law 722 = .ok (.iconst 3, 1) := by decide +kernel
theorem dL_law_723 : decode cL_law 723 = .ok (.iadd, 1) := by decide +kernel
theorem dL_law_724 : decode cL_law 724 = .ok (.iaload, 1) := by decide +kernel
theorem dL_law_725 : decode cL_law 725 = .ok (.invokevirtual 77, 3) := by decide +kernel
theorem dL_law_728 : decode cL_law 728 = .ok (.if_icmp .eq 895, 3) := by decide +kernel
theorem dL_law_731 : decode cL_law 731 = .ok (.iconst 0, 1) := by decide +kernel
theorem dL_law_732 : decode cL_law 732 = .ok (.ireturn, 1) := by decide +kernel
theorem dL_law_733 : decode cL_law 733 = .ok (.aload_n 1, 1) := by decide +kernel
theorem dL_law_734 : decode cL_law 734 = .ok (.aload_n 0, 1) := by decide +kernel
theorem dL_law_735 : decode cL_law 735 = .ok (.iload_n 3, 1) := by decide +kernel
theorem dL_law_736 : decode cL_law 736 = .ok (.iconst 1, 1) := by decide +kernel
theorem dL_law_737 : decode cL_law 737 = .ok (.iadd, 1) := by decide +kernel
theorem dL_law_738 : decode cL_law 738 = .ok (.iaload, 1) := by decide +kernel
theorem dL_law_739 : decode cL_law 739 = .ok (.aload_n 0, 1) := by decide +kernel
theorem dL_law_740 : decode cL_law 740 = .ok (.iload_n 3, 1) := by decide +kernel
theorem dL_law_741 : decode cL_law 741 = .ok (.iconst 2, 1) := by decide +kernel
theorem dL_law_742 : decode cL_law 742 = .ok (.iadd, 1) := by decide +kernel
theorem dL_law_743 : decode cL_law 743 = .ok (.iaload, 1) := by decide +kernel
theorem dL_law_744 : decode cL_law 744 = .ok (.invokevirtual 78, 3) := by decide +kernel
theorem dL_law_747 : decode cL_law 747 = .ok (.aload_n 2, 1) := by decide +kernel
theorem dL_law_748 : decode cL_law 748 = .ok (.aload_n 0, 1) := by decide +kernel
theorem dL_law_749 : decode cL_law 749 = .ok (.iload_n 3, 1) := by decide +kernel
theorem dL_law_750 : decode cL_law 750 = .ok (.iconst 1, 1) := by decide +kernel
theorem dL_law_751 : decode cL_law 751 = .ok (.iadd, 1) := by decide +kernel
theorem dL_law_752 : decode cL_law 752 = .ok (.iaload, 1) := by decide +kernel
theorem dL_law_753 : decode cL_law 753 = .ok (.aload_n 0, 1) := by decide +kernel
theorem dL_law_754 : decode cL_law 754 = .ok (.iload_n 3, 1) := by decide +kernel
theorem dL_law_755 : decode cL_law 755 = .ok (.iconst 2, 1) := by decide +kernel
theorem dL_law_756 : decode cL_law 756 = .ok (.iadd, 1) := by decide +kernel
theorem dL_law_757 : decode cL_law 757 = .ok (.iaload, 1) := by decide +kernel
theorem dL_law_758 : decode cL_law 758 = .ok (.invokevirtual 81, 3) := by decide +kernel
theorem dL_law_761 : decode cL_law 761 = .ok (.if_icmp .eq 862, 3) := by decide +kernel
theorem dL_law_764 : decode cL_law 764 = .ok (.iconst 0, 1) := by decide +kernel
theorem dL_law_765 : decode cL_law 765 = .ok (.ireturn, 1) := by decide +kernel
theorem dL_law_766 : decode cL_law 766 = .ok (.aload_n 1, 1) := by decide +kernel
theorem dL_law_767 : decode cL_law 767 = .ok (.aload_n 0, 1) := by decide +kernel
theorem dL_law_768 : decode cL_law 768 = .ok (.iload_n 3, 1) := by decide +kernel
theorem dL_law_769 : decode cL_law 769 = .ok (.iconst 1, 1) := by decide +kernel
theorem dL_law_770 : decode cL_law 770 = .ok (.iadd, 1) := by decide +kernel
theorem dL_law_771 : decode cL_law 771 = .ok (.iaload, 1) := by decide +kernel
theorem dL_law_772 : decode cL_law 772 = .ok (.aload_n 0, 1) := by decide +kernel
theorem dL_law_773 : decode cL_law 773 = .ok (.iload_n 3, 1) := by decide +kernel
theorem dL_law_774 : decode cL_law 774 = .ok (.iconst 2, 1) := by decide +kernel
theorem dL_law_775 : decode cL_law 775 = .ok (.iadd, 1) := by decide +kernel
theorem dL_law_776 : decode cL_law 776 = .ok (.iaload, 1) := by decide +kernel
theorem dL_law_777 : decode cL_law 777 = .ok (.invokevirtual 82, 3) := by decide +kernel
theorem dL_law_780 : decode cL_law 780 = .ok (.aload_n 2, 1) := by decide +kernel
theorem dL_law_781 : decode cL_law 781 = .ok (.aload_n 0, 1) := by decide +kernel
theorem dL_law_782 : decode cL_law 782 = .ok (.iload_n 3, 1) := by decide +kernel
theorem dL_law_783 : decode cL_law 783 = .ok (.iconst 1, 1) := by decide +kernel
theorem dL_law_784 : decode cL_law 784 = .ok (.iadd, 1) := by decide +kernel
theorem dL_law_785 : decode cL_law 785 = .ok (.iaload, 1) := by decide +kernel
theorem dL_law_786 : decode cL_law 786 = .ok (.aload_n 0, 1) := by decide +kernel
theorem dL_law_787 : decode cL_law 787 = .ok (.iload_n 3, 1) := by decide +kernel
theorem dL_law_788 : decode cL_law 788 = .ok (.iconst 2, 1) := by decide +kernel
theorem dL_law_789 : decode cL_law 789 = .ok (.iadd, 1) := by decide +kernel
theorem dL_law_790 : decode cL_law 790 = .ok (.iaload, 1) := by decide +kernel
theorem dL_law_791 : decode cL_law 791 = .ok (.invokevirtual 85, 3) := by decide +kernel
theorem dL_law_794 : decode cL_law 794 = .ok (.if_icmp .eq 829, 3) := by decide +kernel
theorem dL_law_797 : decode cL_law 797 = .ok (.iconst 0, 1) := by decide +kernel
theorem dL_law_798 : decode cL_law 798 = .ok (.ireturn, 1) := by decide +kernel
theorem dL_law_799 : decode cL_law 799 = .ok (.aload_n 1, 1) := by decide +kernel
theorem dL_law_800 : decode cL_law 800 = .ok (.aload_n 0, 1) := by decide +kernel
theorem dL_law_801 : decode cL_law 801 = .ok (.iload_n 3, 1) := by decide +kernel
theorem dL_law_802 : decode cL_law 802 = .ok (.iconst 1, 1) := by decide +kernel
theorem dL_law_803 : decode cL_law 803 = .ok (.iadd, 1) := by decide +kernel
theorem dL_law_804 : decode cL_law 804 = .ok (.iaload, 1) := by decide +kernel
theorem dL_law_805 : decode cL_law 805 = .ok (.aload_n 0, 1) := by decide +kernel
theorem dL_law_806 : decode cL_law 806 = .ok (.iload_n 3, 1) := by decide +kernel
theorem dL_law_807 : decode cL_law 807 = .ok (.iconst 2, 1) := by decide +kernel
theorem dL_law_808 : decode cL_law 808 = .ok (.iadd, 1) := by decide +kernel
theorem dL_law_809 : decode cL_law 809 = .ok (.iaload, 1) := by decide +kernel
theorem dL_law_810 : decode cL_law 810 = .ok (.invokevirtual 86, 3) := by decide +kernel
theorem dL_law_813 : decode cL_law 813 = .ok (.aload_n 2, 1) := by decide +kernel
theorem dL_law_814 : decode cL_law 814 = .ok (.aload_n 0, 1) := by decide +kernel
theorem dL_law_815 : decode cL_law 815 = .ok (.iload_n 3, 1) := by decide +kernel
theorem dL_law_816 : decode cL_law 816 = .ok (.iconst 1, 1) := by decide +kernel
theorem dL_law_817 : decode cL_law 817 = .ok (.iadd, 1) := by decide +kernel
theorem dL_law_818 : decode cL_law 818 = .ok (.iaload, 1) := by decide +kernel
theorem dL_law_819 : decode cL_law 819 = .ok (.aload_n 0, 1) := by decide +kernel
theorem dL_law_820 : decode cL_law 820 = .ok (.iload_n 3, 1) := by decide +kernel
theorem dL_law_821 : decode cL_law 821 = .ok (.iconst 2, 1) := by decide +kernel
theorem dL_law_822 : decode cL_law 822 = .ok (.iadd, 1) := by decide +kernel
theorem dL_law_823 : decode cL_law 823 = .ok (.iaload, 1) := by decide +kernel
theorem dL_law_824 : decode cL_law 824 = .ok (.invokevirtual 89, 3) := by decide +kernel
theorem dL_law_827 : decode cL_law 827 = .ok (.if_icmp .eq 796, 3) := by decide +kernel
theorem dL_law_830 : decode cL_law 830 = .ok (.iconst 0, 1) := by decide +kernel
theorem dL_law_831 : decode cL_law 831 = .ok (.ireturn, 1) := by decide +kernel
theorem dL_law_832 : decode cL_law 832 = .ok (.aload_n 1, 1) := by decide +kernel
theorem dL_law_833 : decode cL_law 833 = .ok (.aload_n 0, 1) := by decide +kernel
theorem dL_law_834 : decode cL_law 834 = .ok (.iload_n 3, 1) := by decide +kernel
theorem dL_law_835 : decode cL_law 835 = .ok (.iconst 1, 1) := by decide +kernel
theorem dL_law_836 : decode cL_law 836 = .ok (.iadd, 1) := by decide +kernel
theorem dL_law_837 : decode cL_law 837 = .ok (.iaload, 1) := by decide +kernel
theorem dL_law_838 : decode cL_law 838 = .ok (.aload_n 0, 1) := by decide +kernel
theorem dL_law_839 : decode cL_law 839 = .ok (.iload_n 3, 1) := by decide +kernel
theorem dL_law_840 : decode cL_law 840 = .ok (.iconst 2, 1) := by decide +kernel
theorem dL_law_841 : decode cL_law 841 = .ok (.iadd, 1) := by decide +kernel
theorem dL_law_842 : decode cL_law 842 = .ok (.iaload, 1) := by decide +kernel
theorem dL_law_843 : decode cL_law 843 = .ok (.invokevirtual 90, 3) := by decide +kernel
theorem dL_law_846 : decode cL_law 846 = .ok (.aload_n 2, 1) := by decide +kernel
theorem dL_law_847 : decode cL_law 847 = .ok (.aload_n 0, 1) := by decide +kernel
theorem dL_law_848 : decode cL_law 848 = .ok (.iload_n 3, 1) := by decide +kernel
theorem dL_law_849 : decode cL_law 849 = .ok (.iconst 1, 1) := by decide +kernel
theorem dL_law_850 : decode cL_law 850 = .ok (.iadd, 1) := by decide +kernel
theorem dL_law_851 : decode cL_law 851 = .ok (.iaload, 1) := by decide +kernel
theorem dL_law_852 : decode cL_law 852 = .ok (.aload_n 0, 1) := by decide +kernel
theorem dL_law_853 : decode cL_law 853 = .ok (.iload_n 3, 1) := by decide +kernel
theorem dL_law_854 : decode cL_law 854 = .ok (.iconst 2, 1) := by decide +kernel
theorem dL_law_855 : decode cL_law 855 = .ok (.iadd, 1) := by decide +kernel
theorem dL_law_856 : decode cL_law 856 = .ok (.iaload, 1) := by decide +kernel
theorem dL_law_857 : decode cL_law 857 = .ok (.invokevirtual 93, 3) := by decide +kernel
theorem dL_law_860 : decode cL_law 860 = .ok (.if_icmp .eq 763, 3) := by decide +kernel
theorem dL_law_863 : decode cL_law 863 = .ok (.iconst 0, 1) := by decide +kernel
theorem dL_law_864 : decode cL_law 864 = .ok (.ireturn, 1) := by decide +kernel
theorem dL_law_865 : decode cL_law 865 = .ok (.aload_n 1, 1) := by decide +kernel
theorem dL_law_866 : decode cL_law 866 = .ok (.aload_n 0, 1) := by decide +kernel
theorem dL_law_867 : decode cL_law 867 = .ok (.iload_n 3, 1) := by decide +kernel
theorem dL_law_868 : decode cL_law 868 = .ok (.iconst 1, 1) := by decide +kernel
theorem dL_law_869 : decode cL_law 869 = .ok (.iadd, 1) := by decide +kernel
theorem dL_law_870 : decode cL_law 870 = .ok (.iaload, 1) := by decide +kernel
theorem dL_law_871 : decode cL_law 871 = .ok (.aload_n 0, 1) := by decide +kernel
theorem dL_law_872 : decode cL_law 872 = .ok (.iload_n 3, 1) := by decide +kernel
theorem dL_law_873 : decode cL_law 873 = .ok (.iconst 2, 1) := by decide +kernel
theorem dL_law_874 : decode cL_law 874 = .ok (.iadd, 1) := by decide +kernel
theorem dL_law_875 : decode cL_law 875 = .ok (.iaload, 1) := by decide +kernel
theorem dL_law_876 : decode cL_law 876 = .ok (.invokevirtual 94, 3) := by decide +kernel
theorem dL_law_879 : decode cL_law 879 = .ok (.aload_n 2, 1) := by decide +kernel
theorem dL_law_880 : decode cL_law 880 = .ok (.aload_n 0, 1) := by decide +kernel
theorem dL_law_881 : decode cL_law 881 = .ok (.iload_n 3, 1) := by decide +kernel
theorem dL_law_882 : decode cL_law 882 = .ok (.iconst 1, 1) := by decide +kernel
theorem dL_law_883 : decode cL_law 883 = .ok (.iadd, 1) := by decide +kernel
theorem dL_law_884 : decode cL_law 884 = .ok (.iaload, 1) := by decide +kernel
theorem dL_law_885 : decode cL_law 885 = .ok (.aload_n 0, 1) := by decide +kernel
theorem dL_law_886 : decode cL_law 886 = .ok (.iload_n 3, 1) := by decide +kernel
theorem dL_law_887 : decode cL_law 887 = .ok (.iconst 2, 1) := by decide +kernel
theorem dL_law_888 : decode cL_law 888 = .ok (.iadd, 1) := by decide +kernel
theorem dL_law_889 : decode cL_law 889 = .ok (.iaload, 1) := by decide +kernel
theorem dL_law_890 : decode cL_law 890 = .ok (.invokevirtual 97, 3) := by decide +kernel
theorem dL_law_893 : decode cL_law 893 = .ok (.if_icmp .eq 730, 3) := by decide +kernel
theorem dL_law_896 : decode cL_law 896 = .ok (.iconst 0, 1) := by decide +kernel
theorem dL_law_897 : decode cL_law 897 = .ok (.ireturn, 1) := by decide +kernel
theorem dL_law_898 : decode cL_law 898 = .ok (.aload_n 1, 1) := by decide +kernel
theorem dL_law_899 : decode cL_law 899 = .ok (.aload_n 0, 1) := by decide +kernel
theorem dL_law_900 : decode cL_law 900 = .ok (.iload_n 3, 1) := by decide +kernel
theorem dL_law_901 : decode cL_law 901 = .ok (.iconst 1, 1) := by decide +kernel
theorem dL_law_902 : decode cL_law 902 = .ok (.iadd, 1) := by decide +kernel
theorem dL_law_903 : decode cL_law 903 = .ok (.iaload, 1) := by decide +kernel
theorem dL_law_904 : decode cL_law 904 = .ok (.aload_n 0, 1) := by decide +kernel
theorem dL_law_905 : decode cL_law 905 = .ok (.iload_n 3, 1) := by decide +kernel
theorem dL_law_906 : decode cL_law 906 = .ok (.iconst 2, 1) := by decide +kernel
theorem dL_law_907 : decode cL_law 907 = .ok (.iadd, 1) := by decide +kernel
theorem dL_law_908 : decode cL_law 908 = .ok (.iaload, 1) := by decide +kernel
theorem dL_law_909 : decode cL_law 909 = .ok (.aload_n 0, 1) := by decide +kernel
theorem dL_law_910 : decode cL_law 910 = .ok (.iload_n 3, 1) := by decide +kernel
theorem dL_law_911 : decode cL_law 911 = .ok (.iconst 3, 1) := by decide +kernel
theorem dL_law_912 : decode cL_law 912 = .ok (.iadd, 1) := by decide +kernel
theorem dL_law_913 : decode cL_law 913 = .ok (.iaload, 1) := by decide +kernel
theorem dL_law_914 : decode cL_law 914 = .ok (.invokevirtual 98, 3) := by decide +kernel
theorem dL_law_917 : decode cL_law 917 = .ok (.aload_n 2, 1) := by decide +kernel
theorem dL_law_918 : decode cL_law 918 = .ok (.aload_n 0, 1) := by decide +kernel
theorem dL_law_919 : decode cL_law 919 = .ok (.iload_n 3, 1) := by decide +kernel
theorem dL_law_920 : decode cL_law 920 = .ok (.iconst 1, 1) := by decide +kernel
theorem dL_law_921 : decode cL_law 921 = .ok (.iadd, 1) := by decide +kernel
theorem dL_law_922 : decode cL_law 922 = .ok (.iaload, 1) := by decide +kernel
theorem dL_law_923 : decode cL_law 923 = .ok (.aload_n 0, 1) := by decide +kernel
theorem dL_law_924 : decode cL_law 924 = .ok (.iload_n 3, 1) := by decide +kernel
theorem dL_law_925 : decode cL_law 925 = .ok (.iconst 2, 1) := by decide +kernel
theorem dL_law_926 : decode cL_law 926 = .ok (.iadd, 1) := by decide +kernel
theorem dL_law_927 : decode cL_law 927 = .ok (.iaload, 1) := by decide +kernel
theorem dL_law_928 : decode cL_law 928 = .ok (.aload_n 0, 1) := by decide +kernel
theorem dL_law_929 : decode cL_law 929 = .ok (.iload_n 3, 1) := by decide +kernel
theorem dL_law_930 : decode cL_law 930 = .ok (.iconst 3, 1) := by decide +kernel
theorem dL_law_931 : decode cL_law 931 = .ok (.iadd, 1) := by decide +kernel
theorem dL_law_932 : decode cL_law 932 = .ok (.iaload, 1) := by decide +kernel
theorem dL_law_933 : decode cL_law 933 = .ok (.invokevirtual 101, 3) := by decide +kernel
theorem dL_law_936 : decode cL_law 936 = .ok (.if_icmp .eq 687, 3) := by decide +kernel
theorem dL_law_939 : decode cL_law 939 = .ok (.iconst 0, 1) := by decide +kernel
theorem dL_law_940 : decode cL_law 940 = .ok (.ireturn, 1) := by decide +kernel
theorem dL_law_941 : decode cL_law 941 = .ok (.aload_n 1, 1) := by decide +kernel
theorem dL_law_942 : decode cL_law 942 = .ok (.aload_n 0, 1) := by decide +kernel
theorem dL_law_943 : decode cL_law 943 = .ok (.iload_n 3, 1) := by decide +kernel
theorem dL_law_944 : decode cL_law 944 = .ok (.iconst 1, 1) := by decide +kernel
theorem dL_law_945 : decode cL_law 945 = .ok (.iadd, 1) := by decide +kernel
theorem dL_law_946 : decode cL_law 946 = .ok (.iaload, 1) := by decide +kernel
theorem dL_law_947 : decode cL_law 947 = .ok (.aload_n 0, 1) := by decide +kernel
theorem dL_law_948 : decode cL_law 948 = .ok (.iload_n 3, 1) := by decide +kernel
theorem dL_law_949 : decode cL_law 949 = .ok (.iconst 2, 1) := by decide +kernel
theorem dL_law_950 : decode cL_law 950 = .ok (.iadd, 1) := by decide +kernel
theorem dL_law_951 : decode cL_law 951 = .ok (.iaload, 1) := by decide +kernel
theorem dL_law_952 : decode cL_law 952 = .ok (.invokevirtual 102, 3) := by decide +kernel
theorem dL_law_955 : decode cL_law 955 = .ok (.aload_n 2, 1) := by decide +kernel
theorem dL_law_956 : decode cL_law 956 = .ok (.aload_n 0, 1) := by decide +kernel
theorem dL_law_957 : decode cL_law 957 = .ok (.iload_n 3, 1) := by decide +kernel
theorem dL_law_958 : decode cL_law 958 = .ok (.iconst 1, 1) := by decide +kernel
theorem dL_law_959 : decode cL_law 959 = .ok (.iadd, 1) := by decide +kernel
theorem dL_law_960 : decode cL_law 960 = .ok (.iaload, 1) := by decide +kernel
theorem dL_law_961 : decode cL_law 961 = .ok (.aload_n 0, 1) := by decide +kernel
theorem dL_law_962 : decode cL_law 962 = .ok (.iload_n 3, 1) := by decide +kernel
theorem dL_law_963 : decode cL_law 963 = .ok (.iconst 2, 1) := by decide +kernel
theorem dL_law_964 : decode cL_law 964 = .ok (.iadd, 1) := by decide +kernel
theorem dL_law_965 : decode cL_law 965 = .ok (.iaload, 1) := by decide +kernel
theorem dL_law_966 : decode cL_law 966 = .ok (.invokevirtual 105, 3) := by decide +kernel
theorem dL_law_969 : decode cL_law 969 = .ok (.if_icmp .eq 654, 3) := by decide +kernel
theorem dL_law_972 : decode cL_law 972 = .ok (.iconst 0, 1) := by decide +kernel
theorem dL_law_973 : decode cL_law 973 = .ok (.ireturn, 1) := by decide +kernel
theorem dL_law_974 : decode cL_law 974 = .ok (.aload_n 1, 1) := by decide +kernel
theorem dL_law_975 : decode cL_law 975 = .ok (.invokevirtual 106, 3) := by decide +kernel
theorem dL_law_978 : decode cL_law 978 = .ok (.aload_n 2, 1) := by decide +kernel
theorem dL_law_979 : decode cL_law 979 = .ok (.invokevirtual 109, 3) := by decide +kernel
theorem dL_law_982 : decode cL_law 982 = .ok (.if_icmp .eq 641, 3) := by decide +kernel
theorem dL_law_985 : decode cL_law 985 = .ok (.iconst 0, 1) := by decide +kernel
theorem dL_law_986 : decode cL_law 986 = .ok (.ireturn, 1) := by decide +kernel
theorem dL_law_987 : decode cL_law 987 = .ok (.aload_n 1, 1) := by decide +kernel
theorem dL_law_988 : decode cL_law 988 = .ok (.aload_n 0, 1) := by decide +kernel
theorem dL_law_989 : decode cL_law 989 = .ok (.iload_n 3, 1) := by decide +kernel
theorem dL_law_990 : decode cL_law 990 = .ok (.iconst 1, 1) := by decide +kernel
theorem dL_law_991 : decode cL_law 991 = .ok (.iadd, 1) := by decide +kernel
theorem dL_law_992 : decode cL_law 992 = .ok (.iaload, 1) := by decide +kernel
theorem dL_law_993 : decode cL_law 993 = .ok (.aload_n 0, 1) := by decide +kernel
theorem dL_law_994 : decode cL_law 994 = .ok (.iload_n 3, 1) := by decide +kernel
theorem dL_law_995 : decode cL_law 995 = .ok (.iconst 2, 1) := by decide +kernel
theorem dL_law_996 : decode cL_law 996 = .ok (.iadd, 1) := by decide +kernel
theorem dL_law_997 : decode cL_law 997 = .ok (.iaload, 1) := by decide +kernel
theorem dL_law_998 : decode cL_law 998 = .ok (.aload_n 0, 1) := by decide +kernel
theorem dL_law_999 : decode cL_law 999 = .ok (.iload_n 3, 1) := by decide +kernel
theorem dL_law_1000 : decode cL_law 1000 = .ok (.iconst 3, 1) := by decide +kernel
theorem dL_law_1001 : decode cL_law 1001 = .ok (.iadd, 1) := by decide +kernel
theorem dL_law_1002 : decode cL_law 1002 = .ok (.iaload, 1) := by decide +kernel
theorem dL_law_1003 : decode cL_law 1003 = .ok (.invokevirtual 110, 3) := by decide +kernel
theorem dL_law_1006 : decode cL_law 1006 = .ok (.aload_n 2, 1) := by decide +kernel
theorem dL_law_1007 : decode cL_law 1007 = .ok (.aload_n 0, 1) := by decide +kernel
theorem dL_law_1008 : decode cL_law 1008 = .ok (.iload_n 3, 1) := by decide +kernel
theorem dL_law_1009 : decode cL_law 1009 = .ok (.iconst 1, 1) := by decide +kernel
theorem dL_law_1010 : decode cL_law 1010 = .ok (.iadd, 1) := by decide +kernel
theorem dL_law_1011 : decode cL_law 1011 = .ok (.iaload, 1) := by decide +kernel
theorem dL_law_1012 : decode cL_law 1012 = .ok (.aload_n 0, 1) := by decide +kernel
theorem dL_law_1013 : decode cL_law 1013 = .ok (.iload_n 3, 1) := by decide +kernel
theorem dL_law_1014 : decode cL_law 1014 = .ok (.iconst 2, 1) := by decide +kernel
theorem dL_law_1015 : decode cL_law 1015 = .ok (.iadd, 1) := by decide +kernel
theorem dL_law_1016 : decode cL_law 1016 = .ok (.iaload, 1) := by decide +kernel
theorem dL_law_1017 : decode cL_law 1017 = .ok (.aload_n 0, 1) := by decide +kernel
theorem dL_law_1018 : decode cL_law 1018 = .ok (.iload_n 3, 1) := by decide +kernel
theorem dL_law_1019 : decode cL_law 1019 = .ok (.iconst 3, 1) := by decide +kernel
theorem dL_law_1020 : decode cL_law 1020 = .ok (.iadd, 1) := by decide +kernel
theorem dL_law_1021 : decode cL_law 1021 = .ok (.iaload, 1) := by decide +kernel
theorem dL_law_1022 : decode cL_law 1022 = .ok (.invokevirtual 113, 3) := by decide +kernel
theorem dL_law_1025 : decode cL_law 1025 = .ok (.if_icmp .eq 598, 3) := by decide +kernel
theorem dL_law_1028 : decode cL_law 1028 = .ok (.iconst 0, 1) := by decide +kernel
theorem dL_law_1029 : decode cL_law 1029 = .ok (.ireturn, 1) := by decide +kernel
theorem dL_law_1030 : decode cL_law 1030 = .ok (.aload_n 1, 1) := by decide +kernel
theorem dL_law_1031 : decode cL_law 1031 = .ok (.aload_n 0, 1) := by decide +kernel
theorem dL_law_1032 : decode cL_law 1032 = .ok (.iload_n 3, 1) := by decide +kernel
theorem dL_law_1033 : decode cL_law 1033 = .ok (.iconst 1, 1) := by decide +kernel
theorem dL_law_1034 : decode cL_law 1034 = .ok (.iadd, 1) := by decide +kernel
theorem dL_law_1035 : decode cL_law 1035 = .ok (.iaload, 1) := by decide +kernel
theorem dL_law_1036 : decode cL_law 1036 = .ok (.invokevirtual 114, 3) := by decide +kernel
theorem dL_law_1039 : decode cL_law 1039 = .ok (.aload_n 2, 1) := by decide +kernel
theorem dL_law_1040 : decode cL_law 1040 = .ok (.aload_n 0, 1) := by decide +kernel
theorem dL_law_1041 : decode cL_law 1041 = .ok (.iload_n 3, 1) := by decide +kernel
theorem dL_law_1042 : decode cL_law 1042 = .ok (.iconst 1, 1) := by decide +kernel
theorem dL_law_1043 : decode cL_law 1043 = .ok (.iadd, 1) := by decide +kernel
theorem dL_law_1044 : decode cL_law 1044 = .ok (.iaload, 1) := by decide +kernel
theorem dL_law_1045 : decode cL_law 1045 = .ok (.invokevirtual 117, 3) := by decide +kernel
theorem dL_law_1048 : decode cL_law 1048 = .ok (.if_icmp .eq 575, 3) := by decide +kernel
theorem dL_law_1051 : decode cL_law 1051 = .ok (.iconst 0, 1) := by decide +kernel
theorem dL_law_1052 : decode cL_law 1052 = .ok (.ireturn, 1) := by decide +kernel
theorem dL_law_1053 : decode cL_law 1053 = .ok (.aload_n 1, 1) := by decide +kernel
theorem dL_law_1054 : decode cL_law 1054 = .ok (.aload_n 0, 1) := by decide +kernel
theorem dL_law_1055 : decode cL_law 1055 = .ok (.iload_n 3, 1) := by decide +kernel
theorem dL_law_1056 : decode cL_law 1056 = .ok (.iconst 1, 1) := by decide +kernel
theorem dL_law_1057 : decode cL_law 1057 = .ok (.iadd, 1) := by decide +kernel
theorem dL_law_1058 : decode cL_law 1058 = .ok (.iaload, 1) := by decide +kernel
theorem dL_law_1059 : decode cL_law 1059 = .ok (.invokevirtual 118, 3) := by decide +kernel
theorem dL_law_1062 : decode cL_law 1062 = .ok (.aload_n 2, 1) := by decide +kernel
theorem dL_law_1063 : decode cL_law 1063 = .ok (.aload_n 0, 1) := by decide +kernel
theorem dL_law_1064 : decode cL_law 1064 = .ok (.iload_n 3, 1) := by decide +kernel
theorem dL_law_1065 : decode cL_law 1065 = .ok (.iconst 1, 1) := by decide +kernel
theorem dL_law_1066 : decode cL_law 1066 = .ok (.iadd, 1) := by decide +kernel
theorem dL_law_1067 : decode cL_law 1067 = .ok (.iaload, 1) := by decide +kernel
theorem dL_law_1068 : decode cL_law 1068 = .ok (.invokevirtual 121, 3) := by decide +kernel
theorem dL_law_1071 : decode cL_law 1071 = .ok (.if_icmp .eq 552, 3) := by decide +kernel
theorem dL_law_1074 : decode cL_law 1074 = .ok (.iconst 0, 1) := by decide +kernel
theorem dL_law_1075 : decode cL_law 1075 = .ok (.ireturn, 1) := by decide +kernel
theorem dL_law_1076 : decode cL_law 1076 = .ok (.aload_n 1, 1) := by decide +kernel
theorem dL_law_1077 : decode cL_law 1077 = .ok (.aload_n 0, 1) := by decide +kernel
theorem dL_law_1078 : decode cL_law 1078 = .ok (.iload_n 3, 1) := by decide +kernel
theorem dL_law_1079 : decode cL_law 1079 = .ok (.iconst 1, 1) := by decide +kernel
theorem dL_law_1080 : decode cL_law 1080 = .ok (.iadd, 1) := by decide +kernel
theorem dL_law_1081 : decode cL_law 1081 = .ok (.iaload, 1) := by decide +kernel
theorem dL_law_1082 : decode cL_law 1082 = .ok (.invokevirtual 122, 3) := by decide +kernel
theorem dL_law_1085 : decode cL_law 1085 = .ok (.aload_n 2, 1) := by decide +kernel
theorem dL_law_1086 : decode cL_law 1086 = .ok (.aload_n 0, 1) := by decide +kernel
theorem dL_law_1087 : decode cL_law 1087 = .ok (.iload_n 3, 1) := by decide +kernel
theorem dL_law_1088 : decode cL_law 1088 = .ok (.iconst 1, 1) := by decide +kernel
theorem dL_law_1089 : decode cL_law 1089 = .ok (.iadd, 1) := by decide +kernel
theorem dL_law_1090 : decode cL_law 1090 = .ok (.iaload, 1) := by decide +kernel
theorem dL_law_1091 : decode cL_law 1091 = .ok (.invokevirtual 125, 3) := by decide +kernel
theorem dL_law_1094 : decode cL_law 1094 = .ok (.if_icmp .eq 529, 3) := by decide +kernel
theorem dL_law_1097 : decode cL_law 1097 = .ok (.iconst 0, 1) := by decide +kernel
theorem dL_law_1098 : decode cL_law 1098 = .ok (.ireturn, 1) := by decide +kernel
theorem dL_law_1099 : decode cL_law 1099 = .ok (.aload_n 1, 1) := by decide +kernel
theorem dL_law_1100 : decode cL_law 1100 = .ok (.aload_n 0, 1) := by decide +kernel
theorem dL_law_1101 : decode cL_law 1101 = .ok (.iload_n 3, 1) := by decide +kernel
theorem dL_law_1102 : decode cL_law 1102 = .ok (.iconst 1, 1) := by decide +kernel
theorem dL_law_1103 : decode cL_law 1103 = .ok (.iadd, 1) := by decide +kernel
theorem dL_law_1104 : decode cL_law 1104 = .ok (.iaload, 1) := by decide +kernel
theorem dL_law_1105 : decode cL_law 1105 = .ok (.invokevirtual 126, 3) := by decide +kernel
theorem dL_law_1108 : decode cL_law 1108 = .ok (.aload_n 2, 1) := by decide +kernel
theorem dL_law_1109 : decode cL_law 1109 = .ok (.aload_n 0, 1) := by decide +kernel
theorem dL_law_1110 : decode cL_law 1110 = .ok (.iload_n 3, 1) := by decide +kernel
theorem dL_law_1111 : decode cL_law 1111 = .ok (.iconst 1, 1) := by decide +kernel
theorem dL_law_1112 : decode cL_law 1112 = .ok (.iadd, 1) := by decide +kernel
theorem dL_law_1113 : decode cL_law 1113 = .ok (.iaload, 1) := by decide +kernel
theorem dL_law_1114 : decode cL_law 1114 = .ok (.invokevirtual 129, 3) := by decide +kernel
theorem dL_law_1117 : decode cL_law 1117 = .ok (.if_icmp .eq 506, 3) := by decide +kernel
theorem dL_law_1120 : decode cL_law 1120 = .ok (.iconst 0, 1) := by decide +kernel
theorem dL_law_1121 : decode cL_law 1121 = .ok (.ireturn, 1) := by decide +kernel
theorem dL_law_1122 : decode cL_law 1122 = .ok (.aload_n 1, 1) := by decide +kernel
theorem dL_law_1123 : decode cL_law 1123 = .ok (.aload_n 0, 1) := by decide +kernel
theorem dL_law_1124 : decode cL_law 1124 = .ok (.iload_n 3, 1) := by decide +kernel
theorem dL_law_1125 : decode cL_law 1125 = .ok (.iconst 1, 1) := by decide +kernel
theorem dL_law_1126 : decode cL_law 1126 = .ok (.iadd, 1) := by decide +kernel
theorem dL_law_1127 : decode cL_law 1127 = .ok (.iaload, 1) := by decide +kernel
theorem dL_law_1128 : decode cL_law 1128 = .ok (.invokevirtual 130, 3) := by decide +kernel
theorem dL_law_1131 : decode cL_law 1131 = .ok (.aload_n 2, 1) := by decide +kernel
theorem dL_law_1132 : decode cL_law 1132 = .ok (.aload_n 0, 1) := by decide +kernel
theorem dL_law_1133 : decode cL_law 1133 = .ok (.iload_n 3, 1) := by decide +kernel
theorem dL_law_1134 : decode cL_law 1134 = .ok (.iconst 1, 1) := by decide +kernel
theorem dL_law_1135 : decode cL_law 1135 = .ok (.iadd, 1) := by decide +kernel
theorem dL_law_1136 : decode cL_law 1136 = .ok (.iaload, 1) := by decide +kernel
theorem dL_law_1137 : decode cL_law 1137 = .ok (.invokevirtual 133, 3) := by decide +kernel
theorem dL_law_1140 : decode cL_law 1140 = .ok (.if_icmp .eq 483, 3) := by decide +kernel
theorem dL_law_1143 : decode cL_law 1143 = .ok (.iconst 0, 1) := by decide +kernel
theorem dL_law_1144 : decode cL_law 1144 = .ok (.ireturn, 1) := by decide +kernel
theorem dL_law_1145 : decode cL_law 1145 = .ok (.aload_n 1, 1) := by decide +kernel
theorem dL_law_1146 : decode cL_law 1146 = .ok (.aload_n 0, 1) := by decide +kernel
theorem dL_law_1147 : decode cL_law 1147 = .ok (.iload_n 3, 1) := by decide +kernel
theorem dL_law_1148 : decode cL_law 1148 = .ok (.iconst 1, 1) := by decide +kernel
theorem dL_law_1149 : decode cL_law 1149 = .ok (.iadd, 1) := by decide +kernel
theorem dL_law_1150 : decode cL_law 1150 = .ok (.iaload, 1) := by decide +kernel
theorem dL_law_1151 : decode cL_law 1151 = .ok (.aload_n 0, 1) := by decide +kernel
theorem dL_law_1152 : decode cL_law 1152 = .ok (.iload_n 3, 1) := by decide +kernel
theorem dL_law_1153 : decode cL_law 1153 = .ok (.iconst 2, 1) := by decide +kernel
theorem dL_law_1154 : decode cL_law 1154 = .ok (.iadd, 1) := by decide +kernel
theorem dL_law_1155 : decode cL_law 1155 = .ok (.iaload, 1) := by decide +kernel
theorem dL_law_1156 : decode cL_law 1156 = .ok (.invokevirtual 134, 3) := by decide +kernel
theorem dL_law_1159 : decode cL_law 1159 = .ok (.aload_n 2, 1) := by decide +kernel
theorem dL_law_1160 : decode cL_law 1160 = .ok (.aload_n 0, 1) := by decide +kernel
theorem dL_law_1161 : decode cL_law 1161 = .ok (.iload_n 3, 1) := by decide +kernel
theorem dL_law_1162 : decode cL_law 1162 = .ok (.iconst 1, 1) := by decide +kernel
theorem dL_law_1163 : decode cL_law 1163 = .ok (.iadd, 1) := by decide +kernel
theorem dL_law_1164 : decode cL_law 1164 = .ok (.iaload, 1) := by decide +kernel
theorem dL_law_1165 : decode cL_law 1165 = .ok (.aload_n 0, 1) := by decide +kernel
theorem dL_law_1166 : decode cL_law 1166 = .ok (.iload_n 3, 1) := by decide +kernel
theorem dL_law_1167 : decode cL_law 1167 = .ok (.iconst 2, 1) := by decide +kernel
theorem dL_law_1168 : decode cL_law 1168 = .ok (.iadd, 1) := by decide +kernel
theorem dL_law_1169 : decode cL_law 1169 = .ok (.iaload, 1) := by decide +kernel
theorem dL_law_1170 : decode cL_law 1170 = .ok (.invokevirtual 137, 3) := by decide +kernel
theorem dL_law_1173 : decode cL_law 1173 = .ok (.if_icmp .eq 450, 3) := by decide +kernel
theorem dL_law_1176 : decode cL_law 1176 = .ok (.iconst 0, 1) := by decide +kernel
theorem dL_law_1177 : decode cL_law 1177 = .ok (.ireturn, 1) := by decide +kernel
theorem dL_law_1178 : decode cL_law 1178 = .ok (.aload_n 1, 1) := by decide +kernel
theorem dL_law_1179 : decode cL_law 1179 = .ok (.aload_n 0, 1) := by decide +kernel
theorem dL_law_1180 : decode cL_law 1180 = .ok (.iload_n 3, 1) := by decide +kernel
theorem dL_law_1181 : decode cL_law 1181 = .ok (.iconst 1, 1) := by decide +kernel
theorem dL_law_1182 : decode cL_law 1182 = .ok (.iadd, 1) := by decide +kernel
theorem dL_law_1183 : decode cL_law 1183 = .ok (.iaload, 1) := by decide +kernel
theorem dL_law_1184 : decode cL_law 1184 = .ok (.aload_n 0, 1) := by decide +kernel
theorem dL_law_1185 : decode cL_law 1185 = .ok (.iload_n 3, 1) := by decide +kernel
theorem dL_law_1186 : decode cL_law 1186 = .ok (.iconst 2, 1) := by decide +kernel
theorem dL_law_1187 : decode cL_law 1187 = .ok (.iadd, 1) := by decide +kernel
theorem dL_law_1188 : decode cL_law 1188 = .ok (.iaload, 1) := by decide +kernel
theorem dL_law_1189 : decode cL_law 1189 = .ok (.invokevirtual 138, 3) := by decide +kernel
theorem dL_law_1192 : decode cL_law 1192 = .ok (.aload_n 2, 1) := by decide +kernel
theorem dL_law_1193 : decode cL_law 1193 = .ok (.aload_n 0, 1) := by decide +kernel
theorem dL_law_1194 : decode cL_law 1194 = .ok (.iload_n 3, 1) := by decide +kernel
theorem dL_law_1195 : decode cL_law 1195 = .ok (.iconst 1, 1) := by decide +kernel
theorem dL_law_1196 : decode cL_law 1196 = .ok (.iadd, 1) := by decide +kernel
theorem dL_law_1197 : decode cL_law 1197 = .ok (.iaload, 1) := by decide +kernel
theorem dL_law_1198 : decode cL_law 1198 = .ok (.aload_n 0, 1) := by decide +kernel
theorem dL_law_1199 : decode cL_law 1199 = .ok (.iload_n 3, 1) := by decide +kernel
theorem dL_law_1200 : decode cL_law 1200 = .ok (.iconst 2, 1) := by decide +kernel
theorem dL_law_1201 : decode cL_law 1201 = .ok (.iadd, 1) := by decide +kernel
theorem dL_law_1202 : decode cL_law 1202 = .ok (.iaload, 1) := by decide +kernel
theorem dL_law_1203 : decode cL_law 1203 = .ok (.invokevirtual 141, 3) := by decide +kernel
theorem dL_law_1206 : decode cL_law 1206 = .ok (.if_icmp .eq 417, 3) := by decide +kernel
theorem dL_law_1209 : decode cL_law 1209 = .ok (.iconst 0, 1) := by decide +kernel
theorem dL_law_1210 : decode cL_law 1210 = .ok (.ireturn, 1) := by decide +kernel
theorem dL_law_1211 : decode cL_law 1211 = .ok (.aload_n 1, 1) := by decide +kernel
theorem dL_law_1212 : decode cL_law 1212 = .ok (.aload_n 0, 1) := by decide +kernel
theorem dL_law_1213 : decode cL_law 1213 = .ok (.iload_n 3, 1) := by decide +kernel
theorem dL_law_1214 : decode cL_law 1214 = .ok (.iconst 1, 1) := by decide +kernel
theorem dL_law_1215 : decode cL_law 1215 = .ok (.iadd, 1) := by decide +kernel
theorem dL_law_1216 : decode cL_law 1216 = .ok (.iaload, 1) := by decide +kernel
theorem dL_law_1217 : decode cL_law 1217 = .ok (.aload_n 0, 1) := by decide +kernel
theorem dL_law_1218 : decode cL_law 1218 = .ok (.iload_n 3, 1) := by decide +kernel
theorem dL_law_1219 : decode cL_law 1219 = .ok (.iconst 2, 1) := by decide +kernel
theorem dL_law_1220 : decode cL_law 1220 = .ok (.iadd, 1) := by decide +kernel
theorem dL_law_1221 : decode cL_law 1221 = .ok (.iaload, 1) := by decide +kernel
theorem dL_law_1222 : decode cL_law 1222 = .ok (.invokevirtual 142, 3) := by decide +kernel
theorem dL_law_1225 : decode cL_law 1225 = .ok (.aload_n 2, 1) := by decide +kernel
theorem dL_law_1226 : decode cL_law 1226 = .ok (.aload_n 0, 1) := by decide +kernel
theorem dL_law_1227 : decode cL_law 1227 = .ok (.iload_n 3, 1) := by decide +kernel
theorem dL_law_1228 : decode cL_law 1228 = .ok (.iconst 1, 1) := by decide +kernel
theorem dL_law_1229 : decode cL_law 1229 = .ok (.iadd, 1) := by decide +kernel
theorem dL_law_1230 : decode cL_law 1230 = .ok (.iaload, 1) := by decide +kernel
theorem dL_law_1231 : decode cL_law 1231 = .ok (.aload_n 0, 1) := by decide +kernel
theorem dL_law_1232 : decode cL_law 1232 = .ok (.iload_n 3, 1) := by decide +kernel
theorem dL_law_1233 : decode cL_law 1233 = .ok (.iconst 2, 1) := by decide +kernel
theorem dL_law_1234 : decode cL_law 1234 = .ok (.iadd, 1) := by decide +kernel
theorem dL_law_1235 : decode cL_law 1235 = .ok (.iaload, 1) := by decide +kernel
theorem dL_law_1236 : decode cL_law 1236 = .ok (.invokevirtual 145, 3) := by decide +kernel
theorem dL_law_1239 : decode cL_law 1239 = .ok (.if_icmp .eq 384, 3) := by decide +kernel
theorem dL_law_1242 : decode cL_law 1242 = .ok (.iconst 0, 1) := by decide +kernel
theorem dL_law_1243 : decode cL_law 1243 = .ok (.ireturn, 1) := by decide +kernel
theorem dL_law_1244 : decode cL_law 1244 = .ok (.aload_n 1, 1) := by decide +kernel
theorem dL_law_1245 : decode cL_law 1245 = .ok (.aload_n 0, 1) := by decide +kernel
theorem dL_law_1246 : decode cL_law 1246 = .ok (.iload_n 3, 1) := by decide +kernel
theorem dL_law_1247 : decode cL_law 1247 = .ok (.iconst 1, 1) := by decide +kernel
theorem dL_law_1248 : decode cL_law 1248 = .ok (.iadd, 1) := by decide +kernel
theorem dL_law_1249 : decode cL_law 1249 = .ok (.iaload, 1) := by decide +kernel
theorem dL_law_1250 : decode cL_law 1250 = .ok (.invokevirtual 146, 3) := by decide +kernel
theorem dL_law_1253 : decode cL_law 1253 = .ok (.aload_n 2, 1) := by decide +kernel
theorem dL_law_1254 : decode cL_law 1254 = .ok (.aload_n 0, 1) := by decide +kernel
theorem dL_law_1255 : decode cL_law 1255 = .ok (.iload_n 3, 1) := by decide +kernel
theorem dL_law_1256 : decode cL_law 1256 = .ok (.iconst 1, 1) := by decide +kernel
theorem dL_law_1257 : decode cL_law 1257 = .ok (.iadd, 1) := by decide +kernel
theorem dL_law_1258 : decode cL_law 1258 = .ok (.iaload, 1) := by decide +kernel
theorem dL_law_1259 : decode cL_law 1259 = .ok (.invokevirtual 149, 3) := by decide +kernel
theorem dL_law_1262 : decode cL_law 1262 = .ok (.if_icmp .eq 361, 3) := by decide +kernel
theorem dL_law_1265 : decode cL_law 1265 = .ok (.iconst 0, 1) := by decide +kernel
theorem dL_law_1266 : decode cL_law 1266 = .ok (.ireturn, 1) := by decide +kernel
theorem dL_law_1267 : decode cL_law 1267 = .ok (.aload_n 1, 1) := by decide +kernel
theorem dL_law_1268 : decode cL_law 1268 = .ok (.aload_n 0, 1) := by decide +kernel
theorem dL_law_1269 : decode cL_law 1269 = .ok (.iload_n 3, 1) := by decide +kernel
theorem dL_law_1270 : decode cL_law 1270 = .ok (.iconst 1, 1) := by decide +kernel
theorem dL_law_1271 : decode cL_law 1271 = .ok (.iadd, 1) := by decide +kernel
theorem dL_law_1272 : decode cL_law 1272 = .ok (.iaload, 1) := by decide +kernel
theorem dL_law_1273 : decode cL_law 1273 = .ok (.aload_n 0, 1) := by decide +kernel
theorem dL_law_1274 : decode cL_law 1274 = .ok (.iload_n 3, 1) := by decide +kernel
theorem dL_law_1275 : decode cL_law 1275 = .ok (.iconst 2, 1) := by decide +kernel
theorem dL_law_1276 : decode cL_law 1276 = .ok (.iadd, 1) := by decide +kernel
theorem dL_law_1277 : decode cL_law 1277 = .ok (.iaload, 1) := by decide +kernel
theorem dL_law_1278 : decode cL_law 1278 = .ok (.invokevirtual 150, 3) := by decide +kernel
theorem dL_law_1281 : decode cL_law 1281 = .ok (.aload_n 2, 1) := by decide +kernel
theorem dL_law_1282 : decode cL_law 1282 = .ok (.aload_n 0, 1) := by decide +kernel
theorem dL_law_1283 : decode cL_law 1283 = .ok (.iload_n 3, 1) := by decide +kernel
theorem dL_law_1284 : decode cL_law 1284 = .ok (.iconst 1, 1) := by decide +kernel
theorem dL_law_1285 : decode cL_law 1285 = .ok (.iadd, 1) := by decide +kernel
theorem dL_law_1286 : decode cL_law 1286 = .ok (.iaload, 1) := by decide +kernel
theorem dL_law_1287 : decode cL_law 1287 = .ok (.aload_n 0, 1) := by decide +kernel
theorem dL_law_1288 : decode cL_law 1288 = .ok (.iload_n 3, 1) := by decide +kernel
theorem dL_law_1289 : decode cL_law 1289 = .ok (.iconst 2, 1) := by decide +kernel
theorem dL_law_1290 : decode cL_law 1290 = .ok (.iadd, 1) := by decide +kernel
theorem dL_law_1291 : decode cL_law 1291 = .ok (.iaload, 1) := by decide +kernel
theorem dL_law_1292 : decode cL_law 1292 = .ok (.invokevirtual 153, 3) := by decide +kernel
theorem dL_law_1295 : decode cL_law 1295 = .ok (.if_icmp .eq 328, 3) := by decide +kernel
theorem dL_law_1298 : decode cL_law 1298 = .ok (.iconst 0, 1) := by decide +kernel
theorem dL_law_1299 : decode cL_law 1299 = .ok (.ireturn, 1) := by decide +kernel
theorem dL_law_1300 : decode cL_law 1300 = .ok (.aload_n 1, 1) := by decide +kernel
theorem dL_law_1301 : decode cL_law 1301 = .ok (.aload_n 0, 1) := by decide +kernel
theorem dL_law_1302 : decode cL_law 1302 = .ok (.iload_n 3, 1) := by decide +kernel
theorem dL_law_1303 : decode cL_law 1303 = .ok (.iconst 1, 1) := by decide +kernel
theorem dL_law_1304 : decode cL_law 1304 = .ok (.iadd, 1) := by decide +kernel
theorem dL_law_1305 : decode cL_law 1305 = .ok (.iaload, 1) := by decide +kernel
theorem dL_law_1306 : decode cL_law 1306 = .ok (.aload_n 0, 1) := by decide +kernel
theorem dL_law_1307 : decode cL_law 1307 = .ok (.iload_n 3, 1) := by decide +kernel
theorem dL_law_1308 : decode cL_law 1308 = .ok (.iconst 2, 1) := by decide +kernel
theorem dL_law_1309 : decode cL_law 1309 = .ok (.iadd, 1) := by decide +kernel
theorem dL_law_1310 : decode cL_law 1310 = .ok (.iaload, 1) := by decide +kernel
theorem dL_law_1311 : decode cL_law 1311 = .ok (.invokevirtual 154, 3) := by decide +kernel
theorem dL_law_1314 : decode cL_law 1314 = .ok (.aload_n 2, 1) := by decide +kernel
theorem dL_law_1315 : decode cL_law 1315 = .ok (.aload_n 0, 1) := by decide +kernel
theorem dL_law_1316 : decode cL_law 1316 = .ok (.iload_n 3, 1) := by decide +kernel
theorem dL_law_1317 : decode cL_law 1317 = .ok (.iconst 1, 1) := by decide +kernel
theorem dL_law_1318 : decode cL_law 1318 = .ok (.iadd, 1) := by decide +kernel
theorem dL_law_1319 : decode cL_law 1319 = .ok (.iaload, 1) := by decide +kernel
theorem dL_law_1320 : decode cL_law 1320 = .ok (.aload_n 0, 1) := by decide +kernel
theorem dL_law_1321 : decode cL_law 1321 = .ok (.iload_n 3, 1) := by decide +kernel
theorem dL_law_1322 : decode cL_law 1322 = .ok (.iconst 2, 1) := by decide +kernel
theorem dL_law_1323 : decode cL_law 1323 = .ok (.iadd, 1) := by decide +kernel
theorem dL_law_1324 : decode cL_law 1324 = .ok (.iaload, 1) := by decide +kernel
theorem dL_law_1325 : decode cL_law 1325 = .ok (.invokevirtual 157, 3) := by decide +kernel
theorem dL_law_1328 : decode cL_law 1328 = .ok (.if_icmp .eq 295, 3) := by decide +kernel
theorem dL_law_1331 : decode cL_law 1331 = .ok (.iconst 0, 1) := by decide +kernel
theorem dL_law_1332 : decode cL_law 1332 = .ok (.ireturn, 1) := by decide +kernel
theorem dL_law_1333 : decode cL_law 1333 = .ok (.aload_n 1, 1) := by decide +kernel
theorem dL_law_1334 : decode cL_law 1334 = .ok (.aload_n 0, 1) := by decide +kernel
theorem dL_law_1335 : decode cL_law 1335 = .ok (.iload_n 3, 1) := by decide +kernel
theorem dL_law_1336 : decode cL_law 1336 = .ok (.iconst 1, 1) := by decide +kernel
theorem dL_law_1337 : decode cL_law 1337 = .ok (.iadd, 1) := by decide +kernel
theorem dL_law_1338 : decode cL_law 1338 = .ok (.iaload, 1) := by decide +kernel
theorem dL_law_1339 : decode cL_law 1339 = .ok (.aload_n 0, 1) := by decide +kernel
theorem dL_law_1340 : decode cL_law 1340 = .ok (.iload_n 3, 1) := by decide +kernel
theorem dL_law_1341 : decode cL_law 1341 = .ok (.iconst 2, 1) := by decide +kernel
theorem dL_law_1342 : decode cL_law 1342 = .ok (.iadd, 1) := by decide +kernel
theorem dL_law_1343 : decode cL_law 1343 = .ok (.iaload, 1) := by decide +kernel
theorem dL_law_1344 : decode cL_law 1344 = .ok (.aload_n 0, 1) := by decide +kernel
theorem dL_law_1345 : decode cL_law 1345 = .ok (.iload_n 3, 1) := by decide +kernel
theorem dL_law_1346 : decode cL_law 1346 = .ok (.iconst 3, 1) := by decide +kernel
theorem dL_law_1347 : decode cL_law 1347 = .ok (.iadd, 1) := by decide +kernel
theorem dL_law_1348 : decode cL_law 1348 = .ok (.iaload, 1) := by decide +kernel
theorem dL_law_1349 : decode cL_law 1349 = .ok (.invokevirtual 158, 3) := by decide +kernel
theorem dL_law_1352 : decode cL_law 1352 = .ok (.aload_n 2, 1) := by decide +kernel
theorem dL_law_1353 : decode cL_law 1353 = .ok (.aload_n 0, 1) := by decide +kernel
theorem dL_law_1354 : decode cL_law 1354 = .ok (.iload_n 3, 1) := by decide +kernel
theorem dL_law_1355 : decode cL_law 1355 = .ok (.iconst 1, 1) := by decide +kernel
theorem dL_law_1356 : decode cL_law 1356 = .ok (.iadd, 1) := by decide +kernel
theorem dL_law_1357 : decode cL_law 1357 = .ok (.iaload, 1) := by decide +kernel
theorem dL_law_1358 : decode cL_law 1358 = .ok (.aload_n 0, 1) := by decide +kernel
theorem dL_law_1359 : decode cL_law 1359 = .ok (.iload_n 3, 1) := by decide +kernel
theorem dL_law_1360 : decode cL_law 1360 = .ok (.iconst 2, 1) := by decide +kernel
theorem dL_law_1361 : decode cL_law 1361 = .ok (.iadd, 1) := by decide +kernel
theorem dL_law_1362 : decode cL_law 1362 = .ok (.iaload, 1) := by decide +kernel
theorem dL_law_1363 : decode cL_law 1363 = .ok (.aload_n 0, 1) := by decide +kernel
theorem dL_law_1364 : decode cL_law 1364 = .ok (.iload_n 3, 1) := by decide +kernel
theorem dL_law_1365 : decode cL_law 1365 = .ok (.iconst 3, 1) := by decide +kernel
theorem dL_law_1366 : decode cL_law 1366 = .ok (.iadd, 1) := by decide +kernel
theorem dL_law_1367 : decode cL_law 1367 = .ok (.iaload, 1) := by decide +kernel
theorem dL_law_1368 : decode cL_law 1368 = .ok (.invokevirtual 161, 3) := by decide +kernel
theorem dL_law_1371 : decode cL_law 1371 = .ok (.if_icmp .eq 252, 3) := by decide +kernel
theorem dL_law_1374 : decode cL_law 1374 = .ok (.iconst 0, 1) := by decide +kernel
theorem dL_law_1375 : decode cL_law 1375 = .ok (.ireturn, 1) := by decide +kernel
theorem dL_law_1376 : decode cL_law 1376 = .ok (.aload_n 1, 1) := by decide +kernel
theorem dL_law_1377 : decode cL_law 1377 = .ok (.aload_n 0, 1) := by decide +kernel
theorem dL_law_1378 : decode cL_law 1378 = .ok (.iload_n 3, 1) := by decide +kernel
theorem dL_law_1379 : decode cL_law 1379 = .ok (.iconst 1, 1) := by decide +kernel
theorem dL_law_1380 : decode cL_law 1380 = .ok (.iadd, 1) := by decide +kernel
theorem dL_law_1381 : decode cL_law 1381 = .ok (.iaload, 1) := by decide +kernel
theorem dL_law_1382 : decode cL_law 1382 = .ok (.aload_n 0, 1) := by decide +kernel
theorem dL_law_1383 : decode cL_law 1383 = .ok (.iload_n 3, 1) := by decide +kernel
theorem dL_law_1384 : decode cL_law 1384 = .ok (.iconst 2, 1) := by decide +kernel
theorem dL_law_1385 : decode cL_law 1385 = .ok (.iadd, 1) := by decide +kernel
theorem dL_law_1386 : decode cL_law 1386 = .ok (.iaload, 1) := by decide +kernel
theorem dL_law_1387 : decode cL_law 1387 = .ok (.aload_n 0, 1) := by decide +kernel
theorem dL_law_1388 : decode cL_law 1388 = .ok (.iload_n 3, 1) := by decide +kernel
theorem dL_law_1389 : decode cL_law 1389 = .ok (.iconst 3, 1) := by decide +kernel
theorem dL_law_1390 : decode cL_law 1390 = .ok (.iadd, 1) := by decide +kernel
theorem dL_law_1391 : decode cL_law 1391 = .ok (.iaload, 1) := by decide +kernel
theorem dL_law_1392 : decode cL_law 1392 = .ok (.invokevirtual 162, 3) := by decide +kernel
theorem dL_law_1395 : decode cL_law 1395 = .ok (.aload_n 2, 1) := by decide +kernel
theorem dL_law_1396 : decode cL_law 1396 = .ok (.aload_n 0, 1) := by decide +kernel
theorem dL_law_1397 : decode cL_law 1397 = .ok (.iload_n 3, 1) := by decide +kernel
theorem dL_law_1398 : decode cL_law 1398 = .ok (.iconst 1, 1) := by decide +kernel
theorem dL_law_1399 : decode cL_law 1399 = .ok (.iadd, 1) := by decide +kernel
theorem dL_law_1400 : decode cL_law 1400 = .ok (.iaload, 1) := by decide +kernel
theorem dL_law_1401 : decode cL_law 1401 = .ok (.aload_n 0, 1) := by decide +kernel
theorem dL_law_1402 : decode cL_law 1402 = .ok (.iload_n 3, 1) := by decide +kernel
theorem dL_law_1403 : decode cL_law 1403 = .ok (.iconst 2, 1) := by decide +kernel
theorem dL_law_1404 : decode cL_law 1404 = .ok (.iadd, 1) := by decide +kernel
theorem dL_law_1405 : decode cL_law 1405 = .ok (.iaload, 1) := by decide +kernel
theorem dL_law_1406 : decode cL_law 1406 = .ok (.aload_n 0, 1) := by decide +kernel
theorem dL_law_1407 : decode cL_law 1407 = .ok (.iload_n 3, 1) := by decide +kernel
theorem dL_law_1408 : decode cL_law 1408 = .ok (.iconst 3, 1) := by decide +kernel
theorem dL_law_1409 : decode cL_law 1409 = .ok (.iadd, 1) := by decide +kernel
theorem dL_law_1410 : decode cL_law 1410 = .ok (.iaload, 1) := by decide +kernel
theorem dL_law_1411 : decode cL_law 1411 = .ok (.invokevirtual 165, 3) := by decide +kernel
theorem dL_law_1414 : decode cL_law 1414 = .ok (.if_icmp .eq 209, 3) := by decide +kernel
theorem dL_law_1417 : decode cL_law 1417 = .ok (.iconst 0, 1) := by decide +kernel
theorem dL_law_1418 : decode cL_law 1418 = .ok (.ireturn, 1) := by decide +kernel
theorem dL_law_1419 : decode cL_law 1419 = .ok (.aload_n 1, 1) := by decide +kernel
theorem dL_law_1420 : decode cL_law 1420 = .ok (.aload_n 0, 1) := by decide +kernel
theorem dL_law_1421 : decode cL_law 1421 = .ok (.iload_n 3, 1) := by decide +kernel
theorem dL_law_1422 : decode cL_law 1422 = .ok (.iconst 1, 1) := by decide +kernel
theorem dL_law_1423 : decode cL_law 1423 = .ok (.iadd, 1) := by decide +kernel
theorem dL_law_1424 : decode cL_law 1424 = .ok (.iaload, 1) := by decide +kernel
theorem dL_law_1425 : decode cL_law 1425 = .ok (.aload_n 0, 1) := by decide +kernel
theorem dL_law_1426 : decode cL_law 1426 = .ok (.iload_n 3, 1) := by decide +kernel
theorem dL_law_1427 : decode cL_law 1427 = .ok (.iconst 2, 1) := by decide +kernel
theorem dL_law_1428 : decode cL_law 1428 = .ok (.iadd, 1) := by decide +kernel
theorem dL_law_1429 : decode cL_law 1429 = .ok (.iaload, 1) := by decide +kernel
theorem dL_law_1430 : decode cL_law 1430 = .ok (.aload_n 0, 1) := by decide +kernel
theorem dL_law_1431 : decode cL_law 1431 = .ok (.iload_n 3, 1) := by decide +kernel
theorem dL_law_1432 : decode cL_law 1432 = .ok (.iconst 3, 1) := by decide +kernel
theorem dL_law_1433 : decode cL_law 1433 = .ok (.iadd, 1) := by decide +kernel
theorem dL_law_1434 : decode cL_law 1434 = .ok (.iaload, 1) := by decide +kernel
theorem dL_law_1435 : decode cL_law 1435 = .ok (.aload_n 0, 1) := by decide +kernel
theorem dL_law_1436 : decode cL_law 1436 = .ok (.iload_n 3, 1) := by decide +kernel
theorem dL_law_1437 : decode cL_law 1437 = .ok (.iconst 4, 1) := by decide +kernel
theorem dL_law_1438 : decode cL_law 1438 = .ok (.iadd, 1) := by decide +kernel
theorem dL_law_1439 : decode cL_law 1439 = .ok (.iaload, 1) := by decide +kernel
theorem dL_law_1440 : decode cL_law 1440 = .ok (.aload_n 0, 1) := by decide +kernel
theorem dL_law_1441 : decode cL_law 1441 = .ok (.iload_n 3, 1) := by decide +kernel
theorem dL_law_1442 : decode cL_law 1442 = .ok (.iconst 5, 1) := by decide +kernel
theorem dL_law_1443 : decode cL_law 1443 = .ok (.iadd, 1) := by decide +kernel
theorem dL_law_1444 : decode cL_law 1444 = .ok (.iaload, 1) := by decide +kernel
theorem dL_law_1445 : decode cL_law 1445 = .ok (.invokevirtual 166, 3) := by decide +kernel
theorem dL_law_1448 : decode cL_law 1448 = .ok (.aload_n 2, 1) := by decide +kernel
theorem dL_law_1449 : decode cL_law 1449 = .ok (.aload_n 0, 1) := by decide +kernel
theorem dL_law_1450 : decode cL_law 1450 = .ok (.iload_n 3, 1) := by decide +kernel
theorem dL_law_1451 : decode cL_law 1451 = .ok (.iconst 1, 1) := by decide +kernel
theorem dL_law_1452 : decode cL_law 1452 = .ok (.iadd, 1) := by decide +kernel
theorem dL_law_1453 : decode cL_law 1453 = .ok (.iaload, 1) := by decide +kernel
theorem dL_law_1454 : decode cL_law 1454 = .ok (.aload_n 0, 1) := by decide +kernel
theorem dL_law_1455 : decode cL_law 1455 = .ok (.iload_n 3, 1) := by decide +kernel
theorem dL_law_1456 : decode cL_law 1456 = .ok (.iconst 2, 1) := by decide +kernel
theorem dL_law_1457 : decode cL_law 1457 = .ok (.iadd, 1) := by decide +kernel
theorem dL_law_1458 : decode cL_law 1458 = .ok (.iaload, 1) := by decide +kernel
theorem dL_law_1459 : decode cL_law 1459 = .ok (.aload_n 0, 1) := by decide +kernel
theorem dL_law_1460 : decode cL_law 1460 = .ok (.iload_n 3, 1) := by decide +kernel
theorem dL_law_1461 : decode cL_law 1461 = .ok (.iconst 3, 1) := by decide +kernel
theorem dL_law_1462 : decode cL_law 1462 = .ok (.iadd, 1) := by decide +kernel
theorem dL_law_1463 : decode cL_law 1463 = .ok (.iaload, 1) := by decide +kernel
theorem dL_law_1464 : decode cL_law 1464 = .ok (.aload_n 0, 1) := by decide +kernel
theorem dL_law_1465 : decode cL_law 1465 = .ok (.iload_n 3, 1) := by decide +kernel
theorem dL_law_1466 : decode cL_law 1466 = .ok (.iconst 4, 1) := by decide +kernel
theorem dL_law_1467 : decode cL_law 1467 = .ok (.iadd, 1) := by decide +kernel
theorem dL_law_1468 : decode cL_law 1468 = .ok (.iaload, 1) := by decide +kernel
theorem dL_law_1469 : decode cL_law 1469 = .ok (.aload_n 0, 1) := by decide +kernel
theorem dL_law_1470 : decode cL_law 1470 = .ok (.iload_n 3, 1) := by decide +kernel
theorem dL_law_1471 : decode cL_law 1471 = .ok (.iconst 5, 1) := by decide +kernel
theorem dL_law_1472 : decode cL_law 1472 = .ok (.iadd, 1) := by decide +kernel
theorem dL_law_1473 : decode cL_law 1473 = .ok (.iaload, 1) := by decide +kernel
theorem dL_law_1474 : decode cL_law 1474 = .ok (.invokevirtual 170, 3) := by decide +kernel
theorem dL_law_1477 : decode cL_law 1477 = .ok (.if_icmp .eq 146, 3) := by decide +kernel
theorem dL_law_1480 : decode cL_law 1480 = .ok (.iconst 0, 1) := by decide +kernel
theorem dL_law_1481 : decode cL_law 1481 = .ok (.ireturn, 1) := by decide +kernel
theorem dL_law_1482 : decode cL_law 1482 = .ok (.aload_n 1, 1) := by decide +kernel
theorem dL_law_1483 : decode cL_law 1483 = .ok (.aload_n 0, 1) := by decide +kernel
theorem dL_law_1484 : decode cL_law 1484 = .ok (.iload_n 3, 1) := by decide +kernel
theorem dL_law_1485 : decode cL_law 1485 = .ok (.iconst 1, 1) := by decide +kernel
theorem dL_law_1486 : decode cL_law 1486 = .ok (.iadd, 1) := by decide +kernel
theorem dL_law_1487 : decode cL_law 1487 = .ok (.iaload, 1) := by decide +kernel
theorem dL_law_1488 : decode cL_law 1488 = .ok (.invokevirtual 171, 3) := by decide +kernel
theorem dL_law_1491 : decode cL_law 1491 = .ok (.aload_n 2, 1) := by decide +kernel
theorem dL_law_1492 : decode cL_law 1492 = .ok (.aload_n 0, 1) := by decide +kernel
theorem dL_law_1493 : decode cL_law 1493 = .ok (.iload_n 3, 1) := by decide +kernel
theorem dL_law_1494 : decode cL_law 1494 = .ok (.iconst 1, 1) := by decide +kernel
theorem dL_law_1495 : decode cL_law 1495 = .ok (.iadd, 1) := by decide +kernel
theorem dL_law_1496 : decode cL_law 1496 = .ok (.iaload, 1) := by decide +kernel
theorem dL_law_1497 : decode cL_law 1497 = .ok (.invokevirtual 174, 3) := by decide +kernel
theorem dL_law_1500 : decode cL_law 1500 = .ok (.if_icmp .eq 123, 3) := by decide +kernel
theorem dL_law_1503 : decode cL_law 1503 = .ok (.iconst 0, 1) := by decide +kernel
theorem dL_law_1504 : decode cL_law 1504 = .ok (.ireturn, 1) := by decide +kernel
theorem dL_law_1505 : decode cL_law 1505 = .ok (.aload_n 1, 1) := by decide +kernel
theorem dL_law_1506 : decode cL_law 1506 = .ok (.aload_n 0, 1) := by decide +kernel
theorem dL_law_1507 : decode cL_law 1507 = .ok (.iload_n 3, 1) := by decide +kernel
theorem dL_law_1508 : decode cL_law 1508 = .ok (.iconst 1, 1) := by decide +kernel
theorem dL_law_1509 : decode cL_law 1509 = .ok (.iadd, 1) := by decide +kernel
theorem dL_law_1510 : decode cL_law 1510 = .ok (.iaload, 1) := by decide +kernel
theorem dL_law_1511 : decode cL_law 1511 = .ok (.aload_n 0, 1) := by decide +kernel
theorem dL_law_1512 : decode cL_law 1512 = .ok (.iload_n 3, 1) := by decide +kernel
theorem dL_law_1513 : decode cL_law 1513 = .ok (.iconst 2, 1) := by decide +kernel
theorem dL_law_1514 : decode cL_law 1514 = .ok (.iadd, 1) := by decide +kernel
theorem dL_law_1515 : decode cL_law 1515 = .ok (.iaload, 1) := by decide +kernel
theorem dL_law_1516 : decode cL_law 1516 = .ok (.invokevirtual 175, 3) := by decide +kernel
theorem dL_law_1519 : decode cL_law 1519 = .ok (.aload_n 2, 1) := by decide +kernel
theorem dL_law_1520 : decode cL_law 1520 = .ok (.aload_n 0, 1) := by decide +kernel
theorem dL_law_1521 : decode cL_law 1521 = .ok (.iload_n 3, 1) := by decide +kernel
theorem dL_law_1522 : decode cL_law 1522 = .ok (.iconst 1, 1) := by decide +kernel
theorem dL_law_1523 : decode cL_law 1523 = .ok (.iadd, 1) := by decide +kernel
theorem dL_law_1524 : decode cL_law 1524 = .ok (.iaload, 1) := by decide +kernel
theorem dL_law_1525 : decode cL_law 1525 = .ok (.aload_n 0, 1) := by decide +kernel
theorem dL_law_1526 : decode cL_law 1526 = .ok (.iload_n 3, 1) := by decide +kernel
theorem dL_law_1527 : decode cL_law 1527 = .ok (.iconst 2, 1) := by decide +kernel
theorem dL_law_1528 : decode cL_law 1528 = .ok (.iadd, 1) := by decide +kernel
theorem dL_law_1529 : decode cL_law 1529 = .ok (.iaload, 1) := by decide +kernel
theorem dL_law_1530 : decode cL_law 1530 = .ok (.invokevirtual 178, 3) := by decide +kernel
theorem dL_law_1533 : decode cL_law 1533 = .ok (.if_icmp .eq 90, 3) := by decide +kernel
theorem dL_law_1536 : decode cL_law 1536 = .ok (.iconst 0, 1) := by decide +kernel
theorem dL_law_1537 : decode cL_law 1537 = .ok (.ireturn, 1) := by decide +kernel
theorem dL_law_1538 : decode cL_law 1538 = .ok (.aload_n 1, 1) := by decide +kernel
theorem dL_law_1539 : decode cL_law 1539 = .ok (.invokevirtual 179, 3) := by decide +kernel
theorem dL_law_1542 : decode cL_law 1542 = .ok (.aload_n 2, 1) := by decide +kernel
theorem dL_law_1543 : decode cL_law 1543 = .ok (.invokevirtual 182, 3) := by decide +kernel
theorem dL_law_1546 : decode cL_law 1546 = .ok (.if_icmp .eq 77, 3) := by decide +kernel
theorem dL_law_1549 : decode cL_law 1549 = .ok (.iconst 0, 1) := by decide +kernel
theorem dL_law_1550 : decode cL_law 1550 = .ok (.ireturn, 1) := by decide +kernel
theorem dL_law_1551 : decode cL_law 1551 = .ok (.aload_n 1, 1) := by decide +kernel
theorem dL_law_1552 : decode cL_law 1552 = .ok (.invokevirtual 183, 3) := by decide +kernel
theorem dL_law_1555 : decode cL_law 1555 = .ok (.aload_n 2, 1) := by decide +kernel
theorem dL_law_1556 : decode cL_law 1556 = .ok (.invokevirtual 186, 3) := by decide +kernel
theorem dL_law_1559 : decode cL_law 1559 = .ok (.if_icmp .eq 64, 3) := by decide +kernel
theorem dL_law_1562 : decode cL_law 1562 = .ok (.iconst 0, 1) := by decide +kernel
theorem dL_law_1563 : decode cL_law 1563 = .ok (.ireturn, 1) := by decide +kernel
theorem dL_law_1564 : decode cL_law 1564 = .ok (.aload_n 1, 1) := by decide +kernel
theorem dL_law_1565 : decode cL_law 1565 = .ok (.invokevirtual 187, 3) := by decide +kernel
theorem dL_law_1568 : decode cL_law 1568 = .ok (.aload_n 2, 1) := by decide +kernel
theorem dL_law_1569 : decode cL_law 1569 = .ok (.invokevirtual 190, 3) := by decide +kernel
theorem dL_law_1572 : decode cL_law 1572 = .ok (.if_icmp .eq 51, 3) := by decide +kernel
theorem dL_law_1575 : decode cL_law 1575 = .ok (.iconst 0, 1) := by decide +kernel
theorem dL_law_1576 : decode cL_law 1576 = .ok (.ireturn, 1) := by decide +kernel
theorem dL_law_1577 : decode cL_law 1577 = .ok (.aload_n 1, 1) := by decide +kernel
theorem dL_law_1578 : decode cL_law 1578 = .ok (.aload_n 0, 1) := by decide +kernel
theorem dL_law_1579 : decode cL_law 1579 = .ok (.iload_n 3, 1) := by decide +kernel
theorem dL_law_1580 : decode cL_law 1580 = .ok (.iconst 1, 1) := by decide +kernel
theorem dL_law_1581 : decode cL_law 1581 = .ok (.iadd, 1) := by decide +kernel
theorem dL_law_1582 : decode cL_law 1582 = .ok (.iaload, 1) := by decide +kernel
theorem dL_law_1583 : decode cL_law 1583 = .ok (.invokevirtual 191, 3) := by decide +kernel
theorem dL_law_1586 : decode cL_law 1586 = .ok (.aload_n 2, 1) := by decide +kernel
theorem dL_law_1587 : decode cL_law 1587 = .ok (.aload_n 0, 1) := by decide +kernel
theorem dL_law_1588 : decode cL_law 1588 = .ok (.iload_n 3, 1) := by decide +kernel
theorem dL_law_1589 : decode cL_law 1589 = .ok (.iconst 1, 1) := by decide +kernel
theorem dL_law_1590 : decode cL_law 1590 = .ok (.iadd, 1) := by decide +kernel
theorem dL_law_1591 : decode cL_law 1591 = .ok (.iaload, 1) := by decide +kernel
theorem dL_law_1592 : decode cL_law 1592 = .ok (.invokevirtual 194, 3) := by decide +kernel
theorem dL_law_1595 : decode cL_law 1595 = .ok (.if_icmp .eq 28, 3) := by decide +kernel
theorem dL_law_1598 : decode cL_law 1598 = .ok (.iconst 0, 1) := by decide +kernel
theorem dL_law_1599 : decode cL_law 1599 = .ok (.ireturn, 1) := by decide +kernel
theorem dL_law_1600 : decode cL_law 1600 = .ok (.aload_n 1, 1) := by decide +kernel
theorem dL_law_1601 : decode cL_law 1601 = .ok (.aload_n 0, 1) := by decide +kernel
theorem dL_law_1602 : decode cL_law 1602 = .ok (.iload_n 3, 1) := by decide +kernel
theorem dL_law_1603 : decode cL_law 1603 = .ok (.iconst 1, 1) := by decide +kernel
theorem dL_law_1604 : decode cL_law 1604 = .ok (.iadd, 1) := by decide +kernel
theorem dL_law_1605 : decode cL_law 1605 = .ok (.iaload, 1) := by decide +kernel
theorem dL_law_1606 : decode cL_law 1606 = .ok (.invokevirtual 195, 3) := by decide +kernel
theorem dL_law_1609 : decode cL_law 1609 = .ok (.aload_n 2, 1) := by decide +kernel
theorem dL_law_1610 : decode cL_law 1610 = .ok (.aload_n 0, 1) := by decide +kernel
theorem dL_law_1611 : decode cL_law 1611 = .ok (.iload_n 3, 1) := by decide +kernel
theorem dL_law_1612 : decode cL_law 1612 = .ok (.iconst 1, 1) := by decide +kernel
theorem dL_law_1613 : decode cL_law 1613 = .ok (.iadd, 1) := by decide +kernel
theorem dL_law_1614 : decode cL_law 1614 = .ok (.iaload, 1) := by decide +kernel
theorem dL_law_1615 : decode cL_law 1615 = .ok (.invokevirtual 198, 3) := by decide +kernel
theorem dL_law_1618 : decode cL_law 1618 = .ok (.if_icmp .eq 5, 3) := by decide +kernel
theorem dL_law_1621 : decode cL_law 1621 = .ok (.iconst 0, 1) := by decide +kernel
theorem dL_law_1622 : decode cL_law 1622 = .ok (.ireturn, 1) := by decide +kernel
theorem dL_law_1623 : decode cL_law 1623 = .ok (.iinc 3 6, 3) := by decide +kernel
theorem dL_law_1626 : decode cL_law 1626 = .ok (.goto (-1608), 3) := by decide +kernel
theorem dL_law_1629 : decode cL_law 1629 = .ok (.iconst 1, 1) := by decide +kernel
theorem dL_law_1630 : decode cL_law 1630 = .ok (.ireturn, 1) := by decide +kernel
end
section
/-! PURE WORDS: what a method computes, as a partial function; none: it would throw, or never end -/
def nmv {α β : Type} (a : α) (k : α → β) : β := k a
theorem nm_at {α β : Type} {a x : α} {k : α → Option β} {v : β} (e : x = a) (h : nmv a k = some v) : k x = some v := by subst e; exact h
def bnd {α β γ : Type} (x : Option (α × β)) (k : α → β → Option γ) : Option γ := match x with
  | none => none
  | some q => k q.1 q.2
theorem bnd_at {α β γ : Type} {x : Option (α × β)} {k : α → β → Option γ} {v : γ} (h : bnd x k = some v) : ∃ a b, x = some (a, b) ∧ k a b = some v := by
  cases x with
  | none => cases h
  | some q => exact ⟨q.1, q.2, rfl, h⟩
theorem bnd_some {α β γ : Type} {a : α} {b : β} {k : α → β → Option γ} : bnd (some (a, b)) k = k a b := rfl
def bne {α β γ : Type} (x : Option (α ⊕ β)) (f : α → Option γ) (g : β → Option γ) : Option γ := match x with
  | none => none
  | some (.inl a) => f a
  | some (.inr b) => g b
theorem bne_at {α β γ : Type} {x : Option (α ⊕ β)} {f : α → Option γ} {g : β → Option γ} {v : γ} (h : bne x f g = some v) : ∃ q, x = some q ∧ (∀ a, q = .inl a → f a = some v) ∧ ∀ b, q = .inr b → g b = some v := by
  cases x with
  | none => cases h
  | some q =>
    refine ⟨q, rfl, ?_, ?_⟩
    · intro a e; subst e; exact h
    · intro b e; subst e; exact h
theorem ck_at {c : Prop} [Decidable c] {α : Type} {x : Option α} {v : α} (h : (if c then none else x) = some v) : ¬ c ∧ x = some v := by
  by_cases hc : c
  · rw [if_pos hc] at h; cases h
  · rw [if_neg hc] at h; exact ⟨hc, h⟩
theorem it_at {c : Prop} [Decidable c] {α : Type} {x y v : α} (hc : c) (h : (if c then x else y) = v) : x = v := by rw [if_pos hc] at h; exact h
theorem if_at {c : Prop} [Decidable c] {α : Type} {x y v : α} (hc : ¬ c) (h : (if c then x else y) = v) : y = v := by rw [if_neg hc] at h; exact h
/-- n passes of a loop's body: it goes on with inl, it ends with inr -/
def wh {S E : Type} (step : S → Option (S ⊕ E)) : Nat → S → Option E
  | 0, _ => none
  | n + 1, s => bne (step s) (wh step n) some
theorem wh_more {S E : Type} {step : S → Option (S ⊕ E)} : ∀ (n : Nat) {s : S} {e : E}, wh step n s = some e → ∀ k, wh step (n + k) s = some e := by
  intro n
  induction n with
  | zero => intro s e h; cases h
  | succ n ih =>
    intro s e h k
    rw [show n + 1 + k = (n + k) + 1 by omega]
    obtain ⟨q, h1, h2, h3⟩ := bne_at (x := step s) h
    show bne (step s) (wh step (n + k)) some = some e
    rw [h1]
    cases q with
    | inl s' => exact ih (h2 s' rfl) k
    | inr e' => exact h3 e' rfl
theorem wh_one {S E : Type} {step : S → Option (S ⊕ E)} {n m : Nat} {s : S} {a b : E} (h1 : wh step n s = some a) (h2 : wh step m s = some b) : a = b := by
  have q1 := wh_more n h1 m
  have q2 := wh_more m h2 n
  rw [Nat.add_comm m n] at q2
  exact Option.some.inj (q1.symm.trans q2)
/-- a loop: as many passes as it needs -/
noncomputable def wl {S E : Type} (step : S → Option (S ⊕ E)) (s : S) : Option E := @dite _ (∃ e, ∃ n, wh step n s = some e) (Classical.propDecidable _) (fun h => some (Classical.choose h)) (fun _ => none)
theorem wl_iff {S E : Type} {step : S → Option (S ⊕ E)} {s : S} {e : E} : wl step s = some e ↔ ∃ n, wh step n s = some e := by
  unfold wl
  by_cases h : ∃ e, ∃ n, wh step n s = some e
  · rw [dif_pos h]
    obtain ⟨n, hn⟩ := Classical.choose_spec h
    constructor
    · intro q; cases q; exact ⟨n, hn⟩
    · rintro ⟨m, hm⟩; rw [wh_one hn hm]
  · rw [dif_neg h]
    constructor
    · intro q; cases q
    · rintro ⟨m, hm⟩; exact absurd ⟨e, m, hm⟩ h
theorem wl_in {S E : Type} {step : S → Option (S ⊕ E)} {s s' : S} (h : step s = some (.inl s')) : wl step s = wl step s' := by
  have key : ∀ e, wl step s = some e ↔ wl step s' = some e := by
    intro e
    rw [wl_iff, wl_iff]
    constructor
    · rintro ⟨n, hn⟩
      cases n with
      | zero => cases hn
      | succ n => refine ⟨n, ?_⟩; have := hn; unfold wh at this; rw [h] at this; exact this
    · rintro ⟨n, hn⟩
      refine ⟨n + 1, ?_⟩
      show bne (step s) (wh step n) some = some e
      rw [h]; exact hn
  cases hx : wl step s' with
  | none =>
    cases hy : wl step s with
    | none => rfl
    | some e => rw [(key e).mp hy] at hx; cases hx
  | some e => exact (key e).mpr hx
theorem wl_out {S E : Type} {step : S → Option (S ⊕ E)} {s : S} {e : E} (h : step s = some (.inr e)) : wl step s = some e := wl_iff.mpr ⟨1, by show bne (step s) _ some = some e; rw [h]; rfl⟩
/-- what one pass of a loop that ends says -/
theorem wh_at {S E : Type} {step : S → Option (S ⊕ E)} {n : Nat} {s : S} {e : E} (h : wh step (n + 1) s = some e) : ∃ q, step s = some q ∧ (∀ s', q = .inl s' → wh step n s' = some e) ∧ ∀ e', q = .inr e' → e' = e := by
  obtain ⟨q, h1, h2, h3⟩ := bne_at (x := step s) h
  exact ⟨q, h1, h2, fun e' he => Option.some.inj (h3 e' he)⟩

/-! WORDS OF THE TABLES: every method has the law's words -/
noncomputable def wsA : List Cond := lw_tbl.filter goodWord
theorem wA {w : Cond} (i : Nat) (h : lw_tbl[i]? = some w) (hg : goodWord w = true) : w ∈ wsA := List.mem_filter.mpr ⟨List.mem_of_getElem? h, hg⟩
theorem wA_in : ∀ w ∈ wsA, w ∈ lw_tbl := fun _ h => (List.mem_filter.mp h).1
theorem ws_good : ∀ w ∈ wsA, goodWord w = true := fun _ h => (List.mem_filter.mp h).2
abbrev wz (y : MethodName) (cc : ByteArray) (maxL : Nat) (ret : Option FieldType) : List Cond := .code y cc maxL ret :: wsA
theorem wz_good {y : MethodName} {cc : ByteArray} {maxL : Nat} {ret : Option FieldType} (h : Cond.code y cc maxL ret ∈ wsA) : GoodIn wsA (wz y cc maxL ret) := by
  have hg := ws_good
  intro w hw
  have hm : w ∈ wsA := by
    rcases List.mem_cons.mp hw with q | q
    · rw [q]; exact h
    · exact q
  exact ⟨hm, good_of_word (hg w hm)⟩
theorem wz_V {y : MethodName} {cc : ByteArray} {maxL : Nat} {ret : Option FieldType} {own C : String} {idx : Nat} (h1 : Cond.methodLink own idx y ∈ wsA) (h2 : Cond.instanceMethod y ∈ wsA) (h3 : Cond.selects C y y ∈ wsA) (h4 : Cond.initialized C ∈ wsA) (h : Cond.code y cc maxL ret ∈ wsA) : GoodIn wsA (wsV own idx C y (wz y cc maxL ret)) := by
  have hg := ws_good
  intro w hw
  have hm : w ∈ wsA := by
    unfold wsV at hw
    rcases List.mem_append.mp hw with q | q
    · simp only [List.mem_cons, List.not_mem_nil, or_false] at q
      rcases q with q | q | q | q <;> rw [q] <;> assumption
    · exact (wz_good h w q).1
  exact ⟨hm, good_of_word (hg w hm)⟩
theorem wz_S {y : MethodName} {cc : ByteArray} {maxL : Nat} {ret : Option FieldType} {own : String} {idx : Nat} (h1 : Cond.methodLink own idx y ∈ wsA) (h2 : Cond.static y ∈ wsA) (h4 : Cond.initialized y.cls ∈ wsA) (h : Cond.code y cc maxL ret ∈ wsA) : GoodIn wsA (va_wsS own idx y (wz y cc maxL ret)) := by
  have hg := ws_good
  intro w hw
  have hm : w ∈ wsA := by
    unfold va_wsS at hw
    rcases List.mem_append.mp hw with q | q
    · simp only [List.mem_cons, List.not_mem_nil, or_false] at q
      rcases q with q | q | q <;> rw [q] <;> assumption
    · exact (wz_good h w q).1
  exact ⟨hm, good_of_word (hg w hm)⟩
/-- what every call of a method needs of the tables -/
def myV (y : MethodName) (C : String) (cc : ByteArray) (maxL : Nat) (ret : Option FieldType) (n : Nat) : Prop :=
  Cond.instanceMethod y ∈ wsA ∧ Cond.selects C y y ∈ wsA ∧ Cond.initialized C ∈ wsA ∧ Cond.code y cc maxL ret ∈ wsA ∧ (y.cls = C ∧ y.cls ≠ "java/lang/invoke/MethodHandle" ∧ y.cls ≠ "java/lang/invoke/VarHandle" ∧ (parseMethodDescriptor y.desc).map (fun d => d.parameters.length) = some n)
def myS (y : MethodName) (cc : ByteArray) (maxL : Nat) (ret : Option FieldType) (n : Nat) : Prop :=
  Cond.static y ∈ wsA ∧ Cond.initialized y.cls ∈ wsA ∧ Cond.code y cc maxL ret ∈ wsA ∧ (y.cls ≠ "java/lang/invoke/MethodHandle" ∧ y.cls ≠ "java/lang/invoke/VarHandle" ∧ (parseMethodDescriptor y.desc).map (fun d => d.parameters.length) = some n)

/-! WHAT STANDS BESIDE THE CELLS: classes, nest mates, the texts -/
def nst (U : State) : Prop := va_Nw (.methodLinkNest RX4 118 yX6_within RX6) U ∧ va_Nw (.methodLinkNest RX5 55 yX6_within RX6) U ∧ va_Nw (.methodLinkNest RX0 64 yX6_isSooner RX6) U ∧ va_Nw (.methodLinkNest RX2 61 yX6_within RX6) U ∧ va_Nw (.methodLinkNest RX6 24 yX3_init RX6) U ∧ va_Nw (.methodLinkNest RX6 70 yX1_init RX6) U
theorem nst.warm {s U : State} (hW : s.WarmedH U.vm) (h : nst s) : nst U := ⟨va_Nw.warmM hW h.1, va_Nw.warmM hW h.2.1, va_Nw.warmM hW h.2.2.1, va_Nw.warmM hW h.2.2.2.1, va_Nw.warmM hW h.2.2.2.2.1, va_Nw.warmM hW h.2.2.2.2.2⟩
theorem nst.same {u U : State} (e : u.vm = U.vm) (h : nst u) : nst U := ⟨va_Nw.same rfl e h.1, va_Nw.same rfl e h.2.1, va_Nw.same rfl e h.2.2.1, va_Nw.same rfl e h.2.2.2.1, va_Nw.same rfl e h.2.2.2.2.1, va_Nw.same rfl e h.2.2.2.2.2⟩
/-- the texts: their place in the class, in the reference, their bytes -/
abbrev tx_all : List (Nat × Nat × String × List Int32) := [(39, 142, "round", [114, 111, 117, 110, 100]), (48, 144, "near", [110, 101, 97, 114]), (53, 146, "tool", [116, 111, 111, 108]), (58, 151, "order", [111, 114, 100, 101, 114]), (97, 126, "wait", [119, 97, 105, 116]), (106, 134, "due", [100, 117, 101]), (112, 140, "worth", [119, 111, 114, 116, 104]), (141, 111, "soon", [115, 111, 111, 110]), (143, 113, "rounded", [114, 111, 117, 110, 100, 101, 100]), (145, 115, "batch", [98, 97, 116, 99, 104]), (147, 117, "walked", [119, 97, 108, 107, 101, 100]), (149, 119, "best", [98, 101, 115, 116]), (151, 121, "late", [108, 97, 116, 101]), (153, 109, "plan", [112, 108, 97, 110])]
abbrev tx_at (i : Nat) : Nat × Nat × String × List Int32 := tx_all.getD i (0, 0, "", [])
def tx_len (i : Nat) : Nat := (tx_at i).2.2.2.length
def tx_byt (i j : Nat) : Int32 := (tx_at i).2.2.2.getD j 0
def txs (adK adV : Nat → Nat) (A : Nat → Prop) (U : State) (H : Heap) : Prop :=
  (∀ i : Nat, i < 14 → va_O "java/lang/String" (adK i) A U H ∧ va_OF "java/lang/String" "coder" "B" (.int 0) (adK i) A U H ∧ va_OF "java/lang/String" "value" "[B" (.ref (adV i)) (adK i) A U H ∧ va_T .byte (adV i) (tx_len i) (fun j => .int (tx_byt i j)) A U H) ∧
  (∀ i : Nat, i < 14 → vk_R RX4 (tx_at i).1 (tx_at i).2.2.1 (adK i) U ∧ vk_R RX7 (tx_at i).2.1 (tx_at i).2.2.1 (adK i) U) ∧
  va_Z "java/lang/String" "COMPACT_STRINGS" "Z" (.int 1) A U H ∧ va_Zq "jdk/internal/util/Preconditions" "SIOOBE_FORMATTER" "Ljava/util/function/BiFunction;" A U H
theorem txs.warm {adK adV : Nat → Nat} {A : Nat → Prop} {s U : State} {H : Heap} (hW : s.WarmedH U.vm) (h : txs adK adV A s H) : txs adK adV A U H :=
  ⟨fun i hi => ⟨va_O.moved hW.alike (h.1 i hi).1, va_OF.moved hW.alike (h.1 i hi).2.1, va_OF.moved hW.alike (h.1 i hi).2.2.1, va_T.moved hW.alike (h.1 i hi).2.2.2⟩, fun i hi => ⟨vk_R.warm hW (h.2.1 i hi).1, vk_R.warm hW (h.2.1 i hi).2⟩, va_Z.moved hW.alike h.2.2.1, va_Zq.moved hW.alike h.2.2.2⟩
theorem txs.same {adK adV : Nat → Nat} {A : Nat → Prop} {s U : State} {H : Heap} (e : s.vm = U.vm) (h : txs adK adV A s H) : txs adK adV A U H := by
  have hv : s.vm.Alike U.vm := by rw [e]; exact Vm.Alike.refl U.vm
  exact ⟨fun i hi => ⟨va_O.moved hv (h.1 i hi).1, va_OF.moved hv (h.1 i hi).2.1, va_OF.moved hv (h.1 i hi).2.2.1, va_T.moved hv (h.1 i hi).2.2.2⟩, fun i hi => ⟨vk_R.same e.symm (h.2.1 i hi).1, vk_R.same e.symm (h.2.1 i hi).2⟩, va_Z.moved hv h.2.2.1, va_Zq.moved hv h.2.2.2⟩
theorem txs.kept {adK adV : Nat → Nat} {A : Nat → Prop} {U : State} {H H1 : Heap} (hq : ∀ a : Nat, a < H.size → ¬ A a → H1[a]? = H[a]?) (h : txs adK adV A U H) : txs adK adV A U H1 :=
  ⟨fun i hi => ⟨(h.1 i hi).1.kept hq, (h.1 i hi).2.1.kept hq, (h.1 i hi).2.2.1.kept hq, (h.1 i hi).2.2.2.kept hq⟩, h.2.1, h.2.2.1.kept hq, h.2.2.2.kept hq⟩
theorem txs.narrow {adK adV : Nat → Nat} {A B : Nat → Prop} {U : State} {H : Heap} (hAB : ∀ q, B q → A q) (h : txs adK adV A U H) : txs adK adV B U H :=
  ⟨fun i hi => ⟨(h.1 i hi).1.narrow hAB, (h.1 i hi).2.1.narrow hAB, (h.1 i hi).2.2.1.narrow hAB, (h.1 i hi).2.2.2.narrow hAB⟩, h.2.1, h.2.2.1.narrow hAB, h.2.2.2.narrow hAB⟩
abbrev tysW (cI cZ cQ : ClassId) : List (ClassId × FieldType) := [(cI, .int), (cZ, .boolean), (cQ, .object "ToolDays$Sheet")]
def kx (D : va_G) (cI cZ cQ : ClassId) (adK adV : Nat → Nat) (A : Nat → Prop) (U : State) (H : Heap) : Prop := va_K D vwCl (tysW cI cZ cQ) U ∧ nst U ∧ txs adK adV A U H
theorem kx.warm {D : va_G} {cI cZ cQ : ClassId} {adK adV : Nat → Nat} {A : Nat → Prop} {s U : State} {H : Heap} (hW : s.WarmedH U.vm) (h : kx D cI cZ cQ adK adV A s H) : kx D cI cZ cQ adK adV A U H := ⟨va_K.moved hW.alike h.1, h.2.1.warm hW, h.2.2.warm hW⟩
theorem kx.same {D : va_G} {cI cZ cQ : ClassId} {adK adV : Nat → Nat} {A : Nat → Prop} {s U : State} {H : Heap} (e : s.vm = U.vm) (h : kx D cI cZ cQ adK adV A s H) : kx D cI cZ cQ adK adV A U H := ⟨va_K.moved (by rw [e]; exact Vm.Alike.refl U.vm) h.1, h.2.1.same e, h.2.2.same e⟩
theorem kx.kept {D : va_G} {cI cZ cQ : ClassId} {adK adV : Nat → Nat} {A : Nat → Prop} {U : State} {H H1 : Heap} (hq : ∀ a : Nat, a < H.size → ¬ A a → H1[a]? = H[a]?) (h : kx D cI cZ cQ adK adV A U H) : kx D cI cZ cQ adK adV A U H1 := ⟨h.1, h.2.1, h.2.2.kept hq⟩
/-- the cells, apart, in A; what has been written since the entry lies in A -/
def wg (D : va_G) (A : Nat → Prop) (H0 H : Heap) (locs : List Loc) (w : va_W) : Prop := va_P D vwCl w H ∧ va_D A w ∧ va_S A H0 H locs
/-- where a method begins -/
def gp (D : va_G) (cI cZ cQ : ClassId) (adK adV : Nat → Nat) (A : Nat → Prop) (w : va_W) (U : State) : Prop := va_P D vwCl w U.heap ∧ va_D A w ∧ kx D cI cZ cQ adK adV A U U.heap
/-- where it ends -/
def ge {S : Type} (D : va_G) (A : Nat → Prop) (w : S → va_W) (u : S) (t : State) : Prop := va_P D vwCl (w u) t.heap ∧ va_D A (w u)
abbrev MI {S : Type} (l : Launch) (D : va_G) (cI cZ cQ : ClassId) (adK adV : Nat → Nat) (A : Nat → Prop) (y : MethodName) (cc : ByteArray) (maxL : Nat) (ret : Option FieldType) (rm : Room) (av : List Value) (w : S → va_W) (u : S) (r : Int32) (u' : S) : Prop :=
  Met l y (wz y cc maxL ret) rm (va_Pc av (gp D cI cZ cQ adK adV A (w u))) (va_Qi (fun q v => q = r ∧ v = u') (ge D A w) A) 0 0 A
abbrev MV {S : Type} (l : Launch) (D : va_G) (cI cZ cQ : ClassId) (adK adV : Nat → Nat) (A : Nat → Prop) (y : MethodName) (cc : ByteArray) (maxL : Nat) (rm : Room) (av : List Value) (w : S → va_W) (u : S) (u' : S) : Prop :=
  Met l y (wz y cc maxL none) rm (va_Pc av (gp D cI cZ cQ adK adV A (w u))) (va_Qv (fun v => v = u') (ge D A w) A) 0 0 A
/-- the method at hand -/
def cx (p : Program) (s : State) (m : MethodId) (args : Array Value) (meth : Method) (c : Code) (cc : ByteArray) (nL : Nat) (own : String) (ret : Option FieldType) : Prop :=
  p.tables.exec = Jvm.exec ∧ c.code = cc ∧ c.maxLocals = nL ∧ s.vm.findClass own = some m.cls ∧ (∀ w ∈ wsA, w.before args s = true) ∧ meth.sig.returnType = ret ∧ meth.locks = false
theorem gp_blind {D : va_G} {cI cZ cQ : ClassId} {adK adV : Nat → Nat} {A : Nat → Prop} {w : va_W} {av : List Value} : FrameBlind (va_Pc av (gp D cI cZ cQ adK adV A w)) := fun a U g mk q => ⟨q.1, q.2.1, q.2.2.1, q.2.2.2.same (U := U.calling g mk a) rfl⟩
theorem gp_of {D : va_G} {cI cZ cQ : ClassId} {adK adV : Nat → Nat} {A : Nat → Prop} {w : va_W} {s : State} {H : Heap} {locs : List Loc} (K : kx D cI cZ cQ adK adV A s s.heap) (G : wg D A s.heap H locs w) {U : State} (hU : U.heap = H) (hW : s.WarmedH U.vm) : gp D cI cZ cQ adK adV A w U := by
  refine ⟨by rw [hU]; exact G.1, G.2.1, ?_⟩
  rw [hU]
  exact (K.kept (fun a h1 h2 => G.2.2.2.1 a h1 h2)).warm hW
section CALLS
variable {p : Program} {l : Launch} {e : Env} {R : Room} {s : State} {m : MethodId} {args : Array Value} {below : List Frame} {meth : Method} {c : Code} {H : Heap} {locs : List Loc} {cells slots : Nat} {Q : State → Prop} {cc : ByteArray} {nL : Nat} {own : String} {ret0 : Option FieldType} {D : va_G} {cI cZ cQ : ClassId} {adK adV : Nat → Nat} {A : Nat → Prop} {S : Type} {w : S → va_W} {u u' : S} {r : Int32} {y : MethodName} {bytes : ByteArray} {maxL n index : Nat} {ret : Option FieldType} {rm : Room} {As st rest : List Value} {b pc : Nat} {ls : Array Slot} {C : String}
/-- a call of an object's method that answers an int -/
theorem cvI (X : cx p s m args meth c cc nL own ret0) (K : kx D cI cZ cQ adK adV A s s.heap) (G : wg D A s.heap H locs (w u)) (hM : MI l D cI cZ cQ adK adV A y bytes maxL ret rm (.ref b :: As) w u r u') (hml : Cond.methodLink own index y ∈ wsA) (hmy : myV y C bytes maxL ret n) (hrm : rm.cells = 0 ∧ rm.slots = 0) (hR : rm.frames + 1 ≤ R.frames ∧ 8 + (maxL + 11) + rm.locals ≤ R.locals) (hcs : cells ≤ R.cells ∧ slots ≤ R.slots) (q0 ci : Nat) {fs : List Value} {q : vw_C} (he : (w u)[q0]? = some (b, .inr (ci, fs))) (hc : vwCl[ci]? = some q) (hq : q.1 = C) (hn : As.length = n) (hls : ls.size = nL) (hst : st = As.reverse ++ .ref b :: rest) (hW : (rest.map fun v => v.category).sum ≤ 8) (hdg : decode cc pc = .ok (.invokevirtual index, 3))
    (kk : ∀ (H1 : Heap) (locs1 : List Loc), wg D A s.heap H1 locs1 (w u') → W p l e R s m args below meth c H1 locs1 cells slots Q (F0 m (pc + 3) ls (.int r :: rest))) : W p l e R s m args below meth c H locs cells slots Q (F0 m pc ls st) := by
  obtain ⟨hx, hb, hmx, hown, hts, hr, hlocks⟩ := X
  obtain ⟨y1, y2, y3, y4, y5⟩ := hmy
  subst hq
  refine va_calli (va_runV (As := As) (rest := rest) (Ts := wsA) ⟨hx, hb, hmx, hown, hts⟩ hM (cwV n hts (wz_V hml y1 y2 y3 y4) rfl hrm.1 hrm.2 y5 hR) ⟨gp_blind, va_recv K.1 G.1 hc he, fun U hU hW => ⟨rfl, gp_of K G hU hW⟩⟩ rfl hn hls hst (lv_room hW) hdg hcs) G.2.2 (fun _ _ h => h) (fun _ h => h) (fun r1 u1 t H1 locs1 ht hvm hw hB hz1 hk1 hS => ?_)
  obtain ⟨rfl, rfl⟩ := hw
  exact kk H1 locs1 ⟨by rw [← ht]; exact hB.1, hB.2, hS⟩
theorem cvV (X : cx p s m args meth c cc nL own ret0) (K : kx D cI cZ cQ adK adV A s s.heap) (G : wg D A s.heap H locs (w u)) (hM : MV l D cI cZ cQ adK adV A y bytes maxL rm (.ref b :: As) w u u') (hml : Cond.methodLink own index y ∈ wsA) (hmy : myV y C bytes maxL none n) (hrm : rm.cells = 0 ∧ rm.slots = 0) (hR : rm.frames + 1 ≤ R.frames ∧ 8 + (maxL + 11) + rm.locals ≤ R.locals) (hcs : cells ≤ R.cells ∧ slots ≤ R.slots) (q0 ci : Nat) {fs : List Value} {q : vw_C} (he : (w u)[q0]? = some (b, .inr (ci, fs))) (hc : vwCl[ci]? = some q) (hq : q.1 = C) (hn : As.length = n) (hls : ls.size = nL) (hst : st = As.reverse ++ .ref b :: rest) (hW : (rest.map fun v => v.category).sum ≤ 8) (hdg : decode cc pc = .ok (.invokevirtual index, 3))
    (kk : ∀ (H1 : Heap) (locs1 : List Loc), wg D A s.heap H1 locs1 (w u') → W p l e R s m args below meth c H1 locs1 cells slots Q (F0 m (pc + 3) ls rest)) : W p l e R s m args below meth c H locs cells slots Q (F0 m pc ls st) := by
  obtain ⟨hx, hb, hmx, hown, hts, hr, hlocks⟩ := X
  obtain ⟨y1, y2, y3, y4, y5⟩ := hmy
  subst hq
  refine va_callv (va_runV (As := As) (rest := rest) (Ts := wsA) ⟨hx, hb, hmx, hown, hts⟩ hM (cwV n hts (wz_V hml y1 y2 y3 y4) rfl hrm.1 hrm.2 y5 hR) ⟨gp_blind, va_recv K.1 G.1 hc he, fun U hU hW => ⟨rfl, gp_of K G hU hW⟩⟩ rfl hn hls hst (lv_room hW) hdg hcs) G.2.2 (fun _ _ h => h) (fun _ h => h) (fun u1 t H1 locs1 ht hvm hw hB hz1 hk1 hS => ?_)
  subst hw
  exact kk H1 locs1 ⟨by rw [← ht]; exact hB.1, hB.2, hS⟩
/-- a call of a static method that answers an int -/
theorem csI (X : cx p s m args meth c cc nL own ret0) (K : kx D cI cZ cQ adK adV A s s.heap) (G : wg D A s.heap H locs (w u)) (hM : MI l D cI cZ cQ adK adV A y bytes maxL ret rm As w u r u') (hml : Cond.methodLink own index y ∈ wsA) (hmy : myS y bytes maxL ret n) (hrm : rm.cells = 0 ∧ rm.slots = 0) (hR : rm.frames + 1 ≤ R.frames ∧ 8 + (maxL + 11) + rm.locals ≤ R.locals) (hcs : cells ≤ R.cells ∧ slots ≤ R.slots) (hn : As.length = n) (hls : ls.size = nL) (hst : st = As.reverse ++ rest) (hW : (rest.map fun v => v.category).sum ≤ 8) (hdg : decode cc pc = .ok (.invokestatic index, 3))
    (kk : ∀ (H1 : Heap) (locs1 : List Loc), wg D A s.heap H1 locs1 (w u') → W p l e R s m args below meth c H1 locs1 cells slots Q (F0 m (pc + 3) ls (.int r :: rest))) : W p l e R s m args below meth c H locs cells slots Q (F0 m pc ls st) := by
  obtain ⟨hx, hb, hmx, hown, hts, hr, hlocks⟩ := X
  obtain ⟨y1, y3, y4, y5⟩ := hmy
  refine va_calli (va_runS (As := As) (rest := rest) (Ts := wsA) ⟨hx, hb, hmx, hown, hts⟩ hM ⟨callB_of n hts (wz_good y4) rfl hrm.1 hrm.2 (hts _ y3) (hts _ hml) y5 hR, hts _ y1⟩ ⟨gp_blind, fun U hU hW => ⟨rfl, gp_of K G hU hW⟩⟩ rfl hn hls hst (lv_room hW) hdg hcs) G.2.2 (fun _ _ h => h) (fun _ h => h) (fun r1 u1 t H1 locs1 ht hvm hw hB hz1 hk1 hS => ?_)
  obtain ⟨rfl, rfl⟩ := hw
  exact kk H1 locs1 ⟨by rw [← ht]; exact hB.1, hB.2, hS⟩
/-- the same of a nest mate -/
theorem cnI {host : String} (X : cx p s m args meth c cc nL own ret0) (K : kx D cI cZ cQ adK adV A s s.heap) (G : wg D A s.heap H locs (w u)) (hM : MI l D cI cZ cQ adK adV A y bytes maxL ret rm As w u r u') (hml : va_Nw (.methodLinkNest own index y host) s) (hmy : myS y bytes maxL ret n) (hrm : rm.cells = 0 ∧ rm.slots = 0) (hR : rm.frames + 1 ≤ R.frames ∧ 8 + (maxL + 11) + rm.locals ≤ R.locals) (hcs : cells ≤ R.cells ∧ slots ≤ R.slots) (hn : As.length = n) (hls : ls.size = nL) (hst : st = As.reverse ++ rest) (hW : (rest.map fun v => v.category).sum ≤ 8) (hdg : decode cc pc = .ok (.invokestatic index, 3))
    (kk : ∀ (H1 : Heap) (locs1 : List Loc), wg D A s.heap H1 locs1 (w u') → W p l e R s m args below meth c H1 locs1 cells slots Q (F0 m (pc + 3) ls (.int r :: rest))) : W p l e R s m args below meth c H locs cells slots Q (F0 m pc ls st) := by
  obtain ⟨hx, hb, hmx, hown, hts, hr, hlocks⟩ := X
  obtain ⟨y1, y3, y4, y5⟩ := hmy
  refine va_calli (va_runSN (As := As) (rest := rest) (Ts := wsA) ⟨hx, hb, hmx, hown, hts⟩ hM ⟨va_cnB n hts (wz_good y4) rfl hrm.1 hrm.2 hml (hts _ y3) y5 hR, hts _ y1, trivial⟩ ⟨gp_blind, fun U hU hW => ⟨rfl, gp_of K G hU hW⟩⟩ rfl hn hls hst (lv_room hW) hdg hcs) G.2.2 (fun _ _ h => h) (fun _ h => h) (fun r1 u1 t H1 locs1 ht hvm hw hB hz1 hk1 hS => ?_)
  obtain ⟨rfl, rfl⟩ := hw
  exact kk H1 locs1 ⟨by rw [← ht]; exact hB.1, hB.2, hS⟩
/-- where a method that answers an int ends -/
abbrev qI (D : va_G) (A : Nat → Prop) (w : S → va_W) (below : List Frame) (args : Array Value) (s : State) (r : Int32) (u : S) : State → Prop := MQ below (va_Qi (fun q v => q = r ∧ v = u) (ge D A w) A) args s 0 0 A
abbrev qV (D : va_G) (A : Nat → Prop) (w : S → va_W) (below : List Frame) (args : Array Value) (s : State) (u : S) : State → Prop := MQ below (va_Qv (fun v => v = u) (ge D A w) A) args s 0 0 A
theorem reI (X : cx p s m args meth c cc nL own (some .int)) (G : wg D A s.heap H locs (w u)) (hdg : decode cc pc = .ok (.ireturn, 1)) : W p l e R s m args below meth c H locs 0 0 (qI D A w below args s r u) (F0 m pc ls [.int r]) := by
  obtain ⟨hx, hb, hmx, hown, hts, hr, hlocks⟩ := X
  exact W.iret (v := r) hx hb hr (fun t ht hW => ⟨⟨r, u, rfl, ⟨rfl, rfl⟩, by rw [ht]; exact G.1, G.2.1⟩, G.2.2.F ht⟩) G.2.2.2.2 hdg hlocks
theorem reZ (X : cx p s m args meth c cc nL own (some .boolean)) (G : wg D A s.heap H locs (w u)) (hz : r = 0 ∨ r = 1) (hdg : decode cc pc = .ok (.ireturn, 1)) : W p l e R s m args below meth c H locs 0 0 (qI D A w below args s r u) (F0 m pc ls [.int r]) := by
  obtain ⟨hx, hb, hmx, hown, hts, hr, hlocks⟩ := X
  exact W.zret (v := r) (ty := .boolean) hx hb hr (by rcases hz with rfl | rfl <;> rfl) (fun t ht hW => ⟨⟨r, u, rfl, ⟨rfl, rfl⟩, by rw [ht]; exact G.1, G.2.1⟩, G.2.2.F ht⟩) G.2.2.2.2 hdg hlocks
theorem reV (X : cx p s m args meth c cc nL own none) (G : wg D A s.heap H locs (w u)) (hdg : decode cc pc = .ok (.return_, 1)) : W p l e R s m args below meth c H locs 0 0 (qV D A w below args s u) (F0 m pc ls []) := by
  obtain ⟨hx, hb, hmx, hown, hts, hr, hlocks⟩ := X
  exact W.vret hx hb hr (fun t ht hW => ⟨⟨u, rfl, rfl, by rw [ht]; exact G.1, G.2.1⟩, G.2.2.F ht⟩) G.2.2.2.2 hdg hlocks
/-- a switch's way: x is the place k of its table -/
theorem tswI {dflt lo hi : Int} {offs : Array Int} {len : Nat} {x : Int32} {off : Int} {tgt : Nat} (X : cx p s m args meth c cc nL own ret0) (k : Int32) (hk : x = k) (hdg : decode cc pc = .ok (.tableswitch dflt lo hi offs, len)) (hd : ¬ k.toInt < lo ∧ ¬ hi < k.toInt ∧ offs[(k.toInt - lo).toNat]? = some off ∧ (pc : Int) + off = (tgt : Int))
    (kk : W p l e R s m args below meth c H locs cells slots Q (F0 m tgt ls rest)) : W p l e R s m args below meth c H locs cells slots Q (F0 m pc ls (.int x :: rest)) := by
  subst hk
  exact lv_tableIn X.1 X.2.1 hdg hd.1 hd.2.1 hd.2.2.1 hd.2.2.2 kk
theorem tswO {dflt lo hi : Int} {offs : Array Int} {len : Nat} {x : Int32} {tgt : Nat} (X : cx p s m args meth c cc nL own ret0) (hk : x.toInt < lo ∨ hi < x.toInt) (hdg : decode cc pc = .ok (.tableswitch dflt lo hi offs, len)) (ht : (pc : Int) + dflt = (tgt : Int))
    (kk : W p l e R s m args below meth c H locs cells slots Q (F0 m tgt ls rest)) : W p l e R s m args below meth c H locs cells slots Q (F0 m pc ls (.int x :: rest)) := lv_tableOut X.1 X.2.1 hdg hk ht kk
end CALLS
end
