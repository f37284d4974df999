section
-- ===== PART A: goes FIRST, ahead of the names: the tables' words, and 'selects' of the private methods out of them =====
/-- a private method of a class that the tables say can be made, by its rows of tables_1 -/
def lw_okq (q : MethodName × Nat) : Prop := (q.1.cls ≠ "java/lang/invoke/MethodHandle" ∧ q.1.cls ≠ "java/lang/invoke/VarHandle") ∧ Cond.instantiable q.1.cls q.2 ∈ tables_1 ∧ Cond.privateMethod q.1 ∈ tables_1 ∧ Cond.instanceMethod q.1 ∈ tables_1
theorem lw_p0 : lw_okq (⟨"BlockLayout$Program", "begin", "(I)V"⟩, 10) := ⟨⟨by decide +kernel, by decide +kernel⟩, List.mem_of_getElem? (i := 34) (by decide +kernel), List.mem_of_getElem? (i := 310) (by decide +kernel), List.mem_of_getElem? (i := 311) (by decide +kernel)⟩
theorem lw_p1 : lw_okq (⟨"BlockLayout$Program", "forgetProfile", "()V"⟩, 10) := ⟨⟨by decide +kernel, by decide +kernel⟩, List.mem_of_getElem? (i := 34) (by decide +kernel), List.mem_of_getElem? (i := 314) (by decide +kernel), List.mem_of_getElem? (i := 315) (by decide +kernel)⟩
theorem lw_p2 : lw_okq (⟨"BlockLayout$Plan", "begin", "(I)V"⟩, 3) := ⟨⟨by decide +kernel, by decide +kernel⟩, List.mem_of_getElem? (i := 99) (by decide +kernel), List.mem_of_getElem? (i := 318) (by decide +kernel), List.mem_of_getElem? (i := 319) (by decide +kernel)⟩
theorem lw_p3 : lw_okq (⟨"BlockLayout$Program", "sumOfCounts", "()I"⟩, 10) := ⟨⟨by decide +kernel, by decide +kernel⟩, List.mem_of_getElem? (i := 34) (by decide +kernel), List.mem_of_getElem? (i := 355) (by decide +kernel), List.mem_of_getElem? (i := 356) (by decide +kernel)⟩
theorem lw_p4 : lw_okq (⟨"BlockLayout", "cyclesAligned", "(I)I"⟩, 8) := ⟨⟨by decide +kernel, by decide +kernel⟩, List.mem_of_getElem? (i := 26) (by decide +kernel), List.mem_of_getElem? (i := 364) (by decide +kernel), List.mem_of_getElem? (i := 365) (by decide +kernel)⟩
theorem lw_p5 : lw_okq (⟨"BlockLayout$Placement", "settle", "(II)V"⟩, 11) := ⟨⟨by decide +kernel, by decide +kernel⟩, List.mem_of_getElem? (i := 125) (by decide +kernel), List.mem_of_getElem? (i := 368) (by decide +kernel), List.mem_of_getElem? (i := 369) (by decide +kernel)⟩
theorem lw_p6 : lw_okq (⟨"BlockLayout$Placement", "findForms", "()V"⟩, 11) := ⟨⟨by decide +kernel, by decide +kernel⟩, List.mem_of_getElem? (i := 125) (by decide +kernel), List.mem_of_getElem? (i := 372) (by decide +kernel), List.mem_of_getElem? (i := 373) (by decide +kernel)⟩
theorem lw_p7 : lw_okq (⟨"BlockLayout$Placement", "formOf", "(II)I"⟩, 11) := ⟨⟨by decide +kernel, by decide +kernel⟩, List.mem_of_getElem? (i := 125) (by decide +kernel), List.mem_of_getElem? (i := 376) (by decide +kernel), List.mem_of_getElem? (i := 377) (by decide +kernel)⟩
theorem lw_p8 : lw_okq (⟨"BlockLayout$Placement", "hasBranch", "(I)Z"⟩, 11) := ⟨⟨by decide +kernel, by decide +kernel⟩, List.mem_of_getElem? (i := 125) (by decide +kernel), List.mem_of_getElem? (i := 380) (by decide +kernel), List.mem_of_getElem? (i := 381) (by decide +kernel)⟩
theorem lw_p9 : lw_okq (⟨"BlockLayout$Placement", "hasJump", "(I)Z"⟩, 11) := ⟨⟨by decide +kernel, by decide +kernel⟩, List.mem_of_getElem? (i := 125) (by decide +kernel), List.mem_of_getElem? (i := 384) (by decide +kernel), List.mem_of_getElem? (i := 385) (by decide +kernel)⟩
theorem lw_p10 : lw_okq (⟨"BlockLayout$Placement", "setAddresses", "(II)V"⟩, 11) := ⟨⟨by decide +kernel, by decide +kernel⟩, List.mem_of_getElem? (i := 125) (by decide +kernel), List.mem_of_getElem? (i := 388) (by decide +kernel), List.mem_of_getElem? (i := 389) (by decide +kernel)⟩
theorem lw_p11 : lw_okq (⟨"BlockLayout$Program", "isHead", "(I)Z"⟩, 10) := ⟨⟨by decide +kernel, by decide +kernel⟩, List.mem_of_getElem? (i := 34) (by decide +kernel), List.mem_of_getElem? (i := 395) (by decide +kernel), List.mem_of_getElem? (i := 396) (by decide +kernel)⟩
theorem lw_p12 : lw_okq (⟨"BlockLayout$Placement", "bytesOfEnd", "(I)I"⟩, 11) := ⟨⟨by decide +kernel, by decide +kernel⟩, List.mem_of_getElem? (i := 125) (by decide +kernel), List.mem_of_getElem? (i := 402) (by decide +kernel), List.mem_of_getElem? (i := 403) (by decide +kernel)⟩
theorem lw_p13 : lw_okq (⟨"BlockLayout$Placement", "widen", "()Z"⟩, 11) := ⟨⟨by decide +kernel, by decide +kernel⟩, List.mem_of_getElem? (i := 125) (by decide +kernel), List.mem_of_getElem? (i := 406) (by decide +kernel), List.mem_of_getElem? (i := 407) (by decide +kernel)⟩
theorem lw_p14 : lw_okq (⟨"BlockLayout$Placement", "branchTarget", "(I)I"⟩, 11) := ⟨⟨by decide +kernel, by decide +kernel⟩, List.mem_of_getElem? (i := 125) (by decide +kernel), List.mem_of_getElem? (i := 410) (by decide +kernel), List.mem_of_getElem? (i := 411) (by decide +kernel)⟩
theorem lw_p15 : lw_okq (⟨"BlockLayout$Placement", "isFar", "(II)Z"⟩, 11) := ⟨⟨by decide +kernel, by decide +kernel⟩, List.mem_of_getElem? (i := 125) (by decide +kernel), List.mem_of_getElem? (i := 414) (by decide +kernel), List.mem_of_getElem? (i := 415) (by decide +kernel)⟩
def lw_privs_1 : List (MethodName × Nat) := [(⟨"BlockLayout$Program", "begin", "(I)V"⟩, 10), (⟨"BlockLayout$Program", "forgetProfile", "()V"⟩, 10), (⟨"BlockLayout$Plan", "begin", "(I)V"⟩, 3), (⟨"BlockLayout$Program", "sumOfCounts", "()I"⟩, 10), (⟨"BlockLayout", "cyclesAligned", "(I)I"⟩, 8), (⟨"BlockLayout$Placement", "settle", "(II)V"⟩, 11), (⟨"BlockLayout$Placement", "findForms", "()V"⟩, 11), (⟨"BlockLayout$Placement", "formOf", "(II)I"⟩, 11), (⟨"BlockLayout$Placement", "hasBranch", "(I)Z"⟩, 11), (⟨"BlockLayout$Placement", "hasJump", "(I)Z"⟩, 11), (⟨"BlockLayout$Placement", "setAddresses", "(II)V"⟩, 11), (⟨"BlockLayout$Program", "isHead", "(I)Z"⟩, 10), (⟨"BlockLayout$Placement", "bytesOfEnd", "(I)I"⟩, 11), (⟨"BlockLayout$Placement", "widen", "()Z"⟩, 11), (⟨"BlockLayout$Placement", "branchTarget", "(I)I"⟩, 11), (⟨"BlockLayout$Placement", "isFar", "(II)Z"⟩, 11)]
theorem lw_r1 : ∀ q ∈ lw_privs_1, lw_okq q := List.forall_mem_cons.mpr ⟨lw_p0, List.forall_mem_cons.mpr ⟨lw_p1, List.forall_mem_cons.mpr ⟨lw_p2, List.forall_mem_cons.mpr ⟨lw_p3, List.forall_mem_cons.mpr ⟨lw_p4, List.forall_mem_cons.mpr ⟨lw_p5, List.forall_mem_cons.mpr ⟨lw_p6, List.forall_mem_cons.mpr ⟨lw_p7, List.forall_mem_cons.mpr ⟨lw_p8, List.forall_mem_cons.mpr ⟨lw_p9, List.forall_mem_cons.mpr ⟨lw_p10, List.forall_mem_cons.mpr ⟨lw_p11, List.forall_mem_cons.mpr ⟨lw_p12, List.forall_mem_cons.mpr ⟨lw_p13, List.forall_mem_cons.mpr ⟨lw_p14, List.forall_mem_cons.mpr ⟨lw_p15, fun _ h => absurd h List.not_mem_nil⟩⟩⟩⟩⟩⟩⟩⟩⟩⟩⟩⟩⟩⟩⟩⟩
theorem lw_p16 : lw_okq (⟨"BlockLayout$Program", "has", "(I)Z"⟩, 10) := ⟨⟨by decide +kernel, by decide +kernel⟩, List.mem_of_getElem? (i := 34) (by decide +kernel), List.mem_of_getElem? (i := 418) (by decide +kernel), List.mem_of_getElem? (i := 419) (by decide +kernel)⟩
theorem lw_p17 : lw_okq (⟨"BlockLayout$Placement", "jumpTarget", "(I)I"⟩, 11) := ⟨⟨by decide +kernel, by decide +kernel⟩, List.mem_of_getElem? (i := 125) (by decide +kernel), List.mem_of_getElem? (i := 422) (by decide +kernel), List.mem_of_getElem? (i := 423) (by decide +kernel)⟩
theorem lw_p18 : lw_okq (⟨"BlockLayout$Placement", "cyclesOfProfile", "()I"⟩, 11) := ⟨⟨by decide +kernel, by decide +kernel⟩, List.mem_of_getElem? (i := 125) (by decide +kernel), List.mem_of_getElem? (i := 426) (by decide +kernel), List.mem_of_getElem? (i := 427) (by decide +kernel)⟩
theorem lw_p19 : lw_okq (⟨"BlockLayout$Placement", "sumOfCosts", "(I)I"⟩, 11) := ⟨⟨by decide +kernel, by decide +kernel⟩, List.mem_of_getElem? (i := 125) (by decide +kernel), List.mem_of_getElem? (i := 430) (by decide +kernel), List.mem_of_getElem? (i := 431) (by decide +kernel)⟩
theorem lw_p20 : lw_okq (⟨"BlockLayout$Program", "costOf", "(II)I"⟩, 10) := ⟨⟨by decide +kernel, by decide +kernel⟩, List.mem_of_getElem? (i := 34) (by decide +kernel), List.mem_of_getElem? (i := 434) (by decide +kernel), List.mem_of_getElem? (i := 435) (by decide +kernel)⟩
theorem lw_p21 : lw_okq (⟨"BlockLayout$Program", "edgeCycles", "(III)I"⟩, 10) := ⟨⟨by decide +kernel, by decide +kernel⟩, List.mem_of_getElem? (i := 34) (by decide +kernel), List.mem_of_getElem? (i := 438) (by decide +kernel), List.mem_of_getElem? (i := 439) (by decide +kernel)⟩
theorem lw_p22 : lw_okq (⟨"BlockLayout$Placement", "hasPaddedNext", "(I)Z"⟩, 11) := ⟨⟨by decide +kernel, by decide +kernel⟩, List.mem_of_getElem? (i := 125) (by decide +kernel), List.mem_of_getElem? (i := 442) (by decide +kernel), List.mem_of_getElem? (i := 443) (by decide +kernel)⟩
theorem lw_p23 : lw_okq (⟨"BlockLayout$Program", "weightTo", "(II)I"⟩, 10) := ⟨⟨by decide +kernel, by decide +kernel⟩, List.mem_of_getElem? (i := 34) (by decide +kernel), List.mem_of_getElem? (i := 446) (by decide +kernel), List.mem_of_getElem? (i := 447) (by decide +kernel)⟩
theorem lw_p24 : lw_okq (⟨"java/lang/Throwable", "fillInStackTrace", "(I)Ljava/lang/Throwable;"⟩, 6) := ⟨⟨by decide +kernel, by decide +kernel⟩, List.mem_of_getElem? (i := 504) (by decide +kernel), List.mem_of_getElem? (i := 502) (by decide +kernel), List.mem_of_getElem? (i := 503) (by decide +kernel)⟩
theorem lw_p25 : lw_okq (⟨"BlockLayout$History", "forget", "()V"⟩, 5) := ⟨⟨by decide +kernel, by decide +kernel⟩, List.mem_of_getElem? (i := 245) (by decide +kernel), List.mem_of_getElem? (i := 534) (by decide +kernel), List.mem_of_getElem? (i := 535) (by decide +kernel)⟩
theorem lw_p26 : lw_okq (⟨"BlockLayout", "checkBlock", "(I)V"⟩, 8) := ⟨⟨by decide +kernel, by decide +kernel⟩, List.mem_of_getElem? (i := 26) (by decide +kernel), List.mem_of_getElem? (i := 569) (by decide +kernel), List.mem_of_getElem? (i := 570) (by decide +kernel)⟩
theorem lw_p27 : lw_okq (⟨"BlockLayout$Program", "changeEnd", "(IIIII)I"⟩, 10) := ⟨⟨by decide +kernel, by decide +kernel⟩, List.mem_of_getElem? (i := 34) (by decide +kernel), List.mem_of_getElem? (i := 595) (by decide +kernel), List.mem_of_getElem? (i := 596) (by decide +kernel)⟩
theorem lw_p28 : lw_okq (⟨"BlockLayout$Program", "findHeads", "()V"⟩, 10) := ⟨⟨by decide +kernel, by decide +kernel⟩, List.mem_of_getElem? (i := 34) (by decide +kernel), List.mem_of_getElem? (i := 599) (by decide +kernel), List.mem_of_getElem? (i := 600) (by decide +kernel)⟩
theorem lw_p29 : lw_okq (⟨"BlockLayout$Program", "reachedWithin", "(I)I"⟩, 10) := ⟨⟨by decide +kernel, by decide +kernel⟩, List.mem_of_getElem? (i := 34) (by decide +kernel), List.mem_of_getElem? (i := 604) (by decide +kernel), List.mem_of_getElem? (i := 605) (by decide +kernel)⟩
theorem lw_p30 : lw_okq (⟨"BlockLayout$Program", "targetsOf", "(I)I"⟩, 10) := ⟨⟨by decide +kernel, by decide +kernel⟩, List.mem_of_getElem? (i := 34) (by decide +kernel), List.mem_of_getElem? (i := 608) (by decide +kernel), List.mem_of_getElem? (i := 609) (by decide +kernel)⟩
theorem lw_p31 : lw_okq (⟨"BlockLayout$Program", "anyGoesTo", "(II)Z"⟩, 10) := ⟨⟨by decide +kernel, by decide +kernel⟩, List.mem_of_getElem? (i := 34) (by decide +kernel), List.mem_of_getElem? (i := 612) (by decide +kernel), List.mem_of_getElem? (i := 613) (by decide +kernel)⟩
def lw_privs_2 : List (MethodName × Nat) := [(⟨"BlockLayout$Program", "has", "(I)Z"⟩, 10), (⟨"BlockLayout$Placement", "jumpTarget", "(I)I"⟩, 11), (⟨"BlockLayout$Placement", "cyclesOfProfile", "()I"⟩, 11), (⟨"BlockLayout$Placement", "sumOfCosts", "(I)I"⟩, 11), (⟨"BlockLayout$Program", "costOf", "(II)I"⟩, 10), (⟨"BlockLayout$Program", "edgeCycles", "(III)I"⟩, 10), (⟨"BlockLayout$Placement", "hasPaddedNext", "(I)Z"⟩, 11), (⟨"BlockLayout$Program", "weightTo", "(II)I"⟩, 10), (⟨"java/lang/Throwable", "fillInStackTrace", "(I)Ljava/lang/Throwable;"⟩, 6), (⟨"BlockLayout$History", "forget", "()V"⟩, 5), (⟨"BlockLayout", "checkBlock", "(I)V"⟩, 8), (⟨"BlockLayout$Program", "changeEnd", "(IIIII)I"⟩, 10), (⟨"BlockLayout$Program", "findHeads", "()V"⟩, 10), (⟨"BlockLayout$Program", "reachedWithin", "(I)I"⟩, 10), (⟨"BlockLayout$Program", "targetsOf", "(I)I"⟩, 10), (⟨"BlockLayout$Program", "anyGoesTo", "(II)Z"⟩, 10)]
theorem lw_r2 : ∀ q ∈ lw_privs_2, lw_okq q := List.forall_mem_cons.mpr ⟨lw_p16, List.forall_mem_cons.mpr ⟨lw_p17, List.forall_mem_cons.mpr ⟨lw_p18, List.forall_mem_cons.mpr ⟨lw_p19, List.forall_mem_cons.mpr ⟨lw_p20, List.forall_mem_cons.mpr ⟨lw_p21, List.forall_mem_cons.mpr ⟨lw_p22, List.forall_mem_cons.mpr ⟨lw_p23, List.forall_mem_cons.mpr ⟨lw_p24, List.forall_mem_cons.mpr ⟨lw_p25, List.forall_mem_cons.mpr ⟨lw_p26, List.forall_mem_cons.mpr ⟨lw_p27, List.forall_mem_cons.mpr ⟨lw_p28, List.forall_mem_cons.mpr ⟨lw_p29, List.forall_mem_cons.mpr ⟨lw_p30, List.forall_mem_cons.mpr ⟨lw_p31, fun _ h => absurd h List.not_mem_nil⟩⟩⟩⟩⟩⟩⟩⟩⟩⟩⟩⟩⟩⟩⟩⟩
theorem lw_p32 : lw_okq (⟨"BlockLayout$Program", "swapTargets", "(I)V"⟩, 10) := ⟨⟨by decide +kernel, by decide +kernel⟩, List.mem_of_getElem? (i := 34) (by decide +kernel), List.mem_of_getElem? (i := 655) (by decide +kernel), List.mem_of_getElem? (i := 656) (by decide +kernel)⟩
theorem lw_p33 : lw_okq (⟨"BlockLayout", "executeWithin", "(I)V"⟩, 8) := ⟨⟨by decide +kernel, by decide +kernel⟩, List.mem_of_getElem? (i := 26) (by decide +kernel), List.mem_of_getElem? (i := 689) (by decide +kernel), List.mem_of_getElem? (i := 690) (by decide +kernel)⟩
theorem lw_p34 : lw_okq (⟨"BlockLayout$Machine", "execute", "(I)Z"⟩, 5) := ⟨⟨by decide +kernel, by decide +kernel⟩, List.mem_of_getElem? (i := 219) (by decide +kernel), List.mem_of_getElem? (i := 694) (by decide +kernel), List.mem_of_getElem? (i := 695) (by decide +kernel)⟩
theorem lw_p35 : lw_okq (⟨"BlockLayout$Machine", "keepPath", "(I)V"⟩, 5) := ⟨⟨by decide +kernel, by decide +kernel⟩, List.mem_of_getElem? (i := 219) (by decide +kernel), List.mem_of_getElem? (i := 699) (by decide +kernel), List.mem_of_getElem? (i := 700) (by decide +kernel)⟩
theorem lw_p36 : lw_okq (⟨"BlockLayout$Machine", "follow", "(I)I"⟩, 5) := ⟨⟨by decide +kernel, by decide +kernel⟩, List.mem_of_getElem? (i := 219) (by decide +kernel), List.mem_of_getElem? (i := 703) (by decide +kernel), List.mem_of_getElem? (i := 704) (by decide +kernel)⟩
theorem lw_p37 : lw_okq (⟨"BlockLayout$Machine", "addToProfile", "()V"⟩, 5) := ⟨⟨by decide +kernel, by decide +kernel⟩, List.mem_of_getElem? (i := 219) (by decide +kernel), List.mem_of_getElem? (i := 710) (by decide +kernel), List.mem_of_getElem? (i := 711) (by decide +kernel)⟩
theorem lw_p38 : lw_okq (⟨"BlockLayout$Machine", "addToEdge", "(II)V"⟩, 5) := ⟨⟨by decide +kernel, by decide +kernel⟩, List.mem_of_getElem? (i := 219) (by decide +kernel), List.mem_of_getElem? (i := 714) (by decide +kernel), List.mem_of_getElem? (i := 715) (by decide +kernel)⟩
theorem lw_p39 : lw_okq (⟨"BlockLayout$Placement", "cyclesOfPath", "(LBlockLayout$Machine;)I"⟩, 11) := ⟨⟨by decide +kernel, by decide +kernel⟩, List.mem_of_getElem? (i := 125) (by decide +kernel), List.mem_of_getElem? (i := 725) (by decide +kernel), List.mem_of_getElem? (i := 726) (by decide +kernel)⟩
theorem lw_p40 : lw_okq (⟨"BlockLayout$History", "remember", "(LBlockLayout$Plan;)V"⟩, 5) := ⟨⟨by decide +kernel, by decide +kernel⟩, List.mem_of_getElem? (i := 245) (by decide +kernel), List.mem_of_getElem? (i := 746) (by decide +kernel), List.mem_of_getElem? (i := 747) (by decide +kernel)⟩
theorem lw_p41 : lw_okq (⟨"BlockLayout$Arranger", "divide", "(I)V"⟩, 13) := ⟨⟨by decide +kernel, by decide +kernel⟩, List.mem_of_getElem? (i := 171) (by decide +kernel), List.mem_of_getElem? (i := 770) (by decide +kernel), List.mem_of_getElem? (i := 771) (by decide +kernel)⟩
theorem lw_p42 : lw_okq (⟨"BlockLayout$Arranger", "makePlan", "(I)V"⟩, 13) := ⟨⟨by decide +kernel, by decide +kernel⟩, List.mem_of_getElem? (i := 171) (by decide +kernel), List.mem_of_getElem? (i := 775) (by decide +kernel), List.mem_of_getElem? (i := 776) (by decide +kernel)⟩
theorem lw_p43 : lw_okq (⟨"BlockLayout$Arranger", "search", "(III)V"⟩, 13) := ⟨⟨by decide +kernel, by decide +kernel⟩, List.mem_of_getElem? (i := 171) (by decide +kernel), List.mem_of_getElem? (i := 780) (by decide +kernel), List.mem_of_getElem? (i := 781) (by decide +kernel)⟩
theorem lw_p44 : lw_okq (⟨"BlockLayout$Arranger", "keepTrial", "(II)V"⟩, 13) := ⟨⟨by decide +kernel, by decide +kernel⟩, List.mem_of_getElem? (i := 171) (by decide +kernel), List.mem_of_getElem? (i := 785) (by decide +kernel), List.mem_of_getElem? (i := 786) (by decide +kernel)⟩
theorem lw_p45 : lw_okq (⟨"BlockLayout$Arranger", "joinChains", "(Z)V"⟩, 13) := ⟨⟨by decide +kernel, by decide +kernel⟩, List.mem_of_getElem? (i := 171) (by decide +kernel), List.mem_of_getElem? (i := 789) (by decide +kernel), List.mem_of_getElem? (i := 790) (by decide +kernel)⟩
theorem lw_p46 : lw_okq (⟨"BlockLayout$Arranger", "joinBest", "(Z)Z"⟩, 13) := ⟨⟨by decide +kernel, by decide +kernel⟩, List.mem_of_getElem? (i := 171) (by decide +kernel), List.mem_of_getElem? (i := 793) (by decide +kernel), List.mem_of_getElem? (i := 794) (by decide +kernel)⟩
theorem lw_p47 : lw_okq (⟨"BlockLayout$Arranger", "weigh", "(IIZ)V"⟩, 13) := ⟨⟨by decide +kernel, by decide +kernel⟩, List.mem_of_getElem? (i := 171) (by decide +kernel), List.mem_of_getElem? (i := 797) (by decide +kernel), List.mem_of_getElem? (i := 798) (by decide +kernel)⟩
def lw_privs_3 : List (MethodName × Nat) := [(⟨"BlockLayout$Program", "swapTargets", "(I)V"⟩, 10), (⟨"BlockLayout", "executeWithin", "(I)V"⟩, 8), (⟨"BlockLayout$Machine", "execute", "(I)Z"⟩, 5), (⟨"BlockLayout$Machine", "keepPath", "(I)V"⟩, 5), (⟨"BlockLayout$Machine", "follow", "(I)I"⟩, 5), (⟨"BlockLayout$Machine", "addToProfile", "()V"⟩, 5), (⟨"BlockLayout$Machine", "addToEdge", "(II)V"⟩, 5), (⟨"BlockLayout$Placement", "cyclesOfPath", "(LBlockLayout$Machine;)I"⟩, 11), (⟨"BlockLayout$History", "remember", "(LBlockLayout$Plan;)V"⟩, 5), (⟨"BlockLayout$Arranger", "divide", "(I)V"⟩, 13), (⟨"BlockLayout$Arranger", "makePlan", "(I)V"⟩, 13), (⟨"BlockLayout$Arranger", "search", "(III)V"⟩, 13), (⟨"BlockLayout$Arranger", "keepTrial", "(II)V"⟩, 13), (⟨"BlockLayout$Arranger", "joinChains", "(Z)V"⟩, 13), (⟨"BlockLayout$Arranger", "joinBest", "(Z)Z"⟩, 13), (⟨"BlockLayout$Arranger", "weigh", "(IIZ)V"⟩, 13)]
theorem lw_r3 : ∀ q ∈ lw_privs_3, lw_okq q := List.forall_mem_cons.mpr ⟨lw_p32, List.forall_mem_cons.mpr ⟨lw_p33, List.forall_mem_cons.mpr ⟨lw_p34, List.forall_mem_cons.mpr ⟨lw_p35, List.forall_mem_cons.mpr ⟨lw_p36, List.forall_mem_cons.mpr ⟨lw_p37, List.forall_mem_cons.mpr ⟨lw_p38, List.forall_mem_cons.mpr ⟨lw_p39, List.forall_mem_cons.mpr ⟨lw_p40, List.forall_mem_cons.mpr ⟨lw_p41, List.forall_mem_cons.mpr ⟨lw_p42, List.forall_mem_cons.mpr ⟨lw_p43, List.forall_mem_cons.mpr ⟨lw_p44, List.forall_mem_cons.mpr ⟨lw_p45, List.forall_mem_cons.mpr ⟨lw_p46, List.forall_mem_cons.mpr ⟨lw_p47, fun _ h => absurd h List.not_mem_nil⟩⟩⟩⟩⟩⟩⟩⟩⟩⟩⟩⟩⟩⟩⟩⟩
theorem lw_p48 : lw_okq (⟨"BlockLayout$Arranger", "canJoin", "(II)Z"⟩, 13) := ⟨⟨by decide +kernel, by decide +kernel⟩, List.mem_of_getElem? (i := 171) (by decide +kernel), List.mem_of_getElem? (i := 801) (by decide +kernel), List.mem_of_getElem? (i := 802) (by decide +kernel)⟩
theorem lw_p49 : lw_okq (⟨"BlockLayout$Arranger", "append", "(II)V"⟩, 13) := ⟨⟨by decide +kernel, by decide +kernel⟩, List.mem_of_getElem? (i := 171) (by decide +kernel), List.mem_of_getElem? (i := 807) (by decide +kernel), List.mem_of_getElem? (i := 808) (by decide +kernel)⟩
theorem lw_p50 : lw_okq (⟨"BlockLayout$Arranger", "placeChains", "()V"⟩, 13) := ⟨⟨by decide +kernel, by decide +kernel⟩, List.mem_of_getElem? (i := 171) (by decide +kernel), List.mem_of_getElem? (i := 811) (by decide +kernel), List.mem_of_getElem? (i := 812) (by decide +kernel)⟩
theorem lw_p51 : lw_okq (⟨"BlockLayout$Arranger", "placeChain", "(II)I"⟩, 13) := ⟨⟨by decide +kernel, by decide +kernel⟩, List.mem_of_getElem? (i := 171) (by decide +kernel), List.mem_of_getElem? (i := 815) (by decide +kernel), List.mem_of_getElem? (i := 816) (by decide +kernel)⟩
theorem lw_p52 : lw_okq (⟨"BlockLayout$Arranger", "pullFor", "(II)V"⟩, 13) := ⟨⟨by decide +kernel, by decide +kernel⟩, List.mem_of_getElem? (i := 171) (by decide +kernel), List.mem_of_getElem? (i := 819) (by decide +kernel), List.mem_of_getElem? (i := 820) (by decide +kernel)⟩
theorem lw_p53 : lw_okq (⟨"BlockLayout$Arranger", "strongestChain", "()I"⟩, 13) := ⟨⟨by decide +kernel, by decide +kernel⟩, List.mem_of_getElem? (i := 171) (by decide +kernel), List.mem_of_getElem? (i := 823) (by decide +kernel), List.mem_of_getElem? (i := 824) (by decide +kernel)⟩
theorem lw_p54 : lw_okq (⟨"BlockLayout$Arranger", "placeCold", "()V"⟩, 13) := ⟨⟨by decide +kernel, by decide +kernel⟩, List.mem_of_getElem? (i := 171) (by decide +kernel), List.mem_of_getElem? (i := 827) (by decide +kernel), List.mem_of_getElem? (i := 828) (by decide +kernel)⟩
theorem lw_p55 : lw_okq (⟨"BlockLayout", "checkPosition", "(I)V"⟩, 8) := ⟨⟨by decide +kernel, by decide +kernel⟩, List.mem_of_getElem? (i := 26) (by decide +kernel), List.mem_of_getElem? (i := 840) (by decide +kernel), List.mem_of_getElem? (i := 841) (by decide +kernel)⟩
theorem lw_p56 : lw_okq (⟨"BlockLayout$Placement", "isBranchLong", "(I)Z"⟩, 11) := ⟨⟨by decide +kernel, by decide +kernel⟩, List.mem_of_getElem? (i := 125) (by decide +kernel), List.mem_of_getElem? (i := 880) (by decide +kernel), List.mem_of_getElem? (i := 881) (by decide +kernel)⟩
theorem lw_p57 : lw_okq (⟨"BlockLayout$Placement", "isJumpLong", "(I)Z"⟩, 11) := ⟨⟨by decide +kernel, by decide +kernel⟩, List.mem_of_getElem? (i := 125) (by decide +kernel), List.mem_of_getElem? (i := 884) (by decide +kernel), List.mem_of_getElem? (i := 885) (by decide +kernel)⟩
theorem lw_p58 : lw_okq (⟨"BlockLayout$Placement", "sumOfPadding", "()I"⟩, 11) := ⟨⟨by decide +kernel, by decide +kernel⟩, List.mem_of_getElem? (i := 125) (by decide +kernel), List.mem_of_getElem? (i := 895) (by decide +kernel), List.mem_of_getElem? (i := 896) (by decide +kernel)⟩
theorem lw_p59 : lw_okq (⟨"BlockLayout$Placement", "countOfLong", "()I"⟩, 11) := ⟨⟨by decide +kernel, by decide +kernel⟩, List.mem_of_getElem? (i := 125) (by decide +kernel), List.mem_of_getElem? (i := 899) (by decide +kernel), List.mem_of_getElem? (i := 900) (by decide +kernel)⟩
theorem lw_p60 : lw_okq (⟨"BlockLayout$Placement", "countOfForm", "(I)I"⟩, 11) := ⟨⟨by decide +kernel, by decide +kernel⟩, List.mem_of_getElem? (i := 125) (by decide +kernel), List.mem_of_getElem? (i := 905) (by decide +kernel), List.mem_of_getElem? (i := 906) (by decide +kernel)⟩
theorem lw_p61 : lw_okq (⟨"BlockLayout$Input", "append", "(C)Z"⟩, 9) := ⟨⟨by decide +kernel, by decide +kernel⟩, List.mem_of_getElem? (i := 268) (by decide +kernel), List.mem_of_getElem? (i := 925) (by decide +kernel), List.mem_of_getElem? (i := 926) (by decide +kernel)⟩
theorem lw_p62 : lw_okq (⟨"BlockLayout$Input", "parse", "()Z"⟩, 9) := ⟨⟨by decide +kernel, by decide +kernel⟩, List.mem_of_getElem? (i := 268) (by decide +kernel), List.mem_of_getElem? (i := 952) (by decide +kernel), List.mem_of_getElem? (i := 953) (by decide +kernel)⟩
theorem lw_p63 : lw_okq (⟨"BlockLayout$Input", "takeNumber", "(I)Z"⟩, 9) := ⟨⟨by decide +kernel, by decide +kernel⟩, List.mem_of_getElem? (i := 268) (by decide +kernel), List.mem_of_getElem? (i := 956) (by decide +kernel), List.mem_of_getElem? (i := 957) (by decide +kernel)⟩
def lw_privs_4 : List (MethodName × Nat) := [(⟨"BlockLayout$Arranger", "canJoin", "(II)Z"⟩, 13), (⟨"BlockLayout$Arranger", "append", "(II)V"⟩, 13), (⟨"BlockLayout$Arranger", "placeChains", "()V"⟩, 13), (⟨"BlockLayout$Arranger", "placeChain", "(II)I"⟩, 13), (⟨"BlockLayout$Arranger", "pullFor", "(II)V"⟩, 13), (⟨"BlockLayout$Arranger", "strongestChain", "()I"⟩, 13), (⟨"BlockLayout$Arranger", "placeCold", "()V"⟩, 13), (⟨"BlockLayout", "checkPosition", "(I)V"⟩, 8), (⟨"BlockLayout$Placement", "isBranchLong", "(I)Z"⟩, 11), (⟨"BlockLayout$Placement", "isJumpLong", "(I)Z"⟩, 11), (⟨"BlockLayout$Placement", "sumOfPadding", "()I"⟩, 11), (⟨"BlockLayout$Placement", "countOfLong", "()I"⟩, 11), (⟨"BlockLayout$Placement", "countOfForm", "(I)I"⟩, 11), (⟨"BlockLayout$Input", "append", "(C)Z"⟩, 9), (⟨"BlockLayout$Input", "parse", "()Z"⟩, 9), (⟨"BlockLayout$Input", "takeNumber", "(I)Z"⟩, 9)]
theorem lw_r4 : ∀ q ∈ lw_privs_4, lw_okq q := List.forall_mem_cons.mpr ⟨lw_p48, List.forall_mem_cons.mpr ⟨lw_p49, List.forall_mem_cons.mpr ⟨lw_p50, List.forall_mem_cons.mpr ⟨lw_p51, List.forall_mem_cons.mpr ⟨lw_p52, List.forall_mem_cons.mpr ⟨lw_p53, List.forall_mem_cons.mpr ⟨lw_p54, List.forall_mem_cons.mpr ⟨lw_p55, List.forall_mem_cons.mpr ⟨lw_p56, List.forall_mem_cons.mpr ⟨lw_p57, List.forall_mem_cons.mpr ⟨lw_p58, List.forall_mem_cons.mpr ⟨lw_p59, List.forall_mem_cons.mpr ⟨lw_p60, List.forall_mem_cons.mpr ⟨lw_p61, List.forall_mem_cons.mpr ⟨lw_p62, List.forall_mem_cons.mpr ⟨lw_p63, fun _ h => absurd h List.not_mem_nil⟩⟩⟩⟩⟩⟩⟩⟩⟩⟩⟩⟩⟩⟩⟩⟩
theorem lw_p64 : lw_okq (⟨"BlockLayout$Input", "seesDigit", "()Z"⟩, 9) := ⟨⟨by decide +kernel, by decide +kernel⟩, List.mem_of_getElem? (i := 268) (by decide +kernel), List.mem_of_getElem? (i := 960) (by decide +kernel), List.mem_of_getElem? (i := 961) (by decide +kernel)⟩
theorem lw_p65 : lw_okq (⟨"BlockLayout$Input", "takeWord", "(Ljava/lang/String;)Z"⟩, 9) := ⟨⟨by decide +kernel, by decide +kernel⟩, List.mem_of_getElem? (i := 268) (by decide +kernel), List.mem_of_getElem? (i := 965) (by decide +kernel), List.mem_of_getElem? (i := 966) (by decide +kernel)⟩
theorem lw_p66 : lw_okq (⟨"BlockLayout$Input", "sees", "(C)Z"⟩, 9) := ⟨⟨by decide +kernel, by decide +kernel⟩, List.mem_of_getElem? (i := 268) (by decide +kernel), List.mem_of_getElem? (i := 1017) (by decide +kernel), List.mem_of_getElem? (i := 1018) (by decide +kernel)⟩
theorem lw_p67 : lw_okq (⟨"BlockLayout$Input", "takeEnd", "()Z"⟩, 9) := ⟨⟨by decide +kernel, by decide +kernel⟩, List.mem_of_getElem? (i := 268) (by decide +kernel), List.mem_of_getElem? (i := 1021) (by decide +kernel), List.mem_of_getElem? (i := 1022) (by decide +kernel)⟩
theorem lw_p68 : lw_okq (⟨"BlockLayout$Input", "takeFirst", "()Z"⟩, 9) := ⟨⟨by decide +kernel, by decide +kernel⟩, List.mem_of_getElem? (i := 268) (by decide +kernel), List.mem_of_getElem? (i := 1027) (by decide +kernel), List.mem_of_getElem? (i := 1028) (by decide +kernel)⟩
theorem lw_p69 : lw_okq (⟨"BlockLayout$Input", "takeSecond", "()Z"⟩, 9) := ⟨⟨by decide +kernel, by decide +kernel⟩, List.mem_of_getElem? (i := 268) (by decide +kernel), List.mem_of_getElem? (i := 1032) (by decide +kernel), List.mem_of_getElem? (i := 1033) (by decide +kernel)⟩
theorem lw_p70 : lw_okq (⟨"BlockLayout$Input", "takePattern", "()Z"⟩, 9) := ⟨⟨by decide +kernel, by decide +kernel⟩, List.mem_of_getElem? (i := 268) (by decide +kernel), List.mem_of_getElem? (i := 1036) (by decide +kernel), List.mem_of_getElem? (i := 1037) (by decide +kernel)⟩
theorem lw_p71 : lw_okq (⟨"BlockLayout", "areTargetsFit", "()Z"⟩, 8) := ⟨⟨by decide +kernel, by decide +kernel⟩, List.mem_of_getElem? (i := 26) (by decide +kernel), List.mem_of_getElem? (i := 1040) (by decide +kernel), List.mem_of_getElem? (i := 1041) (by decide +kernel)⟩
theorem lw_p72 : lw_okq (⟨"BlockLayout$History", "restore", "(LBlockLayout$Plan;)Z"⟩, 5) := ⟨⟨by decide +kernel, by decide +kernel⟩, List.mem_of_getElem? (i := 245) (by decide +kernel), List.mem_of_getElem? (i := 1053) (by decide +kernel), List.mem_of_getElem? (i := 1054) (by decide +kernel)⟩
theorem lw_p73 : lw_okq (⟨"BlockLayoutModel", "begins", "(I)V"⟩, 47) := ⟨⟨by decide +kernel, by decide +kernel⟩, List.mem_of_getElem? (i := 1073) (by decide +kernel), List.mem_of_getElem? (i := 1079) (by decide +kernel), List.mem_of_getElem? (i := 1080) (by decide +kernel)⟩
theorem lw_p74 : lw_okq (⟨"BlockLayoutModel", "ascends", "()V"⟩, 47) := ⟨⟨by decide +kernel, by decide +kernel⟩, List.mem_of_getElem? (i := 1073) (by decide +kernel), List.mem_of_getElem? (i := 1083) (by decide +kernel), List.mem_of_getElem? (i := 1084) (by decide +kernel)⟩
theorem lw_p75 : lw_okq (⟨"BlockLayoutModel", "isBlock", "(I)Z"⟩, 47) := ⟨⟨by decide +kernel, by decide +kernel⟩, List.mem_of_getElem? (i := 1073) (by decide +kernel), List.mem_of_getElem? (i := 1244) (by decide +kernel), List.mem_of_getElem? (i := 1245) (by decide +kernel)⟩
theorem lw_p76 : lw_okq (⟨"BlockLayoutModel", "ends", "(IIIII)I"⟩, 47) := ⟨⟨by decide +kernel, by decide +kernel⟩, List.mem_of_getElem? (i := 1073) (by decide +kernel), List.mem_of_getElem? (i := 1252) (by decide +kernel), List.mem_of_getElem? (i := 1253) (by decide +kernel)⟩
theorem lw_p77 : lw_okq (⟨"BlockLayoutModel", "isHead", "(I)Z"⟩, 47) := ⟨⟨by decide +kernel, by decide +kernel⟩, List.mem_of_getElem? (i := 1073) (by decide +kernel), List.mem_of_getElem? (i := 1272) (by decide +kernel), List.mem_of_getElem? (i := 1273) (by decide +kernel)⟩
theorem lw_p78 : lw_okq (⟨"BlockLayoutModel", "reached", "(I)I"⟩, 47) := ⟨⟨by decide +kernel, by decide +kernel⟩, List.mem_of_getElem? (i := 1073) (by decide +kernel), List.mem_of_getElem? (i := 1276) (by decide +kernel), List.mem_of_getElem? (i := 1277) (by decide +kernel)⟩
theorem lw_p79 : lw_okq (⟨"BlockLayoutModel", "doesGo", "(II)Z"⟩, 47) := ⟨⟨by decide +kernel, by decide +kernel⟩, List.mem_of_getElem? (i := 1073) (by decide +kernel), List.mem_of_getElem? (i := 1280) (by decide +kernel), List.mem_of_getElem? (i := 1281) (by decide +kernel)⟩
def lw_privs_5 : List (MethodName × Nat) := [(⟨"BlockLayout$Input", "seesDigit", "()Z"⟩, 9), (⟨"BlockLayout$Input", "takeWord", "(Ljava/lang/String;)Z"⟩, 9), (⟨"BlockLayout$Input", "sees", "(C)Z"⟩, 9), (⟨"BlockLayout$Input", "takeEnd", "()Z"⟩, 9), (⟨"BlockLayout$Input", "takeFirst", "()Z"⟩, 9), (⟨"BlockLayout$Input", "takeSecond", "()Z"⟩, 9), (⟨"BlockLayout$Input", "takePattern", "()Z"⟩, 9), (⟨"BlockLayout", "areTargetsFit", "()Z"⟩, 8), (⟨"BlockLayout$History", "restore", "(LBlockLayout$Plan;)Z"⟩, 5), (⟨"BlockLayoutModel", "begins", "(I)V"⟩, 47), (⟨"BlockLayoutModel", "ascends", "()V"⟩, 47), (⟨"BlockLayoutModel", "isBlock", "(I)Z"⟩, 47), (⟨"BlockLayoutModel", "ends", "(IIIII)I"⟩, 47), (⟨"BlockLayoutModel", "isHead", "(I)Z"⟩, 47), (⟨"BlockLayoutModel", "reached", "(I)I"⟩, 47), (⟨"BlockLayoutModel", "doesGo", "(II)Z"⟩, 47)]
theorem lw_r5 : ∀ q ∈ lw_privs_5, lw_okq q := List.forall_mem_cons.mpr ⟨lw_p64, List.forall_mem_cons.mpr ⟨lw_p65, List.forall_mem_cons.mpr ⟨lw_p66, List.forall_mem_cons.mpr ⟨lw_p67, List.forall_mem_cons.mpr ⟨lw_p68, List.forall_mem_cons.mpr ⟨lw_p69, List.forall_mem_cons.mpr ⟨lw_p70, List.forall_mem_cons.mpr ⟨lw_p71, List.forall_mem_cons.mpr ⟨lw_p72, List.forall_mem_cons.mpr ⟨lw_p73, List.forall_mem_cons.mpr ⟨lw_p74, List.forall_mem_cons.mpr ⟨lw_p75, List.forall_mem_cons.mpr ⟨lw_p76, List.forall_mem_cons.mpr ⟨lw_p77, List.forall_mem_cons.mpr ⟨lw_p78, List.forall_mem_cons.mpr ⟨lw_p79, fun _ h => absurd h List.not_mem_nil⟩⟩⟩⟩⟩⟩⟩⟩⟩⟩⟩⟩⟩⟩⟩⟩
theorem lw_p80 : lw_okq (⟨"BlockLayoutModel", "mayRun", "(I)Z"⟩, 47) := ⟨⟨by decide +kernel, by decide +kernel⟩, List.mem_of_getElem? (i := 1073) (by decide +kernel), List.mem_of_getElem? (i := 1288) (by decide +kernel), List.mem_of_getElem? (i := 1289) (by decide +kernel)⟩
theorem lw_p81 : lw_okq (⟨"BlockLayoutModel", "executes", "(I)Z"⟩, 47) := ⟨⟨by decide +kernel, by decide +kernel⟩, List.mem_of_getElem? (i := 1073) (by decide +kernel), List.mem_of_getElem? (i := 1292) (by decide +kernel), List.mem_of_getElem? (i := 1293) (by decide +kernel)⟩
theorem lw_p82 : lw_okq (⟨"BlockLayoutModel", "lays", "()V"⟩, 47) := ⟨⟨by decide +kernel, by decide +kernel⟩, List.mem_of_getElem? (i := 1073) (by decide +kernel), List.mem_of_getElem? (i := 1300) (by decide +kernel), List.mem_of_getElem? (i := 1301) (by decide +kernel)⟩
theorem lw_p83 : lw_okq (⟨"BlockLayoutModel", "next", "(I)I"⟩, 47) := ⟨⟨by decide +kernel, by decide +kernel⟩, List.mem_of_getElem? (i := 1073) (by decide +kernel), List.mem_of_getElem? (i := 1304) (by decide +kernel), List.mem_of_getElem? (i := 1305) (by decide +kernel)⟩
theorem lw_p84 : lw_okq (⟨"BlockLayoutModel", "position", "(I)I"⟩, 47) := ⟨⟨by decide +kernel, by decide +kernel⟩, List.mem_of_getElem? (i := 1073) (by decide +kernel), List.mem_of_getElem? (i := 1308) (by decide +kernel), List.mem_of_getElem? (i := 1309) (by decide +kernel)⟩
theorem lw_p85 : lw_okq (⟨"BlockLayoutModel", "form", "(II)I"⟩, 47) := ⟨⟨by decide +kernel, by decide +kernel⟩, List.mem_of_getElem? (i := 1073) (by decide +kernel), List.mem_of_getElem? (i := 1312) (by decide +kernel), List.mem_of_getElem? (i := 1313) (by decide +kernel)⟩
theorem lw_p86 : lw_okq (⟨"BlockLayoutModel", "places", "(I)V"⟩, 47) := ⟨⟨by decide +kernel, by decide +kernel⟩, List.mem_of_getElem? (i := 1073) (by decide +kernel), List.mem_of_getElem? (i := 1316) (by decide +kernel), List.mem_of_getElem? (i := 1317) (by decide +kernel)⟩
theorem lw_p87 : lw_okq (⟨"BlockLayoutModel", "bytes", "(I)I"⟩, 47) := ⟨⟨by decide +kernel, by decide +kernel⟩, List.mem_of_getElem? (i := 1073) (by decide +kernel), List.mem_of_getElem? (i := 1323) (by decide +kernel), List.mem_of_getElem? (i := 1324) (by decide +kernel)⟩
theorem lw_p88 : lw_okq (⟨"BlockLayoutModel", "branchBytes", "(I)I"⟩, 47) := ⟨⟨by decide +kernel, by decide +kernel⟩, List.mem_of_getElem? (i := 1073) (by decide +kernel), List.mem_of_getElem? (i := 1327) (by decide +kernel), List.mem_of_getElem? (i := 1328) (by decide +kernel)⟩
theorem lw_p89 : lw_okq (⟨"BlockLayoutModel", "jumpBytes", "(I)I"⟩, 47) := ⟨⟨by decide +kernel, by decide +kernel⟩, List.mem_of_getElem? (i := 1073) (by decide +kernel), List.mem_of_getElem? (i := 1331) (by decide +kernel), List.mem_of_getElem? (i := 1332) (by decide +kernel)⟩
theorem lw_p90 : lw_okq (⟨"BlockLayoutModel", "widens", "()Z"⟩, 47) := ⟨⟨by decide +kernel, by decide +kernel⟩, List.mem_of_getElem? (i := 1073) (by decide +kernel), List.mem_of_getElem? (i := 1335) (by decide +kernel), List.mem_of_getElem? (i := 1336) (by decide +kernel)⟩
theorem lw_p91 : lw_okq (⟨"BlockLayoutModel", "counts", "()I"⟩, 47) := ⟨⟨by decide +kernel, by decide +kernel⟩, List.mem_of_getElem? (i := 1073) (by decide +kernel), List.mem_of_getElem? (i := 1354) (by decide +kernel), List.mem_of_getElem? (i := 1355) (by decide +kernel)⟩
theorem lw_p92 : lw_okq (⟨"BlockLayoutModel", "keeps", "()V"⟩, 47) := ⟨⟨by decide +kernel, by decide +kernel⟩, List.mem_of_getElem? (i := 1073) (by decide +kernel), List.mem_of_getElem? (i := 1369) (by decide +kernel), List.mem_of_getElem? (i := 1370) (by decide +kernel)⟩
theorem lw_p93 : lw_okq (⟨"BlockLayoutModel", "findsHot", "(I)V"⟩, 47) := ⟨⟨by decide +kernel, by decide +kernel⟩, List.mem_of_getElem? (i := 1073) (by decide +kernel), List.mem_of_getElem? (i := 1389) (by decide +kernel), List.mem_of_getElem? (i := 1390) (by decide +kernel)⟩
theorem lw_p94 : lw_okq (⟨"BlockLayoutModel", "joinsByWeights", "()V"⟩, 47) := ⟨⟨by decide +kernel, by decide +kernel⟩, List.mem_of_getElem? (i := 1073) (by decide +kernel), List.mem_of_getElem? (i := 1393) (by decide +kernel), List.mem_of_getElem? (i := 1394) (by decide +kernel)⟩
theorem lw_p95 : lw_okq (⟨"BlockLayoutModel", "nextEdge", "(I)I"⟩, 47) := ⟨⟨by decide +kernel, by decide +kernel⟩, List.mem_of_getElem? (i := 1073) (by decide +kernel), List.mem_of_getElem? (i := 1397) (by decide +kernel), List.mem_of_getElem? (i := 1398) (by decide +kernel)⟩
def lw_privs_6 : List (MethodName × Nat) := [(⟨"BlockLayoutModel", "mayRun", "(I)Z"⟩, 47), (⟨"BlockLayoutModel", "executes", "(I)Z"⟩, 47), (⟨"BlockLayoutModel", "lays", "()V"⟩, 47), (⟨"BlockLayoutModel", "next", "(I)I"⟩, 47), (⟨"BlockLayoutModel", "position", "(I)I"⟩, 47), (⟨"BlockLayoutModel", "form", "(II)I"⟩, 47), (⟨"BlockLayoutModel", "places", "(I)V"⟩, 47), (⟨"BlockLayoutModel", "bytes", "(I)I"⟩, 47), (⟨"BlockLayoutModel", "branchBytes", "(I)I"⟩, 47), (⟨"BlockLayoutModel", "jumpBytes", "(I)I"⟩, 47), (⟨"BlockLayoutModel", "widens", "()Z"⟩, 47), (⟨"BlockLayoutModel", "counts", "()I"⟩, 47), (⟨"BlockLayoutModel", "keeps", "()V"⟩, 47), (⟨"BlockLayoutModel", "findsHot", "(I)V"⟩, 47), (⟨"BlockLayoutModel", "joinsByWeights", "()V"⟩, 47), (⟨"BlockLayoutModel", "nextEdge", "(I)I"⟩, 47)]
theorem lw_r6 : ∀ q ∈ lw_privs_6, lw_okq q := List.forall_mem_cons.mpr ⟨lw_p80, List.forall_mem_cons.mpr ⟨lw_p81, List.forall_mem_cons.mpr ⟨lw_p82, List.forall_mem_cons.mpr ⟨lw_p83, List.forall_mem_cons.mpr ⟨lw_p84, List.forall_mem_cons.mpr ⟨lw_p85, List.forall_mem_cons.mpr ⟨lw_p86, List.forall_mem_cons.mpr ⟨lw_p87, List.forall_mem_cons.mpr ⟨lw_p88, List.forall_mem_cons.mpr ⟨lw_p89, List.forall_mem_cons.mpr ⟨lw_p90, List.forall_mem_cons.mpr ⟨lw_p91, List.forall_mem_cons.mpr ⟨lw_p92, List.forall_mem_cons.mpr ⟨lw_p93, List.forall_mem_cons.mpr ⟨lw_p94, List.forall_mem_cons.mpr ⟨lw_p95, fun _ h => absurd h List.not_mem_nil⟩⟩⟩⟩⟩⟩⟩⟩⟩⟩⟩⟩⟩⟩⟩⟩
theorem lw_p96 : lw_okq (⟨"BlockLayoutModel", "weightOf", "(I)I"⟩, 47) := ⟨⟨by decide +kernel, by decide +kernel⟩, List.mem_of_getElem? (i := 1073) (by decide +kernel), List.mem_of_getElem? (i := 1401) (by decide +kernel), List.mem_of_getElem? (i := 1402) (by decide +kernel)⟩
theorem lw_p97 : lw_okq (⟨"BlockLayoutModel", "targetOf", "(I)I"⟩, 47) := ⟨⟨by decide +kernel, by decide +kernel⟩, List.mem_of_getElem? (i := 1073) (by decide +kernel), List.mem_of_getElem? (i := 1405) (by decide +kernel), List.mem_of_getElem? (i := 1406) (by decide +kernel)⟩
theorem lw_p98 : lw_okq (⟨"BlockLayoutModel", "canJoin", "(II)Z"⟩, 47) := ⟨⟨by decide +kernel, by decide +kernel⟩, List.mem_of_getElem? (i := 1073) (by decide +kernel), List.mem_of_getElem? (i := 1409) (by decide +kernel), List.mem_of_getElem? (i := 1410) (by decide +kernel)⟩
theorem lw_p99 : lw_okq (⟨"BlockLayoutModel", "isHot", "(I)Z"⟩, 47) := ⟨⟨by decide +kernel, by decide +kernel⟩, List.mem_of_getElem? (i := 1073) (by decide +kernel), List.mem_of_getElem? (i := 1413) (by decide +kernel), List.mem_of_getElem? (i := 1414) (by decide +kernel)⟩
theorem lw_p100 : lw_okq (⟨"BlockLayoutModel", "firstOf", "(I)I"⟩, 47) := ⟨⟨by decide +kernel, by decide +kernel⟩, List.mem_of_getElem? (i := 1073) (by decide +kernel), List.mem_of_getElem? (i := 1417) (by decide +kernel), List.mem_of_getElem? (i := 1418) (by decide +kernel)⟩
theorem lw_p101 : lw_okq (⟨"BlockLayoutModel", "joins", "(II)V"⟩, 47) := ⟨⟨by decide +kernel, by decide +kernel⟩, List.mem_of_getElem? (i := 1073) (by decide +kernel), List.mem_of_getElem? (i := 1421) (by decide +kernel), List.mem_of_getElem? (i := 1422) (by decide +kernel)⟩
theorem lw_p102 : lw_okq (⟨"BlockLayoutModel", "joinsByGains", "()V"⟩, 47) := ⟨⟨by decide +kernel, by decide +kernel⟩, List.mem_of_getElem? (i := 1073) (by decide +kernel), List.mem_of_getElem? (i := 1425) (by decide +kernel), List.mem_of_getElem? (i := 1426) (by decide +kernel)⟩
theorem lw_p103 : lw_okq (⟨"BlockLayoutModel", "cost", "(II)I"⟩, 47) := ⟨⟨by decide +kernel, by decide +kernel⟩, List.mem_of_getElem? (i := 1073) (by decide +kernel), List.mem_of_getElem? (i := 1429) (by decide +kernel), List.mem_of_getElem? (i := 1430) (by decide +kernel)⟩
theorem lw_p104 : lw_okq (⟨"BlockLayoutModel", "triesAll", "()V"⟩, 47) := ⟨⟨by decide +kernel, by decide +kernel⟩, List.mem_of_getElem? (i := 1073) (by decide +kernel), List.mem_of_getElem? (i := 1433) (by decide +kernel), List.mem_of_getElem? (i := 1434) (by decide +kernel)⟩
theorem lw_p105 : lw_okq (⟨"BlockLayoutModel", "triedCost", "()I"⟩, 47) := ⟨⟨by decide +kernel, by decide +kernel⟩, List.mem_of_getElem? (i := 1073) (by decide +kernel), List.mem_of_getElem? (i := 1437) (by decide +kernel), List.mem_of_getElem? (i := 1438) (by decide +kernel)⟩
theorem lw_p106 : lw_okq (⟨"BlockLayoutModel", "goesOn", "()Z"⟩, 47) := ⟨⟨by decide +kernel, by decide +kernel⟩, List.mem_of_getElem? (i := 1073) (by decide +kernel), List.mem_of_getElem? (i := 1441) (by decide +kernel), List.mem_of_getElem? (i := 1442) (by decide +kernel)⟩
theorem lw_p107 : lw_okq (⟨"BlockLayoutModel", "swap", "(II)V"⟩, 47) := ⟨⟨by decide +kernel, by decide +kernel⟩, List.mem_of_getElem? (i := 1073) (by decide +kernel), List.mem_of_getElem? (i := 1445) (by decide +kernel), List.mem_of_getElem? (i := 1446) (by decide +kernel)⟩
theorem lw_p108 : lw_okq (⟨"BlockLayoutModel", "placesChains", "()V"⟩, 47) := ⟨⟨by decide +kernel, by decide +kernel⟩, List.mem_of_getElem? (i := 1073) (by decide +kernel), List.mem_of_getElem? (i := 1449) (by decide +kernel), List.mem_of_getElem? (i := 1450) (by decide +kernel)⟩
theorem lw_p109 : lw_okq (⟨"BlockLayoutModel", "append", "(II)I"⟩, 47) := ⟨⟨by decide +kernel, by decide +kernel⟩, List.mem_of_getElem? (i := 1073) (by decide +kernel), List.mem_of_getElem? (i := 1453) (by decide +kernel), List.mem_of_getElem? (i := 1454) (by decide +kernel)⟩
theorem lw_p110 : lw_okq (⟨"BlockLayoutModel", "pull", "(II)I"⟩, 47) := ⟨⟨by decide +kernel, by decide +kernel⟩, List.mem_of_getElem? (i := 1073) (by decide +kernel), List.mem_of_getElem? (i := 1457) (by decide +kernel), List.mem_of_getElem? (i := 1458) (by decide +kernel)⟩
theorem lw_p111 : lw_okq (⟨"BlockLayoutModel", "costs", "(I)I"⟩, 47) := ⟨⟨by decide +kernel, by decide +kernel⟩, List.mem_of_getElem? (i := 1073) (by decide +kernel), List.mem_of_getElem? (i := 1461) (by decide +kernel), List.mem_of_getElem? (i := 1462) (by decide +kernel)⟩
def lw_privs_7 : List (MethodName × Nat) := [(⟨"BlockLayoutModel", "weightOf", "(I)I"⟩, 47), (⟨"BlockLayoutModel", "targetOf", "(I)I"⟩, 47), (⟨"BlockLayoutModel", "canJoin", "(II)Z"⟩, 47), (⟨"BlockLayoutModel", "isHot", "(I)Z"⟩, 47), (⟨"BlockLayoutModel", "firstOf", "(I)I"⟩, 47), (⟨"BlockLayoutModel", "joins", "(II)V"⟩, 47), (⟨"BlockLayoutModel", "joinsByGains", "()V"⟩, 47), (⟨"BlockLayoutModel", "cost", "(II)I"⟩, 47), (⟨"BlockLayoutModel", "triesAll", "()V"⟩, 47), (⟨"BlockLayoutModel", "triedCost", "()I"⟩, 47), (⟨"BlockLayoutModel", "goesOn", "()Z"⟩, 47), (⟨"BlockLayoutModel", "swap", "(II)V"⟩, 47), (⟨"BlockLayoutModel", "placesChains", "()V"⟩, 47), (⟨"BlockLayoutModel", "append", "(II)I"⟩, 47), (⟨"BlockLayoutModel", "pull", "(II)I"⟩, 47), (⟨"BlockLayoutModel", "costs", "(I)I"⟩, 47)]
theorem lw_r7 : ∀ q ∈ lw_privs_7, lw_okq q := List.forall_mem_cons.mpr ⟨lw_p96, List.forall_mem_cons.mpr ⟨lw_p97, List.forall_mem_cons.mpr ⟨lw_p98, List.forall_mem_cons.mpr ⟨lw_p99, List.forall_mem_cons.mpr ⟨lw_p100, List.forall_mem_cons.mpr ⟨lw_p101, List.forall_mem_cons.mpr ⟨lw_p102, List.forall_mem_cons.mpr ⟨lw_p103, List.forall_mem_cons.mpr ⟨lw_p104, List.forall_mem_cons.mpr ⟨lw_p105, List.forall_mem_cons.mpr ⟨lw_p106, List.forall_mem_cons.mpr ⟨lw_p107, List.forall_mem_cons.mpr ⟨lw_p108, List.forall_mem_cons.mpr ⟨lw_p109, List.forall_mem_cons.mpr ⟨lw_p110, List.forall_mem_cons.mpr ⟨lw_p111, fun _ h => absurd h List.not_mem_nil⟩⟩⟩⟩⟩⟩⟩⟩⟩⟩⟩⟩⟩⟩⟩⟩
theorem lw_p112 : lw_okq (⟨"BlockLayoutModel", "sumOfPadding", "()I"⟩, 47) := ⟨⟨by decide +kernel, by decide +kernel⟩, List.mem_of_getElem? (i := 1073) (by decide +kernel), List.mem_of_getElem? (i := 1481) (by decide +kernel), List.mem_of_getElem? (i := 1482) (by decide +kernel)⟩
theorem lw_p113 : lw_okq (⟨"BlockLayoutModel", "longOnes", "()I"⟩, 47) := ⟨⟨by decide +kernel, by decide +kernel⟩, List.mem_of_getElem? (i := 1073) (by decide +kernel), List.mem_of_getElem? (i := 1485) (by decide +kernel), List.mem_of_getElem? (i := 1486) (by decide +kernel)⟩
theorem lw_p114 : lw_okq (⟨"BlockLayoutModel", "invertedOnes", "()I"⟩, 47) := ⟨⟨by decide +kernel, by decide +kernel⟩, List.mem_of_getElem? (i := 1073) (by decide +kernel), List.mem_of_getElem? (i := 1489) (by decide +kernel), List.mem_of_getElem? (i := 1490) (by decide +kernel)⟩
theorem lw_p115 : lw_okq (⟨"BlockLayoutModel", "cyclesNow", "()I"⟩, 47) := ⟨⟨by decide +kernel, by decide +kernel⟩, List.mem_of_getElem? (i := 1073) (by decide +kernel), List.mem_of_getElem? (i := 1497) (by decide +kernel), List.mem_of_getElem? (i := 1498) (by decide +kernel)⟩
theorem lw_p116 : lw_okq (⟨"BlockLayoutModel", "through", "(II)I"⟩, 47) := ⟨⟨by decide +kernel, by decide +kernel⟩, List.mem_of_getElem? (i := 1073) (by decide +kernel), List.mem_of_getElem? (i := 1501) (by decide +kernel), List.mem_of_getElem? (i := 1502) (by decide +kernel)⟩
theorem lw_p117 : lw_okq (⟨"BlockLayoutModel", "reads", "()Z"⟩, 47) := ⟨⟨by decide +kernel, by decide +kernel⟩, List.mem_of_getElem? (i := 1073) (by decide +kernel), List.mem_of_getElem? (i := 1521) (by decide +kernel), List.mem_of_getElem? (i := 1522) (by decide +kernel)⟩
theorem lw_p118 : lw_okq (⟨"BlockLayoutModel", "takesNumber", "(I)Z"⟩, 47) := ⟨⟨by decide +kernel, by decide +kernel⟩, List.mem_of_getElem? (i := 1073) (by decide +kernel), List.mem_of_getElem? (i := 1525) (by decide +kernel), List.mem_of_getElem? (i := 1526) (by decide +kernel)⟩
theorem lw_p119 : lw_okq (⟨"BlockLayoutModel", "here", "()I"⟩, 47) := ⟨⟨by decide +kernel, by decide +kernel⟩, List.mem_of_getElem? (i := 1073) (by decide +kernel), List.mem_of_getElem? (i := 1529) (by decide +kernel), List.mem_of_getElem? (i := 1530) (by decide +kernel)⟩
theorem lw_p120 : lw_okq (⟨"BlockLayoutModel", "takes", "(Ljava/lang/String;)Z"⟩, 47) := ⟨⟨by decide +kernel, by decide +kernel⟩, List.mem_of_getElem? (i := 1073) (by decide +kernel), List.mem_of_getElem? (i := 1534) (by decide +kernel), List.mem_of_getElem? (i := 1535) (by decide +kernel)⟩
theorem lw_p121 : lw_okq (⟨"BlockLayoutModel", "readsEnd", "()Z"⟩, 47) := ⟨⟨by decide +kernel, by decide +kernel⟩, List.mem_of_getElem? (i := 1073) (by decide +kernel), List.mem_of_getElem? (i := 1540) (by decide +kernel), List.mem_of_getElem? (i := 1541) (by decide +kernel)⟩
theorem lw_p122 : lw_okq (⟨"BlockLayoutModel", "readsIf", "()Z"⟩, 47) := ⟨⟨by decide +kernel, by decide +kernel⟩, List.mem_of_getElem? (i := 1073) (by decide +kernel), List.mem_of_getElem? (i := 1545) (by decide +kernel), List.mem_of_getElem? (i := 1546) (by decide +kernel)⟩
theorem lw_p123 : lw_okq (⟨"BlockLayoutModel", "mayBe", "()Z"⟩, 47) := ⟨⟨by decide +kernel, by decide +kernel⟩, List.mem_of_getElem? (i := 1073) (by decide +kernel), List.mem_of_getElem? (i := 1552) (by decide +kernel), List.mem_of_getElem? (i := 1553) (by decide +kernel)⟩
def lw_privs_8 : List (MethodName × Nat) := [(⟨"BlockLayoutModel", "sumOfPadding", "()I"⟩, 47), (⟨"BlockLayoutModel", "longOnes", "()I"⟩, 47), (⟨"BlockLayoutModel", "invertedOnes", "()I"⟩, 47), (⟨"BlockLayoutModel", "cyclesNow", "()I"⟩, 47), (⟨"BlockLayoutModel", "through", "(II)I"⟩, 47), (⟨"BlockLayoutModel", "reads", "()Z"⟩, 47), (⟨"BlockLayoutModel", "takesNumber", "(I)Z"⟩, 47), (⟨"BlockLayoutModel", "here", "()I"⟩, 47), (⟨"BlockLayoutModel", "takes", "(Ljava/lang/String;)Z"⟩, 47), (⟨"BlockLayoutModel", "readsEnd", "()Z"⟩, 47), (⟨"BlockLayoutModel", "readsIf", "()Z"⟩, 47), (⟨"BlockLayoutModel", "mayBe", "()Z"⟩, 47)]
theorem lw_r8 : ∀ q ∈ lw_privs_8, lw_okq q := List.forall_mem_cons.mpr ⟨lw_p112, List.forall_mem_cons.mpr ⟨lw_p113, List.forall_mem_cons.mpr ⟨lw_p114, List.forall_mem_cons.mpr ⟨lw_p115, List.forall_mem_cons.mpr ⟨lw_p116, List.forall_mem_cons.mpr ⟨lw_p117, List.forall_mem_cons.mpr ⟨lw_p118, List.forall_mem_cons.mpr ⟨lw_p119, List.forall_mem_cons.mpr ⟨lw_p120, List.forall_mem_cons.mpr ⟨lw_p121, List.forall_mem_cons.mpr ⟨lw_p122, List.forall_mem_cons.mpr ⟨lw_p123, fun _ h => absurd h List.not_mem_nil⟩⟩⟩⟩⟩⟩⟩⟩⟩⟩⟩⟩
def lw_privs : List (MethodName × Nat) := lw_privs_1 ++ (lw_privs_2 ++ (lw_privs_3 ++ (lw_privs_4 ++ (lw_privs_5 ++ (lw_privs_6 ++ (lw_privs_7 ++ (lw_privs_8)))))))
def lw_tbl : List Cond := k2_sels lw_privs ++ tables_1
theorem lw_privs_ok : ∀ q ∈ lw_privs, lw_okq q := by
  show ∀ q ∈ lw_privs_1 ++ (lw_privs_2 ++ (lw_privs_3 ++ (lw_privs_4 ++ (lw_privs_5 ++ (lw_privs_6 ++ (lw_privs_7 ++ (lw_privs_8))))))), lw_okq q
  exact List.forall_mem_append.mpr ⟨lw_r1, List.forall_mem_append.mpr ⟨lw_r2, List.forall_mem_append.mpr ⟨lw_r3, List.forall_mem_append.mpr ⟨lw_r4, List.forall_mem_append.mpr ⟨lw_r5, List.forall_mem_append.mpr ⟨lw_r6, List.forall_mem_append.mpr ⟨lw_r7, lw_r8⟩⟩⟩⟩⟩⟩⟩
/-- the streams that the claim lets the run draw from -/
abbrev lw_cs : List Choice := [Jvm.Choice.named "NaN.bits"]
theorem lw_bits : nanBits ∈ lw_cs := by first | decide | exact List.mem_cons_self | simp [lw_cs, nanBits]
end
section
/-! ===== BEGIN words of one list among another's, by their places ===== -/
theorem goodIn_r {big : List Cond} (ws : List Cond) (ps : List Nat) (hp : ws = ps.filterMap (fun i => big[i]?)) (h : ws.all goodWord = true) : GoodIn big ws := by
  intro w hw
  have h1 := List.all_eq_true.mp h w hw
  rw [hp] at hw
  obtain ⟨i, -, hi⟩ := List.mem_filterMap.mp hw
  have hm : w ∈ big := by first | exact List.mem_of_getElem? hi | exact List.getElem?_mem hi
  exact ⟨hm, good_of_word h1⟩
theorem goodIn_app {big a b : List Cond} (ha : GoodIn big a) (hb : GoodIn big b) : GoodIn big (a ++ b) := fun w h => (List.mem_append.mp h).elim (ha w) (hb w)
theorem goodIn_ca {big a b : List Cond} {c : Cond} (ha : GoodIn big (c :: a)) (hb : GoodIn big b) : GoodIn big (c :: (a ++ b)) := fun w h => (List.mem_cons.mp h).elim (fun e => ha w (List.mem_cons.mpr (Or.inl e))) (fun h => (List.mem_append.mp h).elim (fun h => ha w (List.mem_cons.mpr (Or.inr h))) (hb w))
theorem goodIn_sub {big ws : List Cond} (hm : ∀ w ∈ ws, w ∈ big) (h : ws.all goodWord = true) : GoodIn big ws := fun w hw => ⟨hm w hw, good_of_word (List.all_eq_true.mp h w hw)⟩
/-! ===== END ===== -/

/-! ===== BEGIN exceptions that leave a method, and their catching by the caller (launches without stack traces) ===== -/
section VXA
/-! The laws vx_back, vx_callV, vx_callS, vx_callSW, vx_throw0, vx_throwS follow proofs of the library, with one case more: JvmDerived/Free/Laws.lean (Back.of_free), Shelf42/LK1.lean (callV, callS), Shelf/KitTraced.lean (throwNew0V, throwNewS). -/
/-- where a method has thrown q: the class by its name, the cell, what was written, the world -/
def vx_T (XC : String → State → State → Prop) (st : State) (q : Addr) (t : State) (mc ms : Nat) (free : Addr → Prop) : Prop :=
  ∃ (E : String) (ce : Cell) (L : List Loc), XC E st t ∧ t.heap[q]? = some ce ∧ ce.vm = .none ∧ st.vm.findClass E = some ce.cls ∧ st.WarmedH t.vm ∧ st.sameButNew ({ t with vm := st.vm } : State) L mc ms ∧ ∀ z ∈ L, free z.base
def vx_Q (Qc : Array Value → State → Outcome → State → Prop) (XC : String → State → State → Prop) (mc ms : Nat) (free : Addr → Prop) : Array Value → State → Outcome → State → Prop := fun a st o t =>
  (Qc a st o t ∧ ∃ L, FrameEnd st o t L mc ms ∧ ∀ q ∈ L, free q.base) ∨ ∃ q, o = .threw q ∧ vx_T XC st q t mc ms free
/-- a callee that returns or throws -/
def vx_Met (l : Launch) (y : MethodName) (ws : List Cond) (rm : Room) (Pc : Array Value → State → Prop) (Qc : Array Value → State → Outcome → State → Prop) (XC : String → State → State → Prop) (mc ms : Nat) (free : Addr → Prop) : Prop :=
  MetFree l y (headSpec ws rm) Pc (fun _ _ _ _ _ => True) (vx_Q Qc XC mc ms free)
def vx_Post (XC : String → State → State → Prop) (mc ms : Nat) (free : Addr → Prop) : Pt → Array Value → Addr → Pt → Prop := fun A a q B =>
  ∃ (g : JFrame) (mk : MethodId) (t : State) (L : List Loc) (E : String) (ce : Cell), B.U.heap = t.heap ∧ B.U.vm = t.vm ∧ XC E (A.U.calling g mk a) t ∧ t.heap[q]? = some ce ∧ ce.vm = .none ∧ A.U.vm.findClass E = some ce.cls ∧ B.locs = A.locs ++ L ∧ (∀ z ∈ L, free z.base) ∧ B.cells = A.cells + mc ∧ B.slots = A.slots + ms
def vx_Back (l : Launch) (R : Room) (p : Program) (e : Env) (below : List Frame) (s : State) (sargs : Array Value) (y : MethodName) (len W9 : Nat)
    (Pre : Pt → Array Value → Prop) (Post : Pt → Array Value → Option Value → Pt → Prop) (PostX : Pt → Array Value → Addr → Pt → Prop) : Prop :=
  ∀ (m : MethodId) (meth : Method) (c : Code) (A : Pt) (g : JFrame) (ig : Instr) (mk : MethodId) (a : Array Value),
    Stand p l e R s m sargs below meth c A.U A.locs A.cells A.slots → g.method = m → g.locals.size = c.maxLocals → decode c.code g.pc = .ok (ig, len) →
    2 * g.monitorRoom + (g.stack.map fun v => v.category).sum ≤ W9 → A.U.methodNamed? y = some mk → Pre A a →
    (∃ (v : Option Value) (B : Pt), Stand p l e R s m sargs below meth c B.U B.locs B.cells B.slots ∧ Post A a v B ∧
      Steps p.tables e below (doInvoke e (A.U.setTop g) [] mk a).1 (B.U.setTop { g with pc := g.pc + len, stack := v.toList ++ g.stack })) ∨
    (∃ (q : Addr) (B : Pt), Stand p l e R s m sargs below meth c B.U B.locs B.cells B.slots ∧ PostX A a q B ∧
      Steps p.tables e below (doInvoke e (A.U.setTop g) [] mk a).1 ((B.U.setTop g).pushFrame (.throwing q)))
section Payer
variable {l : Launch} {R : Room} {p : Program} {e : Env} {below : List Frame} {s : State} {sargs : Array Value} {y : MethodName} {len W9 : Nat}
theorem vx_back {ws : List Cond} {rm : Room} {Pc : Array Value → State → Prop} {Qc : Array Value → State → Outcome → State → Prop} {XC : String → State → State → Prop} {mc ms : Nat} {free : Addr → Prop} {bytes : ByteArray} {maxL : Nat} {ret : Option FieldType}
    (hM : vx_Met l y ws rm Pc Qc XC mc ms free) (hblind : FrameBlind Pc) (hrc : rm.cells = mc) (hrs : rm.slots = ms)
    (hframes : rm.frames + 1 ≤ R.frames) (hlocals : W9 + (maxL + 11) + rm.locals ≤ R.locals)
    (hws : ∀ w ∈ ws, ∀ a' U, s.WarmedH U.vm → w.before a' U = true) (hcode : Cond.code y bytes maxL ret ∈ ws) (hinit : ∀ a' U, s.WarmedH U.vm → (Cond.initialized y.cls).before a' U = true) :
    vx_Back l R p e below s sargs y len W9 (PreOf R mc ms Pc) (PostOf Qc mc ms free) (vx_Post XC mc ms free) := by
  intro m meth c A g ig mk a X hg hsize hdg hW hn hp
  have h1 : (headSpec ws rm).pre.before a A.U = true := atoms_intro fun w hw => hws w hw _ _ X.warmed
  have h2 : (Cond.code y bytes maxL ret).before a A.U = true := hws _ hcode _ _ X.warmed
  have h3 : (Cond.initialized y.cls).before a A.U = true := hinit _ _ X.warmed
  have h4 : A.cells + (headSpec ws rm).room.cells ≤ R.cells := by rw [show (headSpec ws rm).room.cells = mc from hrc]; exact hp.1
  have h5 : A.slots + (headSpec ws rm).room.slots ≤ R.slots := by rw [show (headSpec ws rm).room.slots = ms from hrs]; exact hp.2.1
  have hPc : Pc a (A.U.calling g mk a) := hblind _ _ _ _ hp.2.2
  obtain ⟨U, Ls, c0, s0⟩ := A
  dsimp only [Pt.U, Pt.locs, Pt.cells, Pt.slots] at h1 h2 h3 h4 h5 X hn hPc ⊢
  obtain ⟨methY, cY, hmY, hcY, -, hlY, -, -, -, -⟩ := Cond.code_spec hn h2
  obtain ⟨kY, hkY, -⟩ := className_of_methodNamed hn
  have hinitY : kY.init = .initialized := Cond.initialized_spec (findClass_of_methodNamed hn) hkY h3
  have h : At U g.method c below := by rw [hg]; exact X.here
  have hlocals9 : W9 + (maxL + 11) + (headSpec ws rm).room.locals ≤ R.locals := hlocals
  have happ : (headSpec ws rm).appliesLoose y e.platform (U.calling g mk a) = true :=
    Spec.appliesLoose_calling (g := g) h hdg hn hkY hinitY
      (X.room_calling (g := g) (R' := (headSpec ws rm).room) hsize hmY hcY hframes (by rw [hlY]; omega) h4 h5) h1
  obtain ⟨mid, hmid⟩ := h.above
  have hfr : (U.setTop g).frames = (.java g :: mid) ++ below := by rw [State.frames_setTop' g h.top, hmid]; rfl
  obtain ⟨o, s₂, hsteps, -, hend, hq⟩ := Steps.callFree hM p X.admits X.cas X.clock (acts := []) hfr happ hPc trivial
  have hq' : vx_Q Qc XC mc ms free a (U.calling g mk a) o s₂ := hq
  rw [State.frames_setTop' g h.top] at hend
  obtain ⟨g₀, hg0⟩ := Option.isSome_iff_exists.mp h.top
  obtain ⟨r, hr⟩ := State.topJava?_eq_some.mp hg0
  have hr' : (({ U with heap := s₂.heap, slotsUsed := s₂.slotsUsed } : State).setVm s₂.vm).frames = .java g₀ :: r := hr
  rcases hq' with ⟨hqc, L, hfe, hL⟩ | ⟨q, rfl, E, ce, L, hx, hce, hcv, hcl, hW₂, hsm, hL⟩
  · obtain ⟨⟨v, rfl⟩, hW₂, e2, q2, q3, q4, q5, q6⟩ := id hfe
    have e3 : s₂ = ({ (U.calling g mk a).setFrames s₂.frames with heap := s₂.heap, slotsUsed := s₂.slotsUsed } : State).setVm s₂.vm := by
      have : s₂ = ({ s₂ with vm := (U.calling g mk a).vm } : State).setVm s₂.vm := rfl
      rw [e2] at this
      exact this
    obtain ⟨c₂, i₂, len₂, hc₂, hd₂, hf₂⟩ := hend
    have hW' : U.WarmedH s₂.vm := hW₂
    have hcc : c₂ = c := by
      have h1 : s₂.code? g.method = U.code? g.method := by
        rw [State.code?_eq, State.code?_eq, hW'.alike.method?]
      exact Option.some.inj (hc₂.symm.trans (h1.trans h.code))
    subst hcc
    have hlen : len₂ = len := by rw [hdg] at hd₂; cases hd₂; rfl
    subst hlen
    have hs₂ : s₂ = (({ U with heap := s₂.heap, slotsUsed := s₂.slotsUsed } : State).setVm s₂.vm).setTop { g with pc := g.pc + len₂, stack := v.toList ++ g.stack } := by
      refine e3.trans ?_
      rw [hf₂, State.calling_eq h.top, State.setFrames_setFrames, State.setTop_of_frames _ hr', hr]
      rfl
    have hsame : U.sameButNew ({ U with heap := s₂.heap, slotsUsed := s₂.slotsUsed } : State) L mc ms := by
      refine ⟨?_, q2, q3, q4, q5, q6⟩
      obtain ⟨t, ht, -⟩ := State.frames_cons hr
      show ({ U with heap := s₂.heap, slotsUsed := s₂.slotsUsed } : State) = { U.setFrames U.frames with heap := s₂.heap, slotsUsed := s₂.slotsUsed }
      rw [State.setFrames_self ht]
    subst hg
    refine Or.inl ⟨v, ⟨(({ U with heap := s₂.heap, slotsUsed := s₂.slotsUsed } : State).setVm s₂.vm), Ls ++ L, c0 + mc, s0 + ms⟩,
      ⟨X.admits, X.cas, X.clock, X.frames, X.room, X.hears, X.method, X.code, (X.here.setHeapUsed s₂.heap s₂.slotsUsed).setVm hW'.alike, X.tail, State.WarmedH.trans X.warmed hW', X.limits, X.bytes, X.same.trans (hsame.setVm s.vm)⟩,
      ⟨g, mk, s₂, L, rfl, rfl, hqc, rfl, hL, rfl, rfl⟩, ?_⟩
    show Steps p.tables e below _ ((({ U with heap := s₂.heap, slotsUsed := s₂.slotsUsed } : State).setVm s₂.vm).setTop { g with pc := g.pc + len₂, stack := v.toList ++ g.stack })
    rw [← hs₂]
    exact hsteps
  · obtain ⟨e2, q2, q3, q4, q5, q6⟩ := id hsm
    have e3 : s₂ = ({ (U.calling g mk a).setFrames s₂.frames with heap := s₂.heap, slotsUsed := s₂.slotsUsed } : State).setVm s₂.vm := by
      have : s₂ = ({ s₂ with vm := (U.calling g mk a).vm } : State).setVm s₂.vm := rfl
      rw [e2] at this
      exact this
    have hf₂ : s₂.frames = .throwing q :: .java g :: U.frames.tail := hend
    have hW' : U.WarmedH s₂.vm := hW₂
    have hs₂ : s₂ = ((({ U with heap := s₂.heap, slotsUsed := s₂.slotsUsed } : State).setVm s₂.vm).setTop g).pushFrame (.throwing q) := by
      refine e3.trans ?_
      rw [hf₂, State.calling_eq h.top, State.setFrames_setFrames, State.pushFrame, State.frames_setTop _ hr', State.setTop_of_frames _ hr', State.setFrames_setFrames, hr]
      rfl
    have hsame : U.sameButNew ({ U with heap := s₂.heap, slotsUsed := s₂.slotsUsed } : State) L mc ms := by
      refine ⟨?_, q2, q3, q4, q5, q6⟩
      obtain ⟨t, ht, -⟩ := State.frames_cons hr
      show ({ U with heap := s₂.heap, slotsUsed := s₂.slotsUsed } : State) = { U.setFrames U.frames with heap := s₂.heap, slotsUsed := s₂.slotsUsed }
      rw [State.setFrames_self ht]
    subst hg
    refine Or.inr ⟨q, ⟨(({ U with heap := s₂.heap, slotsUsed := s₂.slotsUsed } : State).setVm s₂.vm), Ls ++ L, c0 + mc, s0 + ms⟩,
      ⟨X.admits, X.cas, X.clock, X.frames, X.room, X.hears, X.method, X.code, (X.here.setHeapUsed s₂.heap s₂.slotsUsed).setVm hW'.alike, X.tail, State.WarmedH.trans X.warmed hW', X.limits, X.bytes, X.same.trans (hsame.setVm s.vm)⟩,
      ⟨g, mk, s₂, L, E, ce, rfl, rfl, hx, hce, hcv, hcl, rfl, hL, rfl, rfl⟩, ?_⟩
    show Steps p.tables e below _ (((({ U with heap := s₂.heap, slotsUsed := s₂.slotsUsed } : State).setVm s₂.vm).setTop g).pushFrame (.throwing q))
    rw [← hs₂]
    exact hsteps
end Payer
section Calls
variable {p : Program} {l : Launch} {e : Env} {R : Room} {s : State} {m : MethodId} {args : Array Value} {below : List Frame} {meth : Method} {c : Code} {T : State} {locs : List Loc} {cells slots : Nat}
theorem vx_callV (X : Stand p l e R s m args below meth c T locs cells slots) (hexec : p.tables.exec = Jvm.exec) {own C : String} {index : Nat} {y : MethodName} {bytes : ByteArray} {maxL : Nat} {ret : Option FieldType}
    (hown : s.vm.findClass own = some m.cls) (hlink : (Cond.methodLink own index y).before args s = true) (hinst : (Cond.instanceMethod y).before args s = true) (hsel : (Cond.selects C y y).before args s = true)
    (hcode : (Cond.code y bytes maxL ret).before args s = true) (hy : y.cls ≠ "java/lang/invoke/MethodHandle" ∧ y.cls ≠ "java/lang/invoke/VarHandle")
    {W9 : Nat} {Pre : Pt → Array Value → Prop} {Post : Pt → Array Value → Option Value → Pt → Prop} {PostX : Pt → Array Value → Addr → Pt → Prop} (hK : vx_Back l R p e below s args y 3 W9 Pre Post PostX)
    {b : Addr} {cellB : Cell} (hcell : T.heap[b]? = some cellB) (hobj : cellB.vm.isStatics = false) (hcls : s.vm.findClass C = some cellB.cls)
    {g : JFrame} (hg : g.method = m) (hsize : g.locals.size = c.maxLocals) {argsL rest : List Value} (hlen : ∀ sig, parseMethodDescriptor y.desc = some sig → argsL.length = sig.parameters.length)
    (hstack : g.stack = argsL.reverse ++ .ref b :: rest) (hW : 2 * g.monitorRoom + (rest.map fun v => v.category).sum ≤ W9) (hdg : decode c.code g.pc = .ok (.invokevirtual index, 3))
    (hpre : ∀ vm₁, s.WarmedH vm₁ → Pre ⟨T.setVm vm₁, locs, cells, slots⟩ (Value.ref b :: argsL).toArray) :
    (∃ (v : Option Value) (vm₁ : Vm) (B : Pt), s.WarmedH vm₁ ∧ Stand p l e R s m args below meth c B.U B.locs B.cells B.slots ∧ Post ⟨T.setVm vm₁, locs, cells, slots⟩ (Value.ref b :: argsL).toArray v B ∧
      ∀ target, Steps p.tables e below (B.U.setTop { g with pc := g.pc + 3, stack := v.toList ++ rest }) target → Steps p.tables e below (T.setTop g) target) ∨
    (∃ (q : Addr) (vm₁ : Vm) (B : Pt), s.WarmedH vm₁ ∧ Stand p l e R s m args below meth c B.U B.locs B.cells B.slots ∧ PostX ⟨T.setVm vm₁, locs, cells, slots⟩ (Value.ref b :: argsL).toArray q B ∧
      Steps p.tables e below (T.setTop g) ((B.U.setTop { g with stack := rest }).pushFrame (.throwing q))) := by
  obtain ⟨mk, methM, hnamed, hmethM, hstM, habM⟩ := Cond.instanceMethod_spec hinst
  obtain ⟨methM', cM, hmethM', -, -, -, -, -, -, hsigM⟩ := Cond.code_spec hnamed hcode
  cases hmethM.symm.trans hmethM'
  obtain ⟨c2, r2, m2, q1, q2, q3, q4, kP, hkP, hkPi⟩ := Cond.selects_spec hsel
  cases hcls.symm.trans q1
  cases (State.methodFound?_of_named hnamed hy).symm.trans q2
  cases hnamed.symm.trans q3
  have hselP : selectMethod e.platform s.vm cellB.cls mk = .method mk := by rw [Launch.admits_selectMethod X.admits]; exact q4
  obtain ⟨vm₁, X₁, hstep₁⟩ := X.invokevirtual hexec hown hlink hnamed hmethM hstM hkP hkPi hy (a := b) (cell := cellB) hcell
    (fun z h => by rw [h] at hobj; cases hobj) hselP hmethM habM hkP hkPi (g := g) hg (argsL := argsL) (rest := rest) (hlen _ hsigM) hstack hdg
  rcases hK m meth c ⟨T.setVm vm₁, locs, cells, slots⟩ { g with stack := rest } (.invokevirtual index) mk (Value.ref b :: argsL).toArray X₁ hg hsize hdg hW (X₁.named hnamed) (hpre vm₁ X₁.warmed) with ⟨v, B, X', hpost, hsteps⟩ | ⟨q, B, X', hpost, hsteps⟩
  · exact Or.inl ⟨v, vm₁, B, X₁.warmed, X', hpost, fun target h => hstep₁ _ fun acts => by rw [doInvoke_state]; exact hsteps.trans h⟩
  · exact Or.inr ⟨q, vm₁, B, X₁.warmed, X', hpost, hstep₁ _ fun acts => by rw [doInvoke_state]; exact hsteps⟩
theorem vx_callS (X : Stand p l e R s m args below meth c T locs cells slots) (hexec : p.tables.exec = Jvm.exec) {own : String} {index : Nat} {y : MethodName} {bytes : ByteArray} {maxL : Nat} {ret : Option FieldType}
    (hown : s.vm.findClass own = some m.cls) (hlink : (Cond.methodLink own index y).before args s = true) (hstat : (Cond.static y).before args s = true) (hinit : (Cond.initialized y.cls).before args s = true)
    (hcode : (Cond.code y bytes maxL ret).before args s = true) (hy : y.cls ≠ "java/lang/invoke/MethodHandle" ∧ y.cls ≠ "java/lang/invoke/VarHandle")
    {W9 : Nat} {Pre : Pt → Array Value → Prop} {Post : Pt → Array Value → Option Value → Pt → Prop} {PostX : Pt → Array Value → Addr → Pt → Prop} (hK : vx_Back l R p e below s args y 3 W9 Pre Post PostX)
    {g : JFrame} (hg : g.method = m) (hsize : g.locals.size = c.maxLocals) {argsL rest : List Value} (hlen : ∀ sig, parseMethodDescriptor y.desc = some sig → argsL.length = sig.parameters.length)
    (hstack : g.stack = argsL.reverse ++ rest) (hW : 2 * g.monitorRoom + (rest.map fun v => v.category).sum ≤ W9) (hdg : decode c.code g.pc = .ok (.invokestatic index, 3))
    (hpre : ∀ vm₁, s.WarmedH vm₁ → Pre ⟨T.setVm vm₁, locs, cells, slots⟩ argsL.toArray) :
    (∃ (v : Option Value) (vm₁ : Vm) (B : Pt), s.WarmedH vm₁ ∧ Stand p l e R s m args below meth c B.U B.locs B.cells B.slots ∧ Post ⟨T.setVm vm₁, locs, cells, slots⟩ argsL.toArray v B ∧
      ∀ target, Steps p.tables e below (B.U.setTop { g with pc := g.pc + 3, stack := v.toList ++ rest }) target → Steps p.tables e below (T.setTop g) target) ∨
    (∃ (q : Addr) (vm₁ : Vm) (B : Pt), s.WarmedH vm₁ ∧ Stand p l e R s m args below meth c B.U B.locs B.cells B.slots ∧ PostX ⟨T.setVm vm₁, locs, cells, slots⟩ argsL.toArray q B ∧
      Steps p.tables e below (T.setTop g) ((B.U.setTop { g with stack := rest }).pushFrame (.throwing q))) := by
  obtain ⟨mk, hnamed⟩ := Cond.code_named hcode
  obtain ⟨methM, cM, hmethM, -, -, -, -, -, -, hsigM⟩ := Cond.code_spec hnamed hcode
  have hstatic : methM.isStatic = true := Cond.static_spec hnamed hmethM hstat
  obtain ⟨kP, hkP, -⟩ := className_of_methodNamed hnamed
  have hinitP : kP.init = .initialized := Cond.initialized_spec (findClass_of_methodNamed hnamed) hkP hinit
  obtain ⟨vm₁, X₁, hstep₁⟩ := X.invokestatic hexec hown hlink hnamed hmethM hstatic hkP hinitP hy (g := g) hg (argsL := argsL) (rest := rest) (hlen _ hsigM) hstack hdg
  rcases hK m meth c ⟨T.setVm vm₁, locs, cells, slots⟩ { g with stack := rest } (.invokestatic index) mk argsL.toArray X₁ hg hsize hdg hW (X₁.named hnamed) (hpre vm₁ X₁.warmed) with ⟨v, B, X', hpost, hsteps⟩ | ⟨q, B, X', hpost, hsteps⟩
  · exact Or.inl ⟨v, vm₁, B, X₁.warmed, X', hpost, fun target h => hstep₁ _ fun acts => by rw [doInvoke_state]; exact hsteps.trans h⟩
  · exact Or.inr ⟨q, vm₁, B, X₁.warmed, X', hpost, hstep₁ _ fun acts => by rw [doInvoke_state]; exact hsteps⟩
end Calls
theorem vx_cls {s : State} {T : State} {vm₁ : Vm} {E : String} {k : ClassId} (hW : s.WarmedH vm₁) (h : (T.setVm vm₁).vm.findClass E = some k) : s.vm.findClass E = some k := by
  have h1 : vm₁.findClass E = some k := h
  rw [hW.alike.findClass] at h1
  exact h1
/-- the method's frame g, with q thrown over it -/
def vx_W (p : Program) (l : Launch) (e : Env) (R : Room) (s : State) (m : MethodId) (args : Array Value) (below : List Frame) (meth : Method) (c : Code) (H : Heap) (locs : List Loc) (cells slots : Nat) (Q : State → Prop) (g : JFrame) (q : Addr) : Prop :=
  ∀ T : State, T.heap = H → Stand p l e R s m args below meth c T locs cells slots → ∃ t, Steps p.tables e below ((T.setTop g).pushFrame (.throwing q)) t ∧ Q t
def vx_Run (p : Program) (l : Launch) (e : Env) (R : Room) (s : State) (m : MethodId) (args : Array Value) (below : List Frame) (meth : Method) (c : Code) (H : Heap) (locs : List Loc) (cells slots mc ms : Nat) (g : JFrame) (rest : List Value) (Qa : State → Outcome → State → Prop) (XC : String → State → State → Prop) (free : Addr → Prop) : Prop :=
  ∀ T : State, T.heap = H → Stand p l e R s m args below meth c T locs cells slots →
    (∃ (v : Option Value) (st₀ t T' : State) (L : List Loc), st₀.heap = H ∧ Stand p l e R s m args below meth c T' (locs ++ L) (cells + mc) (slots + ms) ∧ (∀ q ∈ L, free q.base) ∧ T'.heap = t.heap ∧ T'.vm = t.vm ∧ Qa st₀ (.returned v) t ∧
      Goes p e below T g T' { g with pc := g.pc + 3, stack := v.toList ++ rest }) ∨
    (∃ (q : Addr) (st₀ t T' : State) (L : List Loc) (E : String) (ce : Cell), st₀.heap = H ∧ Stand p l e R s m args below meth c T' (locs ++ L) (cells + mc) (slots + ms) ∧ (∀ z ∈ L, free z.base) ∧ T'.heap = t.heap ∧ T'.vm = t.vm ∧ XC E st₀ t ∧ t.heap[q]? = some ce ∧ ce.vm = .none ∧ s.vm.findClass E = some ce.cls ∧
      Steps p.tables e below (T.setTop g) ((T'.setTop { g with stack := rest }).pushFrame (.throwing q)))
def vx_X {S : Type} (px : S → Prop) (B : String → S → State → Prop) (A : Nat → Prop) : String → State → State → Prop := fun E st t => ∃ u : S, px u ∧ B E u t ∧ va_F A st t
section Runs
variable {p : Program} {l : Launch} {e : Env} {R : Room} {s : State} {m : MethodId} {args : Array Value} {below : List Frame} {meth : Method} {c : Code} {H : Heap} {locs : List Loc} {cells slots : Nat}
variable {y : MethodName} {bytes cc : ByteArray} {maxL nL mc ms n index : Nat} {ret : Option FieldType} {ws : List Cond} {rm : Room} {Pc : Array Value → State → Prop} {Qc : Array Value → State → Outcome → State → Prop} {XC : String → State → State → Prop} {free : Addr → Prop} {Ts : List Cond} {own C : String} {b : Addr} {As rest : List Value} {g : JFrame}
theorem vx_callBack (cb : CallB R s args own index y bytes maxL ret ws rm mc ms n) (hM : vx_Met l y ws rm Pc Qc XC mc ms free) (hbl : FrameBlind Pc) : vx_Back l R p e below s args y 3 8 (PreOf R mc ms Pc) (PostOf Qc mc ms free) (vx_Post XC mc ms free) := by
  obtain ⟨hrc, hrs, hfr, hlo, hws, hcw, -, hini, -⟩ := cb
  exact vx_back (bytes := bytes) (maxL := maxL) (ret := ret) hM hbl hrc hrs hfr hlo hws hcw (fun a' U hW => word_at hW (Or.inl (by first | rfl | simp [Cond.onTables, Cond.keeps, Cond.steady])) hini)
theorem vx_runV (S : CallFix p m c cc nL s args Ts own) (hM : vx_Met l y ws rm Pc Qc XC mc ms free) (cw : CallW R s args own C index y bytes maxL ret ws rm mc ms n) (hp : PreV s H C b Pc As)
    (hg : g.method = m) (hn : As.length = n) (hsize : g.locals.size = nL) (hstack : g.stack = As.reverse ++ .ref b :: rest) (hW : 2 * g.monitorRoom + (rest.map fun v => v.category).sum ≤ 8) (hdg : decode cc g.pc = .ok (.invokevirtual index, 3)) (hf : cells + mc ≤ R.cells ∧ slots + ms ≤ R.slots) :
    vx_Run p l e R s m args below meth c H locs cells slots mc ms g rest (Qc (Value.ref b :: As).toArray) XC free := by
  have hK : vx_Back l R p e below s args y 3 8 (PreOf R mc ms Pc) (PostOf Qc mc ms free) (vx_Post XC mc ms free) := vx_callBack cw.1 hM hp.1
  obtain ⟨⟨-, -, -, -, -, -, hcode, -, hy, hlen, hl⟩, hin, hse⟩ := cw
  obtain ⟨hx, hb, hml, ho, -⟩ := S
  obtain ⟨-, ⟨cellB, hcB, hoB, hclB⟩, hPc⟩ := hp
  intro T hT X
  rcases vx_callV X hx (C := C) (bytes := bytes) (maxL := maxL) (ret := ret) ho hl hin hse hcode hy hK (by rw [hT]; exact hcB) hoB hclB hg (hsize.trans hml.symm) (argsL := As) (rest := rest) (fun sig h => hn.trans (hlen sig h)) hstack hW (by rw [hb]; exact hdg)
    (fun vm₁ hW₁ => ⟨hf.1, hf.2, hPc (T.setVm vm₁) hT hW₁⟩) with ⟨v, vm₁, ⟨U', l2, c2, s2⟩, hW₁, X', ⟨g', mk, t, L, e1, e2, hq, h1, hL, h2, h3⟩, st⟩ | ⟨q, vm₁, ⟨U', l2, c2, s2⟩, hW₁, X', ⟨g', mk, t, L, E, ce, e1, e2, hq, hce, hcv, hcl, h1, hL, h2, h3⟩, st⟩
  · dsimp only [Pt.U, Pt.locs, Pt.cells, Pt.slots] at X' e1 e2 h1 h2 h3 st
    subst h1; subst h2; subst h3
    exact Or.inl ⟨v, (T.setVm vm₁).calling g' mk (Value.ref b :: As).toArray, t, U', L, hT, X', hL, e1, e2, hq, st⟩
  · dsimp only [Pt.U, Pt.locs, Pt.cells, Pt.slots] at X' e1 e2 h1 h2 h3 st hcl
    subst h1; subst h2; subst h3
    exact Or.inr ⟨q, (T.setVm vm₁).calling g' mk (Value.ref b :: As).toArray, t, U', L, E, ce, hT, X', hL, e1, e2, hq, hce, hcv, vx_cls hW₁ hcl, st⟩
theorem vx_runS (S : CallFix p m c cc nL s args Ts own) (hM : vx_Met l y ws rm Pc Qc XC mc ms free) (cw : CallB R s args own index y bytes maxL ret ws rm mc ms n ∧ (Cond.static y).before args s = true) (hp : PreS s H Pc As)
    (hg : g.method = m) (hn : As.length = n) (hsize : g.locals.size = nL) (hstack : g.stack = As.reverse ++ rest) (hW : 2 * g.monitorRoom + (rest.map fun v => v.category).sum ≤ 8) (hdg : decode cc g.pc = .ok (.invokestatic index, 3)) (hf : cells + mc ≤ R.cells ∧ slots + ms ≤ R.slots) :
    vx_Run p l e R s m args below meth c H locs cells slots mc ms g rest (Qc As.toArray) XC free := by
  have hK : vx_Back l R p e below s args y 3 8 (PreOf R mc ms Pc) (PostOf Qc mc ms free) (vx_Post XC mc ms free) := vx_callBack cw.1 hM hp.1
  obtain ⟨⟨-, -, -, -, -, -, hcode, hini, hy, hlen, hl⟩, hstt⟩ := cw
  obtain ⟨hx, hb, hml, ho, -⟩ := S
  intro T hT X
  rcases vx_callS X hx (bytes := bytes) (maxL := maxL) (ret := ret) ho hl hstt hini hcode hy hK hg (hsize.trans hml.symm) (argsL := As) (rest := rest) (fun sig h => hn.trans (hlen sig h)) hstack hW (by rw [hb]; exact hdg)
    (fun vm₁ hW₁ => ⟨hf.1, hf.2, hp.2 (T.setVm vm₁) hT hW₁⟩) with ⟨v, vm₁, ⟨U', l2, c2, s2⟩, hW₁, X', ⟨g', mk, t, L, e1, e2, hq, h1, hL, h2, h3⟩, st⟩ | ⟨q, vm₁, ⟨U', l2, c2, s2⟩, hW₁, X', ⟨g', mk, t, L, E, ce, e1, e2, hq, hce, hcv, hcl, h1, hL, h2, h3⟩, st⟩
  · dsimp only [Pt.U, Pt.locs, Pt.cells, Pt.slots] at X' e1 e2 h1 h2 h3 st
    subst h1; subst h2; subst h3
    exact Or.inl ⟨v, (T.setVm vm₁).calling g' mk As.toArray, t, U', L, hT, X', hL, e1, e2, hq, st⟩
  · dsimp only [Pt.U, Pt.locs, Pt.cells, Pt.slots] at X' e1 e2 h1 h2 h3 st hcl
    subst h1; subst h2; subst h3
    exact Or.inr ⟨q, (T.setVm vm₁).calling g' mk As.toArray, t, U', L, E, ce, hT, X', hL, e1, e2, hq, hce, hcv, vx_cls hW₁ hcl, st⟩
end Runs
section Rows
variable {p : Program} {l : Launch} {e : Env} {R : Room} {s : State} {m : MethodId} {args : Array Value} {below : List Frame} {meth : Method} {c : Code} {H : Heap} {locs : List Loc} {cells slots : Nat} {Q : State → Prop}
variable {mc ms : Nat} {free : Addr → Prop} {A0 A1 : Nat → Prop} {H0 : Heap} {a : Array Value} {pc : Nat} {ls : Array Slot} {st0 rest : List Value}
theorem vx_keep {st₀ t T' : State} {L : List Loc} (h0 : st₀.heap = H) (e1 : T'.heap = t.heap) (hS : va_S A0 H0 H locs) (hA : ∀ q, q < H.size → A1 q → A0 q) (hf : ∀ q, free q → A0 q) (hL : ∀ q ∈ L, free q.base) (hF : va_F A1 st₀ t) :
    H.size ≤ T'.heap.size ∧ (∀ q : Nat, q < H.size → ¬ A1 q → T'.heap[q]? = H[q]?) ∧ va_S A0 H0 T'.heap (locs ++ L) := by
  obtain ⟨hz, hk⟩ := hF
  rw [h0] at hz hk
  exact ⟨by rw [e1]; exact hz, fun q h1 h2 => by rw [e1]; exact hk q h1 h2,
    ⟨Nat.le_trans hS.1 (by rw [e1]; exact hz), fun q h1 h2 => by rw [e1, hk q (Nat.lt_of_lt_of_le h1 hS.1) (fun z => h2 (hA q (Nat.lt_of_lt_of_le h1 hS.1) z))]; exact hS.2.1 q h1 h2, fun q hq => by
      rcases List.mem_append.mp hq with h | h
      · exact hS.2.2 q h
      · exact hf _ (hL q h)⟩⟩
theorem vx_calli {S SX : Type} {post : Int32 → S → Prop} {px : SX → Prop} {B : S → State → Prop} {BX : String → SX → State → Prop} {AX : Nat → Prop} (hr : vx_Run p l e R s m args below meth c H locs cells slots mc ms (F0 m pc ls st0) rest (va_Qi post B A1 a) (vx_X px BX AX) free) (hS : va_S A0 H0 H locs) (hA : ∀ q, q < H.size → A1 q → A0 q) (hf : ∀ q, free q → A0 q) (hAX : ∀ q, q < H.size → AX q → A0 q)
    (kx : ∀ (E : String) (ce : Cell) (q9 : Addr) (u : SX) (t : State) (H1 : Heap) (locs1 : List Loc), t.heap = H1 → s.vm.Alike t.vm → px u → BX E u t → H.size ≤ H1.size → (∀ q : Nat, q < H.size → ¬ AX q → H1[q]? = H[q]?) → va_S A0 H0 H1 locs1 → H1[q9]? = some ce → ce.vm = .none → s.vm.findClass E = some ce.cls → vx_W p l e R s m args below meth c H1 locs1 (cells + mc) (slots + ms) Q (F0 m pc ls rest) q9)
    (kk : ∀ (r : Int32) (u : S) (t : State) (H1 : Heap) (locs1 : List Loc), t.heap = H1 → s.vm.Alike t.vm → post r u → B u t → H.size ≤ H1.size → (∀ q : Nat, q < H.size → ¬ A1 q → H1[q]? = H[q]?) → va_S A0 H0 H1 locs1 → W p l e R s m args below meth c H1 locs1 (cells + mc) (slots + ms) Q (F0 m (pc + 3) ls (.int r :: rest))) : W p l e R s m args below meth c H locs cells slots Q (F0 m pc ls st0) := by
  intro T hT X
  rcases hr T hT X with ⟨v, st₀, t, T', L, h0, X', hL, e1, e2, ⟨⟨r, u, hv, hp, hb⟩, hF⟩, st⟩ | ⟨q, st₀, t, T', L, E, ce, h0, X', hL, e1, e2, ⟨u, hp, hb, hF⟩, hce, hcv, hcl, st⟩
  · cases hv
    obtain ⟨k1, k2, k3⟩ := vx_keep h0 e1 hS hA hf hL hF
    obtain ⟨t2, a1, b1⟩ := kk r u t T'.heap (locs ++ L) e1.symm (by rw [← e2]; exact X'.warmed.alike) hp hb k1 k2 k3 T' rfl X'
    exact ⟨t2, st t2 a1, b1⟩
  · obtain ⟨k1, k2, k3⟩ := vx_keep h0 e1 hS hAX hf hL hF
    obtain ⟨t2, a1, b1⟩ := kx E ce q u t T'.heap (locs ++ L) e1.symm (by rw [← e2]; exact X'.warmed.alike) hp hb k1 k2 k3 (by rw [e1]; exact hce) hcv hcl T' rfl X'
    exact ⟨t2, st.trans a1, b1⟩
theorem vx_calll {S SX : Type} {post : Int64 → S → Prop} {px : SX → Prop} {B : S → State → Prop} {BX : String → SX → State → Prop} {AX : Nat → Prop} (hr : vx_Run p l e R s m args below meth c H locs cells slots mc ms (F0 m pc ls st0) rest (va_Ql post B A1 a) (vx_X px BX AX) free) (hS : va_S A0 H0 H locs) (hA : ∀ q, q < H.size → A1 q → A0 q) (hf : ∀ q, free q → A0 q) (hAX : ∀ q, q < H.size → AX q → A0 q)
    (kx : ∀ (E : String) (ce : Cell) (q9 : Addr) (u : SX) (t : State) (H1 : Heap) (locs1 : List Loc), t.heap = H1 → s.vm.Alike t.vm → px u → BX E u t → H.size ≤ H1.size → (∀ q : Nat, q < H.size → ¬ AX q → H1[q]? = H[q]?) → va_S A0 H0 H1 locs1 → H1[q9]? = some ce → ce.vm = .none → s.vm.findClass E = some ce.cls → vx_W p l e R s m args below meth c H1 locs1 (cells + mc) (slots + ms) Q (F0 m pc ls rest) q9)
    (kk : ∀ (r : Int64) (u : S) (t : State) (H1 : Heap) (locs1 : List Loc), t.heap = H1 → s.vm.Alike t.vm → post r u → B u t → H.size ≤ H1.size → (∀ q : Nat, q < H.size → ¬ A1 q → H1[q]? = H[q]?) → va_S A0 H0 H1 locs1 → W p l e R s m args below meth c H1 locs1 (cells + mc) (slots + ms) Q (F0 m (pc + 3) ls (.long r :: rest))) : W p l e R s m args below meth c H locs cells slots Q (F0 m pc ls st0) := by
  intro T hT X
  rcases hr T hT X with ⟨v, st₀, t, T', L, h0, X', hL, e1, e2, ⟨⟨r, u, hv, hp, hb⟩, hF⟩, st⟩ | ⟨q, st₀, t, T', L, E, ce, h0, X', hL, e1, e2, ⟨u, hp, hb, hF⟩, hce, hcv, hcl, st⟩
  · cases hv
    obtain ⟨k1, k2, k3⟩ := vx_keep h0 e1 hS hA hf hL hF
    obtain ⟨t2, a1, b1⟩ := kk r u t T'.heap (locs ++ L) e1.symm (by rw [← e2]; exact X'.warmed.alike) hp hb k1 k2 k3 T' rfl X'
    exact ⟨t2, st t2 a1, b1⟩
  · obtain ⟨k1, k2, k3⟩ := vx_keep h0 e1 hS hAX hf hL hF
    obtain ⟨t2, a1, b1⟩ := kx E ce q u t T'.heap (locs ++ L) e1.symm (by rw [← e2]; exact X'.warmed.alike) hp hb k1 k2 k3 (by rw [e1]; exact hce) hcv hcl T' rfl X'
    exact ⟨t2, st.trans a1, b1⟩
theorem vx_callf {S SX : Type} {post : UInt32 → S → Prop} {px : SX → Prop} {B : S → State → Prop} {BX : String → SX → State → Prop} {AX : Nat → Prop} (hr : vx_Run p l e R s m args below meth c H locs cells slots mc ms (F0 m pc ls st0) rest (va_Qf post B A1 a) (vx_X px BX AX) free) (hS : va_S A0 H0 H locs) (hA : ∀ q, q < H.size → A1 q → A0 q) (hf : ∀ q, free q → A0 q) (hAX : ∀ q, q < H.size → AX q → A0 q)
    (kx : ∀ (E : String) (ce : Cell) (q9 : Addr) (u : SX) (t : State) (H1 : Heap) (locs1 : List Loc), t.heap = H1 → s.vm.Alike t.vm → px u → BX E u t → H.size ≤ H1.size → (∀ q : Nat, q < H.size → ¬ AX q → H1[q]? = H[q]?) → va_S A0 H0 H1 locs1 → H1[q9]? = some ce → ce.vm = .none → s.vm.findClass E = some ce.cls → vx_W p l e R s m args below meth c H1 locs1 (cells + mc) (slots + ms) Q (F0 m pc ls rest) q9)
    (kk : ∀ (r : UInt32) (u : S) (t : State) (H1 : Heap) (locs1 : List Loc), t.heap = H1 → s.vm.Alike t.vm → post r u → B u t → H.size ≤ H1.size → (∀ q : Nat, q < H.size → ¬ A1 q → H1[q]? = H[q]?) → va_S A0 H0 H1 locs1 → W p l e R s m args below meth c H1 locs1 (cells + mc) (slots + ms) Q (F0 m (pc + 3) ls (.float r :: rest))) : W p l e R s m args below meth c H locs cells slots Q (F0 m pc ls st0) := by
  intro T hT X
  rcases hr T hT X with ⟨v, st₀, t, T', L, h0, X', hL, e1, e2, ⟨⟨r, u, hv, hp, hb⟩, hF⟩, st⟩ | ⟨q, st₀, t, T', L, E, ce, h0, X', hL, e1, e2, ⟨u, hp, hb, hF⟩, hce, hcv, hcl, st⟩
  · cases hv
    obtain ⟨k1, k2, k3⟩ := vx_keep h0 e1 hS hA hf hL hF
    obtain ⟨t2, a1, b1⟩ := kk r u t T'.heap (locs ++ L) e1.symm (by rw [← e2]; exact X'.warmed.alike) hp hb k1 k2 k3 T' rfl X'
    exact ⟨t2, st t2 a1, b1⟩
  · obtain ⟨k1, k2, k3⟩ := vx_keep h0 e1 hS hAX hf hL hF
    obtain ⟨t2, a1, b1⟩ := kx E ce q u t T'.heap (locs ++ L) e1.symm (by rw [← e2]; exact X'.warmed.alike) hp hb k1 k2 k3 (by rw [e1]; exact hce) hcv hcl T' rfl X'
    exact ⟨t2, st.trans a1, b1⟩
theorem vx_calld {S SX : Type} {post : UInt64 → S → Prop} {px : SX → Prop} {B : S → State → Prop} {BX : String → SX → State → Prop} {AX : Nat → Prop} (hr : vx_Run p l e R s m args below meth c H locs cells slots mc ms (F0 m pc ls st0) rest (va_Qd post B A1 a) (vx_X px BX AX) free) (hS : va_S A0 H0 H locs) (hA : ∀ q, q < H.size → A1 q → A0 q) (hf : ∀ q, free q → A0 q) (hAX : ∀ q, q < H.size → AX q → A0 q)
    (kx : ∀ (E : String) (ce : Cell) (q9 : Addr) (u : SX) (t : State) (H1 : Heap) (locs1 : List Loc), t.heap = H1 → s.vm.Alike t.vm → px u → BX E u t → H.size ≤ H1.size → (∀ q : Nat, q < H.size → ¬ AX q → H1[q]? = H[q]?) → va_S A0 H0 H1 locs1 → H1[q9]? = some ce → ce.vm = .none → s.vm.findClass E = some ce.cls → vx_W p l e R s m args below meth c H1 locs1 (cells + mc) (slots + ms) Q (F0 m pc ls rest) q9)
    (kk : ∀ (r : UInt64) (u : S) (t : State) (H1 : Heap) (locs1 : List Loc), t.heap = H1 → s.vm.Alike t.vm → post r u → B u t → H.size ≤ H1.size → (∀ q : Nat, q < H.size → ¬ A1 q → H1[q]? = H[q]?) → va_S A0 H0 H1 locs1 → W p l e R s m args below meth c H1 locs1 (cells + mc) (slots + ms) Q (F0 m (pc + 3) ls (.double r :: rest))) : W p l e R s m args below meth c H locs cells slots Q (F0 m pc ls st0) := by
  intro T hT X
  rcases hr T hT X with ⟨v, st₀, t, T', L, h0, X', hL, e1, e2, ⟨⟨r, u, hv, hp, hb⟩, hF⟩, st⟩ | ⟨q, st₀, t, T', L, E, ce, h0, X', hL, e1, e2, ⟨u, hp, hb, hF⟩, hce, hcv, hcl, st⟩
  · cases hv
    obtain ⟨k1, k2, k3⟩ := vx_keep h0 e1 hS hA hf hL hF
    obtain ⟨t2, a1, b1⟩ := kk r u t T'.heap (locs ++ L) e1.symm (by rw [← e2]; exact X'.warmed.alike) hp hb k1 k2 k3 T' rfl X'
    exact ⟨t2, st t2 a1, b1⟩
  · obtain ⟨k1, k2, k3⟩ := vx_keep h0 e1 hS hAX hf hL hF
    obtain ⟨t2, a1, b1⟩ := kx E ce q u t T'.heap (locs ++ L) e1.symm (by rw [← e2]; exact X'.warmed.alike) hp hb k1 k2 k3 (by rw [e1]; exact hce) hcv hcl T' rfl X'
    exact ⟨t2, st.trans a1, b1⟩
theorem vx_callv {S SX : Type} {post : S → Prop} {px : SX → Prop} {B : S → State → Prop} {BX : String → SX → State → Prop} {AX : Nat → Prop} (hr : vx_Run p l e R s m args below meth c H locs cells slots mc ms (F0 m pc ls st0) rest (va_Qv post B A1 a) (vx_X px BX AX) free) (hS : va_S A0 H0 H locs) (hA : ∀ q, q < H.size → A1 q → A0 q) (hf : ∀ q, free q → A0 q) (hAX : ∀ q, q < H.size → AX q → A0 q)
    (kx : ∀ (E : String) (ce : Cell) (q9 : Addr) (u : SX) (t : State) (H1 : Heap) (locs1 : List Loc), t.heap = H1 → s.vm.Alike t.vm → px u → BX E u t → H.size ≤ H1.size → (∀ q : Nat, q < H.size → ¬ AX q → H1[q]? = H[q]?) → va_S A0 H0 H1 locs1 → H1[q9]? = some ce → ce.vm = .none → s.vm.findClass E = some ce.cls → vx_W p l e R s m args below meth c H1 locs1 (cells + mc) (slots + ms) Q (F0 m pc ls rest) q9)
    (kk : ∀ (u : S) (t : State) (H1 : Heap) (locs1 : List Loc), t.heap = H1 → s.vm.Alike t.vm → post u → B u t → H.size ≤ H1.size → (∀ q : Nat, q < H.size → ¬ A1 q → H1[q]? = H[q]?) → va_S A0 H0 H1 locs1 → W p l e R s m args below meth c H1 locs1 (cells + mc) (slots + ms) Q (F0 m (pc + 3) ls (rest))) : W p l e R s m args below meth c H locs cells slots Q (F0 m pc ls st0) := by
  intro T hT X
  rcases hr T hT X with ⟨v, st₀, t, T', L, h0, X', hL, e1, e2, ⟨⟨u, hv, hp, hb⟩, hF⟩, st⟩ | ⟨q, st₀, t, T', L, E, ce, h0, X', hL, e1, e2, ⟨u, hp, hb, hF⟩, hce, hcv, hcl, st⟩
  · cases hv
    obtain ⟨k1, k2, k3⟩ := vx_keep h0 e1 hS hA hf hL hF
    obtain ⟨t2, a1, b1⟩ := kk u t T'.heap (locs ++ L) e1.symm (by rw [← e2]; exact X'.warmed.alike) hp hb k1 k2 k3 T' rfl X'
    exact ⟨t2, st t2 a1, b1⟩
  · obtain ⟨k1, k2, k3⟩ := vx_keep h0 e1 hS hAX hf hL hF
    obtain ⟨t2, a1, b1⟩ := kx E ce q u t T'.heap (locs ++ L) e1.symm (by rw [← e2]; exact X'.warmed.alike) hp hb k1 k2 k3 (by rw [e1]; exact hce) hcv hcl T' rfl X'
    exact ⟨t2, st.trans a1, b1⟩
/-- caught by the row x of this method's table; the rows ahead don't take it -/
theorem vx_catch {own name : String} {E : String} {ce : Cell} {q : Addr} (hown : s.vm.findClass own = some m.cls) (pre : List ExceptionTableEntry) (x : ExceptionTableEntry) (suf : List ExceptionTableEntry) (hsplit : c.exceptionTable.toList = pre ++ x :: suf)
    (hpass : ∀ z ∈ pre, covers z pc = false ∨ (z.catchType ≠ 0 ∧ ∃ nm : String, (Cond.classLink own z.catchType nm).before args s = true ∧ va_Nc E nm s)) (hx : covers x pc = true) (h0 : x.catchType ≠ 0)
    (hlink : (Cond.classLink own x.catchType name).before args s = true) (hcast : (Cond.castable E name).before args s = true) (hcell : H[q]? = some ce) (hv : ce.vm = .none) (hcl : s.vm.findClass E = some ce.cls)
    (kk : W p l e R s m args below meth c H locs cells slots Q (F0 m x.handlerPc ls [.ref q])) : vx_W p l e R s m args below meth c H locs cells slots Q (F0 m pc ls rest) q := by
  intro T hT X
  have hpl : e.platform.magicAccessors = ({} : Platform).magicAccessors := by rw [X.admits.platform]
  obtain ⟨c3, c4, hc3, hc4, hasg⟩ := Cond.castable_spec hcast
  cases Option.some.inj (hc3.symm.trans hcl)
  obtain ⟨c5, hc5, hcl5⟩ := Cond.classLink_spec hown hlink e.platform hpl
  cases Option.some.inj (hc4.symm.trans hc5)
  obtain ⟨vm', X', st⟩ := X.thenCaughtThrough q (g := F0 m pc ls rest) rfl (Steps.refl _) (by rw [hT]; exact hcell) (by rw [hv]; rfl) (by obtain ⟨k9, h9, -⟩ := Vm.findClass_spec hcl; exact ⟨k9, h9⟩) pre x suf hsplit
    (fun z hz => by
      rcases hpass z hz with h | ⟨hz0, nm, hl1, hn1⟩
      · exact Or.inl h
      · obtain ⟨c6, hc6, hcl6⟩ := Cond.classLink_spec hown hl1 e.platform hpl
        obtain ⟨a8, b8, h1, h2, h3⟩ := hn1
        cases Option.some.inj (h1.symm.trans hcl)
        cases Option.some.inj (h2.symm.trans hc6)
        exact Or.inr ⟨hz0, _, hcl6, h3⟩) hx (Or.inr ⟨h0, c4, hcl5, hasg⟩)
  obtain ⟨t, a1, b1⟩ := kk (T.setVm vm') hT X'
  exact ⟨t, st.trans a1, b1⟩
end Rows
section Ends
variable {p : Program} {l : Launch} {e : Env} {R : Room} {s : State} {m : MethodId} {args : Array Value} {below : List Frame} {meth : Method} {c : Code} {H : Heap} {locs : List Loc} {cells slots : Nat} {Q : State → Prop}
variable {mc ms : Nat} {free : Addr → Prop} {A0 A1 : Nat → Prop} {H0 : Heap} {a : Array Value} {ls : Array Slot} {st0 rest : List Value}
variable {Qc : Array Value → State → Outcome → State → Prop} {XC : String → State → State → Prop}
/-- what a body that may throw owes at its end -/
def vx_MQ (below : List Frame) (Qc : Array Value → State → Outcome → State → Prop) (XC : String → State → State → Prop) (a : Array Value) (s : State) (mc ms : Nat) (free : Addr → Prop) : State → Prop := fun t =>
  ∃ o, t.status = .running ∧ Ended t below o ∧ vx_Q Qc XC mc ms free a s o t
theorem vx_ret {g : JFrame} {mc ms : Nat} (k : W p l e R s m args below meth c H locs cells slots (MQ below Qc args s mc ms free) g) : W p l e R s m args below meth c H locs cells slots (vx_MQ below Qc XC args s mc ms free) g := by
  intro T hT X
  obtain ⟨t, a1, o, b1, b2, b3, b4⟩ := k T hT X
  exact ⟨t, a1, o, b1, b2, Or.inl ⟨b3, b4⟩⟩
/-- not caught here: it goes on to the caller -/
theorem vx_widen {g : JFrame} {q : Addr} {k n : Nat} (h1 : cells ≤ k) (h2 : slots ≤ n) (kk : vx_W p l e R s m args below meth c H locs k n Q g q) : vx_W p l e R s m args below meth c H locs cells slots Q g q := fun T hT X => kk T hT (stand_widen X h1 h2)
theorem vx_out {pc : Nat} {E : String} {ce : Cell} {q : Addr} {mc ms : Nat} (hout : ∀ x ∈ c.exceptionTable.toList, covers x pc = false) (hlocks : meth.locks = false) (hcell : H[q]? = some ce) (hv : ce.vm = .none) (hcl : s.vm.findClass E = some ce.cls)
    (hx : ∀ t : State, t.heap = H → s.vm.Alike t.vm → XC E s t) (hf : ∀ z ∈ locs, free z.base) (hc : cells ≤ mc) (hs : slots ≤ ms) :
    vx_W p l e R s m args below meth c H locs cells slots (vx_MQ below Qc XC args s mc ms free) (F0 m pc ls rest) q := by
  intro T hT X
  obtain ⟨st1, hrun, hend, hW, hsm⟩ := X.leaveThrown q (g := F0 m pc ls rest) rfl rfl rfl hout hlocks
  have hcell9 : (T.setFrames (.throwing q :: below)).heap[q]? = some ce := by
    show T.heap[q]? = some ce
    rw [hT]; exact hcell
  exact ⟨_, st1, .threw q, hrun, hend, Or.inr ⟨q, rfl, E, ce, locs, hx _ hT hW.alike, hcell9, hv, hcl, hW, hsm.mono hc hs, hf⟩⟩
theorem vx_frame {U : State} {k n : Nat} (h : s.sameButNew ({ U with vm := s.vm } : State) locs k n) : s.heap.size ≤ U.heap.size ∧ ∀ q : Nat, q < s.heap.size → (∀ z ∈ locs, z.base ≠ q) → U.heap[q]? = s.heap[q]? := by
  obtain ⟨-, h2, -, -, -, h6⟩ := h
  refine ⟨h2, fun q hq hz => ?_⟩
  obtain ⟨c9, e1, e2, e3, e4⟩ := h6 q _ (Array.getElem?_eq_getElem hq)
  have hs : c9.slots = (s.heap[q]).slots := Array.ext_getElem? fun i => e4 i fun hm => hz _ hm rfl
  have h9 : c9 = s.heap[q] := by
    rw [hs] at e2
    exact e2
  have e5 : U.heap[q]? = some c9 := e1
  rw [e5, h9, Array.getElem?_eq_getElem hq]
/-- the words of a throw but the four that speak of the heap -/
def vx_no (w : Cond) : Bool := decide (w ≠ .isRef (.static Bundle.tN "UNASSIGNED_STACK" Bundle.steD)) && decide (w ≠ .isRef (.static Bundle.tN "SUPPRESSED_SENTINEL" Bundle.listD)) && decide (w ≠ .laysStatic Bundle.tN "UNASSIGNED_STACK" Bundle.steD) && decide (w ≠ .laysStatic Bundle.tN "SUPPRESSED_SENTINEL" Bundle.listD)
def vx_at0 (own : String) (ic : Nat) (X : String) (names : List String) : List Cond := (Bundle.ownAtoms0 own ic X names).filter vx_no
def vx_atS (own : String) (ic : Nat) (X : String) (names : List String) : List Cond := (Bundle.ownAtoms own ic X names).filter vx_no
/-- a word that the tables alone decide, or a good one -/
def vx_ot (w : Cond) : Bool := w.onTables || goodWord w
theorem vx_ot_at {args a' : Array Value} {s U : State} {w : Cond} (hW : s.WarmedH U.vm) (hvm : s.vm = U.vm) (hg : vx_ot w = true) (h : w.before args s = true) : w.before a' U = true := by
  simp only [vx_ot, Bool.or_eq_true] at hg
  rcases hg with hg | hg
  · exact va_tabs hg hvm h
  · exact word_at hW (good_of_word hg) h
/-- a list's words: the good ones out of the method's own list, the others by premises of their own -/
theorem vx_hat {args : Array Value} {s : State} {L B : List Cond} (h1 : ∀ w ∈ L.filter goodWord, w.before args s = true) (h2 : ∀ w ∈ L.filter (fun w => !goodWord w), w ∈ B) (h3 : ∀ w ∈ B, w.before args s = true) : ∀ w ∈ L, w.before args s = true := by
  intro w hw
  by_cases g : goodWord w = true
  · exact h1 w (List.mem_filter.mpr ⟨hw, g⟩)
  · refine h3 w (h2 w (List.mem_filter.mpr ⟨hw, ?_⟩))
    show (!goodWord w) = true
    cases hgw : goodWord w
    · rfl
    · exact absurd hgw g
theorem vx_c {args : Array Value} {s : State} {w : Cond} {B : List Cond} (h : w.before args s = true) (t : ∀ w ∈ B, w.before args s = true) : ∀ w' ∈ w :: B, w'.before args s = true := fun w' h' => (List.mem_cons.mp h').elim (fun e => by rw [e]; exact h) (t w')
theorem vx_n {args : Array Value} {s : State} : ∀ w ∈ ([] : List Cond), w.before args s = true := fun _ h => nomatch h
theorem vx_own {args : Array Value} {s : State} {L : List Cond} (h1 : ∀ w ∈ L.filter vx_no, w.before args s = true)
    (hU : (Cond.isRef (.static Bundle.tN "UNASSIGNED_STACK" Bundle.steD)).before args s = true) (hN : (Cond.isRef (.static Bundle.tN "SUPPRESSED_SENTINEL" Bundle.listD)).before args s = true)
    (lU : (Cond.laysStatic Bundle.tN "UNASSIGNED_STACK" Bundle.steD).before args s = true) (lN : (Cond.laysStatic Bundle.tN "SUPPRESSED_SENTINEL" Bundle.listD).before args s = true) : ∀ w ∈ L, w.before args s = true := by
  intro w hw
  by_cases e1 : w = .isRef (.static Bundle.tN "UNASSIGNED_STACK" Bundle.steD)
  · rw [e1]; exact hU
  · by_cases e2 : w = .isRef (.static Bundle.tN "SUPPRESSED_SENTINEL" Bundle.listD)
    · rw [e2]; exact hN
    · by_cases e3 : w = .laysStatic Bundle.tN "UNASSIGNED_STACK" Bundle.steD
      · rw [e3]; exact lU
      · by_cases e4 : w = .laysStatic Bundle.tN "SUPPRESSED_SENTINEL" Bundle.listD
        · rw [e4]; exact lN
        · exact h1 w (List.mem_filter.mpr ⟨hw, by unfold vx_no; rw [decide_eq_true e1, decide_eq_true e2, decide_eq_true e3, decide_eq_true e4]; rfl⟩)
/-- where a static field lies, its class's statics cell in H -/
def vx_L (C n d : String) (A : Nat → Prop) (U : State) (H : Heap) : Prop := ∃ (c : ClassId) (k : Class) (i : Nat) (f : Field) (a : Nat) (cell : Cell), U.vm.findClass C = some c ∧ U.fieldFound? C n d = some (c, k, i, f) ∧ f.isStatic = true ∧ k.statics = some a ∧ H[a]? = some cell ∧ cell.vm.isStatics = true ∧ cell.cls = c ∧ f.slot < cell.slots.size ∧ k.staticTypes[f.slot]? = some f.type ∧ ¬ A a
theorem vx_L.moved {C n d : String} {A : Nat → Prop} {u U : State} {H : Heap} (hvm : u.vm.Alike U.vm) (h : vx_L C n d A u H) : vx_L C n d A U H := by
  obtain ⟨c, k, i, f, a, cell, h1, h2, h3, h4, h5, h6, h7, h8, h9, h10⟩ := h
  obtain ⟨k', hi', he⟩ := State.fieldFound?_setVm hvm h2
  exact ⟨c, k', i, f, a, cell, by rw [hvm.findClass]; exact h1, hi', h3, by rw [he]; exact h4, h5, h6, h7, h8, by rw [he]; exact h9, h10⟩
theorem vx_L.kept {C n d : String} {A : Nat → Prop} {U : State} {H H1 : Heap} (h : vx_L C n d A U H) (hq : ∀ a : Nat, a < H.size → ¬ A a → H1[a]? = H[a]?) : vx_L C n d A U H1 := by
  obtain ⟨c, k, i, f, a, cell, h1, h2, h3, h4, h5, h6, h7, h8, h9, h10⟩ := h
  exact ⟨c, k, i, f, a, cell, h1, h2, h3, h4, by rw [hq a (Array.getElem?_eq_some_iff.mp h5).1 h10]; exact h5, h6, h7, h8, h9, h10⟩
theorem vx_L.narrow {C n d : String} {A B : Nat → Prop} {U : State} {H : Heap} (h : vx_L C n d A U H) (hAB : ∀ q, B q → A q) : vx_L C n d B U H := by
  obtain ⟨c, k, i, f, a, cell, h1, h2, h3, h4, h5, h6, h7, h8, h9, h10⟩ := h
  exact ⟨c, k, i, f, a, cell, h1, h2, h3, h4, h5, h6, h7, h8, h9, fun z => h10 (hAB _ z)⟩
theorem vx_L.word {C n d : String} {A : Nat → Prop} {s : State} {args : Array Value} (h : vx_L C n d A s s.heap) : (Cond.laysStatic C n d).before args s = true := by
  obtain ⟨c, k, i, f, a, cell, h1, h2, h3, h4, h5, h6, h7, h8, h9, -⟩ := h
  show (Cond.laysStatic C n d).holds args s none s [] = true
  exact Cond.laysStatic_of h1 h2 h3 h4 h5 h6 h7 h8 h9
/-- .. and what it holds: null or some reference -/
def vx_Zq (C n d : String) (A : Nat → Prop) (U : State) (H : Heap) : Prop := va_Zq C n d A U H ∧ vx_L C n d A U H
theorem vx_Zq.moved {C n d : String} {A : Nat → Prop} {u U : State} {H : Heap} (hvm : u.vm.Alike U.vm) (h : vx_Zq C n d A u H) : vx_Zq C n d A U H := ⟨va_Zq.moved hvm h.1, vx_L.moved hvm h.2⟩
theorem vx_Zq.kept {C n d : String} {A : Nat → Prop} {U : State} {H H1 : Heap} (h : vx_Zq C n d A U H) (hq : ∀ a : Nat, a < H.size → ¬ A a → H1[a]? = H[a]?) : vx_Zq C n d A U H1 := ⟨va_Zq.kept h.1 hq, vx_L.kept h.2 hq⟩
theorem vx_Zq.narrow {C n d : String} {A B : Nat → Prop} {U : State} {H : Heap} (h : vx_Zq C n d A U H) (hAB : ∀ q, B q → A q) : vx_Zq C n d B U H := ⟨va_Zq.narrow h.1 hAB, vx_L.narrow h.2 hAB⟩
theorem vx_Zqof {args : Array Value} {s : State} {C n d : String} {A : Nat → Prop} (hl : (Cond.laysStatic C n d).before args s = true) (hini : (Cond.initialized C).before args s = true) (h : (Cond.isRef (.static C n d)).before args s = true) (hA : ∀ a : Nat, a < s.heap.size → ¬ A a) : vx_Zq C n d A s s.heap := by
  refine ⟨va_Zqof hl hini h hA, ?_⟩
  obtain ⟨c, k, i, f, a, cell, h1, h2, h3, h4, h5, h6, h7, h8, h9⟩ := Cond.laysStatic_spec hl
  exact ⟨c, k, i, f, a, cell, h1, h2, h3, h4, h5, h6, h7, h8, h9, hA a (Array.getElem?_eq_some_iff.mp h5).1⟩
theorem vx_isRef {C n d : String} {v : Value} {A : Nat → Prop} {s : State} {args : Array Value} (h : va_Z C n d v A s s.heap) (hv : v.isRef = true) : (Cond.isRef (.static C n d)).before args s = true := by
  obtain ⟨cf, kf, fi, f, a, cell, h1, h2, h3, h4, h5, h6, h7, -⟩ := h
  have he : (Term.static C n d).eval args s none [] s = some v := by
    simp [Term.eval, State.fieldNamed?, h1, h2, h4, h5, h6, h7]
  simp only [Cond.before, Cond.holds, Cond.value, he]
  cases v <;> simp_all [Value.isRef]
theorem vx_isRefq {C n d : String} {A : Nat → Prop} {s : State} {args : Array Value} (h : va_Zq C n d A s s.heap) : (Cond.isRef (.static C n d)).before args s = true := by
  rcases h with h | ⟨t, h⟩
  · exact vx_isRef h rfl
  · exact vx_isRef h rfl
/-- the same frame, seen from here: as if the method were called anew in this heap -/
theorem vx_rebase {T : State} (X : Stand p l e R s m args below meth c T locs cells slots) {R' : Room} (hf : R'.frames ≤ R.frames) (hl : R'.locals ≤ R.locals) (hc : cells + R'.cells ≤ R.cells) (hs : slots + R'.slots ≤ R.slots) :
    Stand p l e R' ((T.setVm s.vm).setFrames (.invoking m args :: below)) m args below meth c T [] 0 0 := by
  have htop : (T.setVm s.vm).topJava?.isSome := X.here.top
  have hF : ((T.setVm s.vm).setFrames (.invoking m args :: below)).frames = .invoking m args :: below := State.frames_setFrames _ (State.cur_lt_of_top htop)
  obtain ⟨g₀, hg0⟩ := Option.isSome_iff_exists.mp htop
  obtain ⟨r, hr⟩ := State.topJava?_eq_some.mp hg0
  have hl9 : e.platform.stackLimits (T.setVm s.vm).me = e.platform.stackLimits s.me := X.limits
  have hb9 : (T.setVm s.vm).me.stackBytes = s.me.stackBytes := X.bytes
  refine ⟨X.admits, X.cas, X.clock, hF, ?_, X.hears, X.method, X.code, X.here, X.tail, X.warmed, ?_, ?_, ?_⟩
  · have h := X.room
    have hU : ((T.setVm s.vm).setFrames (.invoking m args :: below)).localsInUse = s.localsInUse := by
      rw [State.localsInUse_invoking hF (meth := meth) (c := c) X.method X.code, State.localsInUse_invoking X.frames X.method X.code]
    simp only [State.hasRoom, Bool.and_eq_true, decide_eq_true_eq] at h ⊢
    obtain ⟨⟨⟨⟨h1, h2, h3, h4, h5, h6⟩, h7⟩, h8⟩, h9⟩ := h
    rw [X.frames, List.length_cons] at h2 h3
    have q1 := X.heapSize
    have q2 := X.used
    simp only [hF, hU, List.length_cons, State.stackLimits_setFrames, State.stackBytes_setFrames, hl9, hb9]
    refine ⟨⟨⟨⟨by omega, by omega, by omega, by omega, by omega, h6⟩, ?_⟩, ?_⟩, X.book⟩
    · show T.heap.size + R'.cells ≤ e.platform.maxCells
      omega
    · show T.slotsUsed + R'.slots ≤ e.platform.maxSlots
      omega
  · rw [State.stackLimits_setFrames]; rfl
  · rw [State.stackBytes_setFrames]; rfl
  · refine ⟨?_, Nat.le_refl _, Nat.le_refl _, ?_, ?_, fun a c9 h9 => ⟨c9, h9, rfl, rfl, fun _ _ => rfl⟩⟩
    · obtain ⟨t, ht, -⟩ := State.frames_cons hr
      show T.setVm s.vm = { ((T.setVm s.vm).setFrames (.invoking m args :: below)).setFrames (T.setVm s.vm).frames with heap := T.heap, slotsUsed := T.slotsUsed }
      rw [State.setFrames_setFrames, State.setFrames_self ht]
      rfl
    · show T.slotsUsed = T.slotsUsed + ((T.heap.toList.drop T.heap.size).map (·.slots.size)).sum
      rw [List.drop_eq_nil_of_le (Nat.le_of_eq Array.length_toList)]
      rfl
    · show ((T.heap.toList.drop T.heap.size).map (·.slots.size)).sum ≤ 0
      rw [List.drop_eq_nil_of_le (Nat.le_of_eq Array.length_toList)]
      exact Nat.le_refl _
/-- 'throw new E()': new; dup; invokespecial; athrow -/
theorem vx_throw0 {cc : ByteArray} {pc : Nat} (hexec : p.tables.exec = Jvm.exec) (hb : c.code = cc) (hl : l.stackTraces = false) {own cls : String} {names : List String} {ik ic mc ms : Nat} {A : Nat → Prop}
    (hown : s.vm.findClass own = some m.cls) (hcls : Bundle.fit cls = true) (hnames : ∀ n ∈ names, Bundle.fit n = true)
    (hk : (Cond.classLink own ik cls).before args s = true) (hini : (Cond.initialized cls).before args s = true) (hat : ∀ w ∈ vx_at0 own ic cls names, w.before args s = true)
    (hgood : ∀ w ∈ Cond.classLink own ik cls :: Cond.initialized cls :: vx_at0 own ic cls names, vx_ot w = true)
    (hU : vx_Zq Bundle.tN "UNASSIGNED_STACK" Bundle.steD A s s.heap) (hN : vx_Zq Bundle.tN "SUPPRESSED_SENTINEL" Bundle.listD A s s.heap) (hS : va_S A s.heap H locs) (hsize : ls.size = c.maxLocals)
    (d0 : decode cc pc = .ok (.new ik, 3)) (d3 : decode cc (pc + 3) = .ok (.dup, 1)) (d4 : decode cc (pc + 4) = .ok (.invokespecial ic, 3)) (d7 : decode cc (pc + 7) = .ok (.athrow, 1))
    (hout : ∀ x ∈ c.exceptionTable.toList, covers x (pc + 7) = false)
    (hRframes : names.length + 3 < R.frames) (hRlocals : (rest.map fun v => v.category).sum + (13 * (names.length + 1) + 42) ≤ R.locals) (hRcells : cells + 1 ≤ R.cells) (hRslots : slots + 6 ≤ R.slots) (hlocks : meth.locks = false)
    (hx : ∀ t : State, s.vm.Alike t.vm → H.size ≤ t.heap.size → (∀ q : Nat, q < H.size → t.heap[q]? = H[q]?) → XC cls s t)
    (hf : ∀ z ∈ locs, free z.base) (hc : cells + 1 ≤ mc) (hs : slots + 6 ≤ ms) :
    W p l e R s m args below meth c H locs cells slots (vx_MQ below Qc XC args s mc ms free) (F0 m pc ls rest) := by
  intro T hT X
  have htr : e.platform.stackTraces = false := (show e.platform.stackTraces = l.stackTraces by rw [X.admits.platform]).trans hl
  have Y := vx_rebase X (R' := { frames := R.frames, locals := R.locals, cells := 1, slots := 6 }) (Nat.le_refl _) (Nat.le_refl _) hRcells hRslots
  obtain ⟨s', hA⟩ : ∃ z, z = (T.setVm s.vm).setFrames (.invoking m args :: below) := ⟨_, rfl⟩
  rw [← hA] at Y
  have hvm : s'.vm = s.vm := by rw [hA]; rfl
  have hhp : s'.heap = H := by rw [hA]; exact hT
  have hW0 : s.WarmedH s'.vm := by rw [hvm]; exact State.WarmedH.refl s
  have hat' : ∀ w ∈ vx_at0 own ic cls names, w.before args s' = true := fun w hw => vx_ot_at hW0 hvm.symm (hgood w (List.mem_cons_of_mem _ (List.mem_cons_of_mem _ hw))) (hat w hw)
  have hk' : (Cond.classLink own ik cls).before args s' = true := vx_ot_at hW0 hvm.symm (hgood _ List.mem_cons_self) hk
  have hini' : (Cond.initialized cls).before args s' = true := vx_ot_at hW0 hvm.symm (hgood _ (List.mem_cons_of_mem _ List.mem_cons_self)) hini
  have hU' : vx_Zq Bundle.tN "UNASSIGNED_STACK" Bundle.steD A s' s'.heap := by rw [hhp]; exact vx_Zq.moved hW0.alike (hU.kept hS.2.1)
  have hN' : vx_Zq Bundle.tN "SUPPRESSED_SENTINEL" Bundle.listD A s' s'.heap := by rw [hhp]; exact vx_Zq.moved hW0.alike (hN.kept hS.2.1)
  have h : ∀ w ∈ Bundle.ownAtoms0 own ic cls names, w.before args s' = true := vx_own hat' (vx_isRefq hU'.1) (vx_isRefq hN'.1) hU'.2.word hN'.2.word
  have hown' : s'.vm.findClass own = some m.cls := by rw [hvm]; exact hown
  have hins : (Cond.instantiable cls 6).before args s' = true := h _ (by simp [Bundle.ownAtoms0])
  obtain ⟨vm₁, cX, kX, hfX, hkX, -, -, X₁, st1⟩ := Y.newCold hexec (own := own) (C := cls) (index := ik) (n := 6) hown' hk' hins hini'
    (g := F0 m pc ls rest) rfl (by rw [hb]; exact d0) (Nat.le_refl _) (Nat.le_refl _)
  generalize hT1 : (T.setVm vm₁).pushCell { cls := cX, slots := kX.instanceTypes.map defaultValue, vm := .none } = T1 at X₁ st1
  have hcat : (Value.ref T.heap.size).category = 1 := rfl
  have hcellA : T1.heap[T.heap.size]? = some (freshCell cX kX) := by rw [← hT1]; exact State.heap_pushCell_size _ _
  have d3' : decode c.code (pc + 3) = .ok (.dup, 1) := by rw [hb]; exact d3
  obtain ⟨U, hsteps, hrun, hend, hW, hsame, ce, hce, hO⟩ := X₁.ctorThrow0 hexec htr (own := own) (cls := cls) (names := names) (ic := ic) hown' hcls hnames h (fun x hx => nomatch hx) hfX hkX hcellA (by rw [hhp, hT]; exact Nat.le_refl _)
    (g := { method := m, pc := pc + 4, locals := ls, stack := .ref T.heap.size :: .ref T.heap.size :: rest, locked := none }) rfl hsize rfl rfl (rest := rest) rfl
    (by rw [hb]; exact d4) (by rw [hb]; exact d7) hout hRframes (by simp only [List.map_cons, List.sum_cons, hcat]; omega) hlocks
  obtain ⟨f1, f2⟩ := vx_frame hsame
  rw [hhp] at f1 f2
  have hWs : s.WarmedH U.vm := State.WarmedH.trans hW0 hW
  have hcl : s.vm.findClass cls = some ce.cls := by
    have h9 := hO.cls
    rw [hvm] at h9
    exact h9
  have hall : s.sameButNew ({ U with vm := s.vm } : State) locs mc ms := by
    subst hA
    obtain ⟨e1, e2⟩ := hsame
    rw [State.setFrames_setFrames] at e1
    have h2 : (T.setVm s.vm).sameButNew ({ U with vm := s.vm } : State) [] (0 + 1) (0 + 6) := ⟨e1, e2⟩
    have h3 := X.same.trans h2
    rw [List.append_nil] at h3
    exact h3.mono hc hs
  refine ⟨U, ?_, .threw T.heap.size, hrun, hend, Or.inr ⟨T.heap.size, rfl, cls, ce, locs, hx U hWs.alike f1 (fun q hq => f2 q hq (fun z hz => nomatch hz)), hce, hO.vm, hcl, hWs, hall, hf⟩⟩
  refine st1 _ ?_
  show Steps p.tables e below (T1.setTop { method := m, pc := pc + 3, locals := ls, stack := .ref T.heap.size :: rest, locked := none }) _
  jvm_step X₁.here [X₁.here.top, hexec, d3', Value.category]
  exact hsteps
/-- 'throw new E("text")': new; dup; ldc; invokespecial; athrow -/
theorem vx_throwS {cc : ByteArray} {pc : Nat} (hexec : p.tables.exec = Jvm.exec) (hb : c.code = cc) (hl : l.stackTraces = false) {own cls text : String} {names : List String} {ik is ic mc ms sa : Nat} {A : Nat → Prop}
    (hown : s.vm.findClass own = some m.cls) (hcls : Bundle.fit cls = true) (hnames : ∀ n ∈ names, Bundle.fit n = true)
    (hk : (Cond.classLink own ik cls).before args s = true) (hini : (Cond.initialized cls).before args s = true) (hstr : vk_R own is text sa s) (hat : ∀ w ∈ vx_atS own ic cls names, w.before args s = true)
    (hgood : ∀ w ∈ Cond.classLink own ik cls :: Cond.initialized cls :: vx_atS own ic cls names, vx_ot w = true)
    (hU : vx_Zq Bundle.tN "UNASSIGNED_STACK" Bundle.steD A s s.heap) (hN : vx_Zq Bundle.tN "SUPPRESSED_SENTINEL" Bundle.listD A s s.heap) (hS : va_S A s.heap H locs) (hsize : ls.size = c.maxLocals)
    (d0 : decode cc pc = .ok (.new ik, 3)) (d3 : decode cc (pc + 3) = .ok (.dup, 1)) (d4 : decode cc (pc + 4) = .ok (.ldc is, 2)) (d6 : decode cc (pc + 6) = .ok (.invokespecial ic, 3)) (d9 : decode cc (pc + 9) = .ok (.athrow, 1))
    (hout : ∀ x ∈ c.exceptionTable.toList, covers x (pc + 9) = false)
    (hRframes : names.length + 3 < R.frames) (hRlocals : (rest.map fun v => v.category).sum + (13 * (names.length + 1) + 43) ≤ R.locals) (hRcells : cells + 1 ≤ R.cells) (hRslots : slots + 6 ≤ R.slots) (hlocks : meth.locks = false)
    (hx : ∀ t : State, s.vm.Alike t.vm → H.size ≤ t.heap.size → (∀ q : Nat, q < H.size → t.heap[q]? = H[q]?) → XC cls s t)
    (hf : ∀ z ∈ locs, free z.base) (hc : cells + 1 ≤ mc) (hs : slots + 6 ≤ ms) :
    W p l e R s m args below meth c H locs cells slots (vx_MQ below Qc XC args s mc ms free) (F0 m pc ls rest) := by
  intro T hT X
  have htr : e.platform.stackTraces = false := (show e.platform.stackTraces = l.stackTraces by rw [X.admits.platform]).trans hl
  have Y := vx_rebase X (R' := { frames := R.frames, locals := R.locals, cells := 1, slots := 6 }) (Nat.le_refl _) (Nat.le_refl _) hRcells hRslots
  obtain ⟨s', hA⟩ : ∃ z, z = (T.setVm s.vm).setFrames (.invoking m args :: below) := ⟨_, rfl⟩
  rw [← hA] at Y
  have hvm : s'.vm = s.vm := by rw [hA]; rfl
  have hhp : s'.heap = H := by rw [hA]; exact hT
  have hW0 : s.WarmedH s'.vm := by rw [hvm]; exact State.WarmedH.refl s
  have hat' : ∀ w ∈ vx_atS own ic cls names, w.before args s' = true := fun w hw => vx_ot_at hW0 hvm.symm (hgood w (List.mem_cons_of_mem _ (List.mem_cons_of_mem _ hw))) (hat w hw)
  have hk' : (Cond.classLink own ik cls).before args s' = true := vx_ot_at hW0 hvm.symm (hgood _ List.mem_cons_self) hk
  have hini' : (Cond.initialized cls).before args s' = true := vx_ot_at hW0 hvm.symm (hgood _ (List.mem_cons_of_mem _ List.mem_cons_self)) hini
  have hU' : vx_Zq Bundle.tN "UNASSIGNED_STACK" Bundle.steD A s' s'.heap := by rw [hhp]; exact vx_Zq.moved hW0.alike (hU.kept hS.2.1)
  have hN' : vx_Zq Bundle.tN "SUPPRESSED_SENTINEL" Bundle.listD A s' s'.heap := by rw [hhp]; exact vx_Zq.moved hW0.alike (hN.kept hS.2.1)
  have h : ∀ w ∈ Bundle.ownAtoms own ic cls names, w.before args s' = true := vx_own hat' (vx_isRefq hU'.1) (vx_isRefq hN'.1) hU'.2.word hN'.2.word
  have hown' : s'.vm.findClass own = some m.cls := by rw [hvm]; exact hown
  have hins : (Cond.instantiable cls 6).before args s' = true := h _ (by simp [Bundle.ownAtoms])
  obtain ⟨vm₁, cX, kX, hfX, hkX, -, -, X₁, st1⟩ := Y.newCold hexec (own := own) (C := cls) (index := ik) (n := 6) hown' hk' hins hini'
    (g := F0 m pc ls rest) rfl (by rw [hb]; exact d0) (Nat.le_refl _) (Nat.le_refl _)
  generalize hT1 : (T.setVm vm₁).pushCell { cls := cX, slots := kX.instanceTypes.map defaultValue, vm := .none } = T1 at X₁ st1
  have hcat : (Value.ref T.heap.size).category = 1 := rfl
  have hcellA : T1.heap[T.heap.size]? = some (freshCell cX kX) := by rw [← hT1]; exact State.heap_pushCell_size _ _
  have d3' : decode c.code (pc + 3) = .ok (.dup, 1) := by rw [hb]; exact d3
  have d4' : decode c.code (pc + 4) = .ok (.ldc is, 2) := by rw [hb]; exact d4
  have hstr' : vk_R own is text sa s' := vk_R.warm hW0 hstr
  obtain ⟨U, hsteps, hrun, hend, hW, hsame, ce, hce, hO⟩ := X₁.ctorThrowS hexec htr (own := own) (cls := cls) (names := names) (ic := ic) hown' hcls hnames h (fun x hx => nomatch hx) hfX hkX hcellA (by rw [hhp, hT]; exact Nat.le_refl _) (msg := .ref sa) rfl
    (g := { method := m, pc := pc + 6, locals := ls, stack := .ref sa :: .ref T.heap.size :: .ref T.heap.size :: rest, locked := none }) rfl hsize rfl rfl (rest := rest) rfl
    (by rw [hb]; exact d6) (by rw [hb]; exact d9) hout hRframes (by simp only [List.map_cons, List.sum_cons, hcat]; omega) hlocks
  obtain ⟨f1, f2⟩ := vx_frame hsame
  rw [hhp] at f1 f2
  have hWs : s.WarmedH U.vm := State.WarmedH.trans hW0 hW
  have hcl : s.vm.findClass cls = some ce.cls := by
    have h9 := hO.cls
    rw [hvm] at h9
    exact h9
  have hall : s.sameButNew ({ U with vm := s.vm } : State) locs mc ms := by
    subst hA
    obtain ⟨e1, e2⟩ := hsame
    rw [State.setFrames_setFrames] at e1
    have h2 : (T.setVm s.vm).sameButNew ({ U with vm := s.vm } : State) [] (0 + 1) (0 + 6) := ⟨e1, e2⟩
    have h3 := X.same.trans h2
    rw [List.append_nil] at h3
    exact h3.mono hc hs
  refine ⟨U, ?_, .threw T.heap.size, hrun, hend, Or.inr ⟨T.heap.size, rfl, cls, ce, locs, hx U hWs.alike f1 (fun q hq => f2 q hq (fun z hz => nomatch hz)), hce, hO.vm, hcl, hWs, hall, hf⟩⟩
  refine st1 _ ?_
  show Steps p.tables e below (T1.setTop { method := m, pc := pc + 3, locals := ls, stack := .ref T.heap.size :: rest, locked := none }) _
  jvm_step X₁.here [X₁.here.top, hexec, d3', Value.category]
  exact X₁.ldcString hexec (own := own) (text := text) (index := is) (a := sa) hown' hstr'.1 hstr'.2
    (g := { method := m, pc := pc + 4, locals := ls, stack := .ref T.heap.size :: .ref T.heap.size :: rest, locked := none }) rfl d4' _ hsteps
/-- 'throw new E("text")', the text by a wide index -/
theorem vx_throwSW {cc : ByteArray} {pc : Nat} (hexec : p.tables.exec = Jvm.exec) (hb : c.code = cc) (hl : l.stackTraces = false) {own cls text : String} {names : List String} {ik is ic mc ms sa : Nat} {A : Nat → Prop}
    (hown : s.vm.findClass own = some m.cls) (hcls : Bundle.fit cls = true) (hnames : ∀ n ∈ names, Bundle.fit n = true)
    (hk : (Cond.classLink own ik cls).before args s = true) (hini : (Cond.initialized cls).before args s = true) (hstr : vk_R own is text sa s) (hat : ∀ w ∈ vx_atS own ic cls names, w.before args s = true)
    (hgood : ∀ w ∈ Cond.classLink own ik cls :: Cond.initialized cls :: vx_atS own ic cls names, vx_ot w = true)
    (hU : vx_Zq Bundle.tN "UNASSIGNED_STACK" Bundle.steD A s s.heap) (hN : vx_Zq Bundle.tN "SUPPRESSED_SENTINEL" Bundle.listD A s s.heap) (hS : va_S A s.heap H locs) (hsize : ls.size = c.maxLocals)
    (d0 : decode cc pc = .ok (.new ik, 3)) (d3 : decode cc (pc + 3) = .ok (.dup, 1)) (d4 : decode cc (pc + 4) = .ok (.ldc_w is, 3)) (d7 : decode cc (pc + 7) = .ok (.invokespecial ic, 3)) (d10 : decode cc (pc + 10) = .ok (.athrow, 1))
    (hout : ∀ x ∈ c.exceptionTable.toList, covers x (pc + 10) = false)
    (hRframes : names.length + 3 < R.frames) (hRlocals : (rest.map fun v => v.category).sum + (13 * (names.length + 1) + 43) ≤ R.locals) (hRcells : cells + 1 ≤ R.cells) (hRslots : slots + 6 ≤ R.slots) (hlocks : meth.locks = false)
    (hx : ∀ t : State, s.vm.Alike t.vm → H.size ≤ t.heap.size → (∀ q : Nat, q < H.size → t.heap[q]? = H[q]?) → XC cls s t)
    (hf : ∀ z ∈ locs, free z.base) (hc : cells + 1 ≤ mc) (hs : slots + 6 ≤ ms) :
    W p l e R s m args below meth c H locs cells slots (vx_MQ below Qc XC args s mc ms free) (F0 m pc ls rest) := by
  intro T hT X
  have htr : e.platform.stackTraces = false := (show e.platform.stackTraces = l.stackTraces by rw [X.admits.platform]).trans hl
  have Y := vx_rebase X (R' := { frames := R.frames, locals := R.locals, cells := 1, slots := 6 }) (Nat.le_refl _) (Nat.le_refl _) hRcells hRslots
  obtain ⟨s', hA⟩ : ∃ z, z = (T.setVm s.vm).setFrames (.invoking m args :: below) := ⟨_, rfl⟩
  rw [← hA] at Y
  have hvm : s'.vm = s.vm := by rw [hA]; rfl
  have hhp : s'.heap = H := by rw [hA]; exact hT
  have hW0 : s.WarmedH s'.vm := by rw [hvm]; exact State.WarmedH.refl s
  have hat' : ∀ w ∈ vx_atS own ic cls names, w.before args s' = true := fun w hw => vx_ot_at hW0 hvm.symm (hgood w (List.mem_cons_of_mem _ (List.mem_cons_of_mem _ hw))) (hat w hw)
  have hk' : (Cond.classLink own ik cls).before args s' = true := vx_ot_at hW0 hvm.symm (hgood _ List.mem_cons_self) hk
  have hini' : (Cond.initialized cls).before args s' = true := vx_ot_at hW0 hvm.symm (hgood _ (List.mem_cons_of_mem _ List.mem_cons_self)) hini
  have hU' : vx_Zq Bundle.tN "UNASSIGNED_STACK" Bundle.steD A s' s'.heap := by rw [hhp]; exact vx_Zq.moved hW0.alike (hU.kept hS.2.1)
  have hN' : vx_Zq Bundle.tN "SUPPRESSED_SENTINEL" Bundle.listD A s' s'.heap := by rw [hhp]; exact vx_Zq.moved hW0.alike (hN.kept hS.2.1)
  have h : ∀ w ∈ Bundle.ownAtoms own ic cls names, w.before args s' = true := vx_own hat' (vx_isRefq hU'.1) (vx_isRefq hN'.1) hU'.2.word hN'.2.word
  have hown' : s'.vm.findClass own = some m.cls := by rw [hvm]; exact hown
  have hins : (Cond.instantiable cls 6).before args s' = true := h _ (by simp [Bundle.ownAtoms])
  obtain ⟨vm₁, cX, kX, hfX, hkX, -, -, X₁, st1⟩ := Y.newCold hexec (own := own) (C := cls) (index := ik) (n := 6) hown' hk' hins hini'
    (g := F0 m pc ls rest) rfl (by rw [hb]; exact d0) (Nat.le_refl _) (Nat.le_refl _)
  generalize hT1 : (T.setVm vm₁).pushCell { cls := cX, slots := kX.instanceTypes.map defaultValue, vm := .none } = T1 at X₁ st1
  have hcat : (Value.ref T.heap.size).category = 1 := rfl
  have hcellA : T1.heap[T.heap.size]? = some (freshCell cX kX) := by rw [← hT1]; exact State.heap_pushCell_size _ _
  have d3' : decode c.code (pc + 3) = .ok (.dup, 1) := by rw [hb]; exact d3
  have d4' : decode c.code (pc + 4) = .ok (.ldc_w is, 3) := by rw [hb]; exact d4
  have hstr' : vk_R own is text sa s' := vk_R.warm hW0 hstr
  obtain ⟨U, hsteps, hrun, hend, hW, hsame, ce, hce, hO⟩ := X₁.ctorThrowS hexec htr (own := own) (cls := cls) (names := names) (ic := ic) hown' hcls hnames h (fun x hx => nomatch hx) hfX hkX hcellA (by rw [hhp, hT]; exact Nat.le_refl _) (msg := .ref sa) rfl
    (g := { method := m, pc := pc + 7, locals := ls, stack := .ref sa :: .ref T.heap.size :: .ref T.heap.size :: rest, locked := none }) rfl hsize rfl rfl (rest := rest) rfl
    (by rw [hb]; exact d7) (by rw [hb]; exact d10) hout hRframes (by simp only [List.map_cons, List.sum_cons, hcat]; omega) hlocks
  obtain ⟨f1, f2⟩ := vx_frame hsame
  rw [hhp] at f1 f2
  have hWs : s.WarmedH U.vm := State.WarmedH.trans hW0 hW
  have hcl : s.vm.findClass cls = some ce.cls := by
    have h9 := hO.cls
    rw [hvm] at h9
    exact h9
  have hall : s.sameButNew ({ U with vm := s.vm } : State) locs mc ms := by
    subst hA
    obtain ⟨e1, e2⟩ := hsame
    rw [State.setFrames_setFrames] at e1
    have h2 : (T.setVm s.vm).sameButNew ({ U with vm := s.vm } : State) [] (0 + 1) (0 + 6) := ⟨e1, e2⟩
    have h3 := X.same.trans h2
    rw [List.append_nil] at h3
    exact h3.mono hc hs
  refine ⟨U, ?_, .threw T.heap.size, hrun, hend, Or.inr ⟨T.heap.size, rfl, cls, ce, locs, hx U hWs.alike f1 (fun q hq => f2 q hq (fun z hz => nomatch hz)), hce, hO.vm, hcl, hWs, hall, hf⟩⟩
  refine st1 _ ?_
  show Steps p.tables e below (T1.setTop { method := m, pc := pc + 3, locals := ls, stack := .ref T.heap.size :: rest, locked := none }) _
  jvm_step X₁.here [X₁.here.top, hexec, d3', Value.category]
  exact X₁.ldcStringW hexec (own := own) (text := text) (index := is) (a := sa) hown' hstr'.1 hstr'.2
    (g := { method := m, pc := pc + 4, locals := ls, stack := .ref T.heap.size :: .ref T.heap.size :: rest, locked := none }) rfl d4' _ hsteps
end Ends
section Bodies
variable {l : Launch}
theorem vx_ofW {y : MethodName} {ws ws' : List Cond} {rm : Room} {Pc : Array Value → State → Prop} {Qc : Array Value → State → Outcome → State → Prop} {XC : String → State → State → Prop} {mc ms : Nat} {free : Addr → Prop} {cc : ByteArray} {maxL : Nat} {ret : Option FieldType}
    (hy : plainName y.cls = true) (hw : ws = Cond.code y cc maxL ret :: ws')
    (body : ∀ p e s m args below meth c s₁, BodyLoose p l y (headSpec ws rm) cc maxL ret e s m args below meth c s₁ → c.maxLocals = maxL → (∀ x ∈ c.exceptionTable.toList, False) → Pc args s →
      W p l e (headSpec ws rm).room s m args below meth c s.heap [] 0 0 (vx_MQ below Qc XC args s mc ms free) (entryFrame m args maxL)) : vx_Met l y ws rm Pc Qc XC mc ms free := by
  refine MetFree.of_bodyS (code := cc) (maxLocals := maxL) (ret := ret) hy ?_ ?_
  · intro args s m h hn
    obtain ⟨meth, c, h1, h2, h3, h4, h5, h6, -, -⟩ := Cond.code_spec hn (atoms_spec (ws := ws) h _ (by rw [hw]; exact List.mem_cons_self))
    exact ⟨meth, c, h1, h2, h3, h4, h5, h6⟩
  · intro p e s m args below meth c s₁ B hml hP _
    have hh0 : s₁.heap = s.heap := by rw [B.state]; rfl
    have ht : ∀ x ∈ c.exceptionTable.toList, False := by
      obtain ⟨meth9, c9, h1, h2, -, -, -, -, h7, -⟩ := Cond.code_spec B.named (atoms_spec (ws := ws) B.pre _ (by rw [hw]; exact List.mem_cons_self))
      cases Option.some.inj (h1.symm.trans B.method)
      cases Option.some.inj (h2.symm.trans (Stand.of_body B).code)
      intro x hx
      rw [Array.isEmpty_iff.mp h7] at hx
      cases hx
    obtain ⟨t, a1, o, b1, b2, b3⟩ := body p e s m args below meth c s₁ B hml ht hP s₁ hh0 (Stand.of_body B)
    exact ⟨t, o, a1, b1, b2, b3⟩
/-- the table of a body with handlers -/
theorem vx_table {p : Program} {x y : MethodName} {S : Spec} {cc bytes : ByteArray} {maxL maxL' : Nat} {ret ret' : Option FieldType} {e : Env} {s s₁ : State} {m : MethodId} {args : Array Value} {below : List Frame} {meth : Method} {c : Code} {hh : List (Nat × Nat × Nat × Nat)}
    (B : BodyLoose p l y S cc maxL ret e s m args below meth c s₁) (h : (Cond.codeWith y bytes maxL' ret' hh).before args s = true) : c.exceptionTable.toList = tableOf hh := by
  obtain ⟨m9, meth9, c9, hn9, h1, h2, -, -, h6, -⟩ := Cond.codeWith_spec h
  cases Option.some.inj (hn9.symm.trans B.named)
  cases Option.some.inj (h1.symm.trans B.method)
  cases Option.some.inj (h2.symm.trans (Stand.of_body B).code)
  rw [← h6, table_eq]
end Bodies
end VXA
/-! ===== END ===== -/
/-! ===== BEGIN a static call of a method with an exception table ===== -/
section VXS
variable {p : Program} {l : Launch} {e : Env} {R : Room} {s : State} {m : MethodId} {args : Array Value} {below : List Frame} {meth : Method} {c : Code} {T : State} {H : Heap} {locs : List Loc} {cells slots : Nat}
abbrev vx_CSW (R : Room) (s : State) (args : Array Value) (own : String) (index : Nat) (y : MethodName) (bytes : ByteArray) (maxL : Nat) (ret : Option FieldType) (hh : List (Nat × Nat × Nat × Nat)) (ws : List Cond) (rm : Room) (mc ms n : Nat) : Prop :=
  (rm.cells = mc ∧ rm.slots = ms ∧ rm.frames + 1 ≤ R.frames ∧ 8 + (maxL + 11) + rm.locals ≤ R.locals ∧ (∀ w ∈ ws, ∀ (a' : Array Value) (U : State), s.WarmedH U.vm → w.before a' U = true) ∧ Cond.codeWith y bytes maxL ret hh ∈ ws) ∧
  (Cond.codeWith y bytes maxL ret hh).before args s = true ∧ (Cond.initialized y.cls).before args s = true ∧ (y.cls ≠ "java/lang/invoke/MethodHandle" ∧ y.cls ≠ "java/lang/invoke/VarHandle") ∧
  (∀ sig, parseMethodDescriptor y.desc = some sig → n = sig.parameters.length) ∧ (Cond.methodLink own index y).before args s = true ∧ (Cond.static y).before args s = true
theorem vx_cwSW {own : String} {index maxL mc ms : Nat} {y : MethodName} {bytes : ByteArray} {ret : Option FieldType} {hh : List (Nat × Nat × Nat × Nat)} {Ts ws ws' : List Cond} {rm : Room} (n : Nat) (ht : ∀ w ∈ Ts, w.before args s = true) (hT : GoodIn Ts (va_wsS own index y ws)) (hw : ws = Cond.codeWith y bytes maxL ret hh :: ws') (hrc : rm.cells = mc) (hrs : rm.slots = ms)
    (hd : y.cls ≠ "java/lang/invoke/MethodHandle" ∧ y.cls ≠ "java/lang/invoke/VarHandle" ∧ (parseMethodDescriptor y.desc).map (fun d => d.parameters.length) = some n) (hR : rm.frames + 1 ≤ R.frames ∧ 8 + (maxL + 11) + rm.locals ≤ R.locals) :
    vx_CSW R s args own index y bytes maxL ret hh ws rm mc ms n := by
  have ok : ∀ w ∈ va_wsS own index y ws, w.before args s = true := fun w h => ht w (hT w h).1
  have hG : GoodIn Ts ws := fun w h => hT w (by unfold va_wsS; exact List.mem_append_right _ h)
  have hc : Cond.codeWith y bytes maxL ret hh ∈ ws := by rw [hw]; exact List.mem_cons_self
  refine ⟨⟨hrc, hrs, hR.1, hR.2, pay_in ht hG, hc⟩, ht _ (hG _ hc).1, ok _ (by simp [va_wsS]), ⟨hd.1, hd.2.1⟩, fun sig h => ?_, ok _ (by simp [va_wsS]), ok _ (by simp [va_wsS])⟩
  have h2 := hd.2.2
  rw [h] at h2
  exact (Option.some.inj h2).symm
theorem vx_callSW (X : Stand p l e R s m args below meth c T locs cells slots) (hexec : p.tables.exec = Jvm.exec) {own : String} {index : Nat} {y : MethodName} {bytes : ByteArray} {maxL : Nat} {ret : Option FieldType} {hh : List (Nat × Nat × Nat × Nat)}
    (hown : s.vm.findClass own = some m.cls) (hlink : (Cond.methodLink own index y).before args s = true) (hstat : (Cond.static y).before args s = true) (hinit : (Cond.initialized y.cls).before args s = true)
    (hcode : (Cond.codeWith y bytes maxL ret hh).before args s = true) (hy : y.cls ≠ "java/lang/invoke/MethodHandle" ∧ y.cls ≠ "java/lang/invoke/VarHandle")
    {W9 : Nat} {Pre : Pt → Array Value → Prop} {Post : Pt → Array Value → Option Value → Pt → Prop} (hK : Back l R p e below s args y 3 W9 Pre Post)
    {g : JFrame} (hg : g.method = m) (hsize : g.locals.size = c.maxLocals) {argsL rest : List Value} (hlen : ∀ sig, parseMethodDescriptor y.desc = some sig → argsL.length = sig.parameters.length)
    (hstack : g.stack = argsL.reverse ++ rest) (hW : 2 * g.monitorRoom + (rest.map fun v => v.category).sum ≤ W9) (hdg : decode c.code g.pc = .ok (.invokestatic index, 3))
    (hpre : ∀ vm₁, s.WarmedH vm₁ → Pre ⟨T.setVm vm₁, locs, cells, slots⟩ argsL.toArray) :
    ∃ (v : Option Value) (vm₁ : Vm) (B : Pt), s.WarmedH vm₁ ∧ Stand p l e R s m args below meth c B.U B.locs B.cells B.slots ∧ Post ⟨T.setVm vm₁, locs, cells, slots⟩ argsL.toArray v B ∧
      ∀ target, Steps p.tables e below (B.U.setTop { g with pc := g.pc + 3, stack := v.toList ++ rest }) target → Steps p.tables e below (T.setTop g) target := by
  obtain ⟨mk, methM, cM, hnamed, hmethM, -, -, -, -, -, -, hsigM⟩ := Cond.codeWith_spec hcode
  have hstatic : methM.isStatic = true := Cond.static_spec hnamed hmethM hstat
  obtain ⟨kP, hkP, -⟩ := className_of_methodNamed hnamed
  have hinitP : kP.init = .initialized := Cond.initialized_spec (findClass_of_methodNamed hnamed) hkP hinit
  obtain ⟨vm₁, X₁, hstep₁⟩ := X.invokestatic hexec hown hlink hnamed hmethM hstatic hkP hinitP hy (g := g) hg (argsL := argsL) (rest := rest) (hlen _ hsigM) hstack hdg
  obtain ⟨v, B, X', hpost, hsteps⟩ := hK m meth c ⟨T.setVm vm₁, locs, cells, slots⟩ { g with stack := rest } (.invokestatic index) mk argsL.toArray X₁ hg hsize hdg hW (X₁.named hnamed) (hpre vm₁ X₁.warmed)
  exact ⟨v, vm₁, B, X₁.warmed, X', hpost, fun target h => hstep₁ _ fun acts => by rw [doInvoke_state]; exact hsteps.trans h⟩
theorem vx_runSW {y : MethodName} {bytes cc : ByteArray} {maxL nL mc ms n index : Nat} {ret : Option FieldType} {hh : List (Nat × Nat × Nat × Nat)} {ws : List Cond} {rm : Room} {Pc : Array Value → State → Prop} {Qc : Array Value → State → Outcome → State → Prop} {free : Addr → Prop} {Ts : List Cond} {own : String} {As rest : List Value} {g : JFrame}
    (S : CallFix p m c cc nL s args Ts own) (hM : Met l y ws rm Pc Qc mc ms free) (cw : vx_CSW R s args own index y bytes maxL ret hh ws rm mc ms n) (hp : PreS s H Pc As)
    (hg : g.method = m) (hn : As.length = n) (hsize : g.locals.size = nL) (hstack : g.stack = As.reverse ++ rest) (hW : 2 * g.monitorRoom + (rest.map fun v => v.category).sum ≤ 8) (hdg : decode cc g.pc = .ok (.invokestatic index, 3)) (hf : cells + mc ≤ R.cells ∧ slots + ms ≤ R.slots) :
    va_Run p l e R s m args below meth c H locs cells slots mc ms g rest (Qc As.toArray) (free) := by
  obtain ⟨⟨hrc, hrs, hfr, hlo, hws, hcw⟩, hcode, hini, hy, hlen, hl, hstt⟩ := cw
  have hK : Back l R p e below s args y 3 8 (PreOf R mc ms Pc) (PostOf Qc mc ms free) := va_backW (hh := hh) (bytes := bytes) (maxL := maxL) (ret := ret) hM hp.1 hrc hrs hfr hlo hws hcw (fun a' U hW => word_at hW (Or.inl (by first | rfl | simp [Cond.onTables, Cond.keeps, Cond.steady])) hini)
  obtain ⟨hx, hb, hml, ho, -⟩ := S
  intro T hT X
  obtain ⟨v, vm₁, ⟨U', l2, c2, s2⟩, hW₁, X', ⟨g', mk, t, L, e1, e2, hq, h1, hL, h2, h3⟩, st⟩ := vx_callSW X hx (hh := hh) (bytes := bytes) (maxL := maxL) (ret := ret) ho hl hstt hini hcode hy hK hg (hsize.trans hml.symm) (argsL := As) (rest := rest) (fun sig h => hn.trans (hlen sig h)) hstack hW (by rw [hb]; exact hdg)
    (fun vm₁ hW₁ => ⟨hf.1, hf.2, hp.2 (T.setVm vm₁) hT hW₁⟩)
  dsimp only [Pt.U, Pt.locs, Pt.cells, Pt.slots] at X' e1 e2 h1 h2 h3 st
  subst h1; subst h2; subst h3
  exact ⟨v, (T.setVm vm₁).calling g' mk As.toArray, t, U', L, hT, X', hL, e1, e2, hq, st⟩
/-- not caught here, past rows that name other classes: it goes on to the caller -/
theorem vx_outP {p : Program} {l : Launch} {e : Env} {R : Room} {s : State} {m : MethodId} {args : Array Value} {below : List Frame} {meth : Method} {c : Code} {H : Heap} {locs : List Loc} {cells slots : Nat} {free : Addr → Prop} {ls : Array Slot} {rest : List Value} {Qc : Array Value → State → Outcome → State → Prop} {XC : String → State → State → Prop}
    {pc : Nat} {own E : String} {ce : Cell} {q : Addr} {mc ms : Nat} (hown : s.vm.findClass own = some m.cls) (hlocks : meth.locks = false)
    (hpass : ∀ z ∈ c.exceptionTable.toList, covers z pc = false ∨ (z.catchType ≠ 0 ∧ ∃ nm : String, (Cond.classLink own z.catchType nm).before args s = true ∧ va_Nc E nm s)) (hcell : H[q]? = some ce) (hv : ce.vm = .none) (hcl : s.vm.findClass E = some ce.cls)
    (hx : ∀ t : State, t.heap = H → s.vm.Alike t.vm → XC E s t) (hf : ∀ z ∈ locs, free z.base) (hc : cells ≤ mc) (hs : slots ≤ ms) :
    vx_W p l e R s m args below meth c H locs cells slots (vx_MQ below Qc XC args s mc ms free) (F0 m pc ls rest) q := by
  intro T hT X
  have hpl : e.platform.magicAccessors = ({} : Platform).magicAccessors := by rw [X.admits.platform]
  obtain ⟨vm', hW', X', st⟩ := X.outThrough hlocks q (g := F0 m pc ls rest) rfl rfl rfl (cell := ce) (by rw [hT]; exact hcell) (by rw [hv]; rfl)
    (by obtain ⟨k9, h9, -⟩ := Vm.findClass_spec hcl; exact ⟨k9, h9⟩) (fun z hz => by
      rcases hpass z hz with h | ⟨hz0, nm, hl1, hn1⟩
      · exact Or.inl h
      · obtain ⟨c6, hc6, hcl6⟩ := Cond.classLink_spec hown hl1 e.platform hpl
        obtain ⟨a8, b8, h1, h2, h3⟩ := hn1
        cases Option.some.inj (h1.symm.trans hcl)
        cases Option.some.inj (h2.symm.trans hc6)
        exact Or.inr ⟨hz0, _, hcl6, h3⟩)
  obtain ⟨g₀, hfr⟩ := X'.frames_eq
  have hcell9 : ((T.setVm vm').setFrames (.throwing q :: below)).heap[q]? = some ce := by
    show T.heap[q]? = some ce
    rw [hT]; exact hcell
  have hend : Ended ((T.setVm vm').setFrames (.throwing q :: below)) below (.threw q) := State.frames_setFrames _ (State.cur_lt_of_frames hfr)
  refine ⟨(T.setVm vm').setFrames (.throwing q :: below), ?_, .threw q, X'.here.running, hend, Or.inr ⟨q, rfl, E, ce, locs, hx _ hT (X'.ends _).1.alike, hcell9, hv, hcl, (X'.ends _).1, (X'.ends _).2.mono hc hs, hf⟩⟩
  rw [X.pushThrowing_eq]
  exact st
/-- a thing of a world lies in the heap -/
theorem vx_lt {D : va_G} {cl : List vw_C} {ws : va_W} {H1 : Heap} (h : va_P D cl ws H1) {k : Nat} {q : Nat × va_E} (hk : ws[k]? = some q) : q.1 < H1.size := (h k q hk).lt
end VXS
/-! ===== END ===== -/
/-! ===== BEGIN methods with a table of their own: called by a name, returning or throwing ===== -/
section VXH
/-! vx_backW, vx_callVX, vx_callSX, vx_callVW, vx_runVW, vx_runVX, vx_runSX, vx_ofWH follow the same proofs as their sisters above (Free/Laws.lean, Shelf42/LK1.lean); vx_outP calls Shelf42/NT130.lean (outThrough). -/
section
variable {l : Launch} {R : Room} {p : Program} {e : Env} {below : List Frame} {s : State} {sargs : Array Value} {y : MethodName} {len W9 : Nat}
theorem vx_backW {ws : List Cond} {rm : Room} {Pc : Array Value → State → Prop} {Qc : Array Value → State → Outcome → State → Prop} {XC : String → State → State → Prop} {mc ms : Nat} {free : Addr → Prop} {bytes : ByteArray} {maxL : Nat} {ret : Option FieldType} {hh : List (Nat × Nat × Nat × Nat)}
    (hM : vx_Met l y ws rm Pc Qc XC mc ms free) (hblind : FrameBlind Pc) (hrc : rm.cells = mc) (hrs : rm.slots = ms)
    (hframes : rm.frames + 1 ≤ R.frames) (hlocals : W9 + (maxL + 11) + rm.locals ≤ R.locals)
    (hws : ∀ w ∈ ws, ∀ a' U, s.WarmedH U.vm → w.before a' U = true) (hcode : Cond.codeWith y bytes maxL ret hh ∈ ws) (hinit : ∀ a' U, s.WarmedH U.vm → (Cond.initialized y.cls).before a' U = true) :
    vx_Back l R p e below s sargs y len W9 (PreOf R mc ms Pc) (PostOf Qc mc ms free) (vx_Post XC mc ms free) := by
  intro m meth c A g ig mk a X hg hsize hdg hW hn hp
  have h1 : (headSpec ws rm).pre.before a A.U = true := atoms_intro fun w hw => hws w hw _ _ X.warmed
  have h2 : (Cond.codeWith y bytes maxL ret hh).before a A.U = true := hws _ hcode _ _ X.warmed
  have h3 : (Cond.initialized y.cls).before a A.U = true := hinit _ _ X.warmed
  have h4 : A.cells + (headSpec ws rm).room.cells ≤ R.cells := by rw [show (headSpec ws rm).room.cells = mc from hrc]; exact hp.1
  have h5 : A.slots + (headSpec ws rm).room.slots ≤ R.slots := by rw [show (headSpec ws rm).room.slots = ms from hrs]; exact hp.2.1
  have hPc : Pc a (A.U.calling g mk a) := hblind _ _ _ _ hp.2.2
  obtain ⟨U, Ls, c0, s0⟩ := A
  dsimp only [Pt.U, Pt.locs, Pt.cells, Pt.slots] at h1 h2 h3 h4 h5 X hn hPc ⊢
  obtain ⟨m9, methY, cY, hn9, hmY, hcY, -, hlY, -⟩ := Cond.codeWith_spec h2
  cases Option.some.inj (hn9.symm.trans hn)
  obtain ⟨kY, hkY, -⟩ := className_of_methodNamed hn
  have hinitY : kY.init = .initialized := Cond.initialized_spec (findClass_of_methodNamed hn) hkY h3
  have h : At U g.method c below := by rw [hg]; exact X.here
  have hlocals9 : W9 + (maxL + 11) + (headSpec ws rm).room.locals ≤ R.locals := hlocals
  have happ : (headSpec ws rm).appliesLoose y e.platform (U.calling g mk a) = true :=
    Spec.appliesLoose_calling (g := g) h hdg hn hkY hinitY
      (X.room_calling (g := g) (R' := (headSpec ws rm).room) hsize hmY hcY hframes (by rw [hlY]; omega) h4 h5) h1
  obtain ⟨mid, hmid⟩ := h.above
  have hfr : (U.setTop g).frames = (.java g :: mid) ++ below := by rw [State.frames_setTop' g h.top, hmid]; rfl
  obtain ⟨o, s₂, hsteps, -, hend, hq⟩ := Steps.callFree hM p X.admits X.cas X.clock (acts := []) hfr happ hPc trivial
  have hq' : vx_Q Qc XC mc ms free a (U.calling g mk a) o s₂ := hq
  rw [State.frames_setTop' g h.top] at hend
  obtain ⟨g₀, hg0⟩ := Option.isSome_iff_exists.mp h.top
  obtain ⟨r, hr⟩ := State.topJava?_eq_some.mp hg0
  have hr' : (({ U with heap := s₂.heap, slotsUsed := s₂.slotsUsed } : State).setVm s₂.vm).frames = .java g₀ :: r := hr
  rcases hq' with ⟨hqc, L, hfe, hL⟩ | ⟨q, rfl, E, ce, L, hx, hce, hcv, hcl, hW₂, hsm, hL⟩
  · obtain ⟨⟨v, rfl⟩, hW₂, e2, q2, q3, q4, q5, q6⟩ := id hfe
    have e3 : s₂ = ({ (U.calling g mk a).setFrames s₂.frames with heap := s₂.heap, slotsUsed := s₂.slotsUsed } : State).setVm s₂.vm := by
      have : s₂ = ({ s₂ with vm := (U.calling g mk a).vm } : State).setVm s₂.vm := rfl
      rw [e2] at this
      exact this
    obtain ⟨c₂, i₂, len₂, hc₂, hd₂, hf₂⟩ := hend
    have hW' : U.WarmedH s₂.vm := hW₂
    have hcc : c₂ = c := by
      have h1 : s₂.code? g.method = U.code? g.method := by
        rw [State.code?_eq, State.code?_eq, hW'.alike.method?]
      exact Option.some.inj (hc₂.symm.trans (h1.trans h.code))
    subst hcc
    have hlen : len₂ = len := by rw [hdg] at hd₂; cases hd₂; rfl
    subst hlen
    have hs₂ : s₂ = (({ U with heap := s₂.heap, slotsUsed := s₂.slotsUsed } : State).setVm s₂.vm).setTop { g with pc := g.pc + len₂, stack := v.toList ++ g.stack } := by
      refine e3.trans ?_
      rw [hf₂, State.calling_eq h.top, State.setFrames_setFrames, State.setTop_of_frames _ hr', hr]
      rfl
    have hsame : U.sameButNew ({ U with heap := s₂.heap, slotsUsed := s₂.slotsUsed } : State) L mc ms := by
      refine ⟨?_, q2, q3, q4, q5, q6⟩
      obtain ⟨t, ht, -⟩ := State.frames_cons hr
      show ({ U with heap := s₂.heap, slotsUsed := s₂.slotsUsed } : State) = { U.setFrames U.frames with heap := s₂.heap, slotsUsed := s₂.slotsUsed }
      rw [State.setFrames_self ht]
    subst hg
    refine Or.inl ⟨v, ⟨(({ U with heap := s₂.heap, slotsUsed := s₂.slotsUsed } : State).setVm s₂.vm), Ls ++ L, c0 + mc, s0 + ms⟩,
      ⟨X.admits, X.cas, X.clock, X.frames, X.room, X.hears, X.method, X.code, (X.here.setHeapUsed s₂.heap s₂.slotsUsed).setVm hW'.alike, X.tail, State.WarmedH.trans X.warmed hW', X.limits, X.bytes, X.same.trans (hsame.setVm s.vm)⟩,
      ⟨g, mk, s₂, L, rfl, rfl, hqc, rfl, hL, rfl, rfl⟩, ?_⟩
    show Steps p.tables e below _ ((({ U with heap := s₂.heap, slotsUsed := s₂.slotsUsed } : State).setVm s₂.vm).setTop { g with pc := g.pc + len₂, stack := v.toList ++ g.stack })
    rw [← hs₂]
    exact hsteps
  · obtain ⟨e2, q2, q3, q4, q5, q6⟩ := id hsm
    have e3 : s₂ = ({ (U.calling g mk a).setFrames s₂.frames with heap := s₂.heap, slotsUsed := s₂.slotsUsed } : State).setVm s₂.vm := by
      have : s₂ = ({ s₂ with vm := (U.calling g mk a).vm } : State).setVm s₂.vm := rfl
      rw [e2] at this
      exact this
    have hf₂ : s₂.frames = .throwing q :: .java g :: U.frames.tail := hend
    have hW' : U.WarmedH s₂.vm := hW₂
    have hs₂ : s₂ = ((({ U with heap := s₂.heap, slotsUsed := s₂.slotsUsed } : State).setVm s₂.vm).setTop g).pushFrame (.throwing q) := by
      refine e3.trans ?_
      rw [hf₂, State.calling_eq h.top, State.setFrames_setFrames, State.pushFrame, State.frames_setTop _ hr', State.setTop_of_frames _ hr', State.setFrames_setFrames, hr]
      rfl
    have hsame : U.sameButNew ({ U with heap := s₂.heap, slotsUsed := s₂.slotsUsed } : State) L mc ms := by
      refine ⟨?_, q2, q3, q4, q5, q6⟩
      obtain ⟨t, ht, -⟩ := State.frames_cons hr
      show ({ U with heap := s₂.heap, slotsUsed := s₂.slotsUsed } : State) = { U.setFrames U.frames with heap := s₂.heap, slotsUsed := s₂.slotsUsed }
      rw [State.setFrames_self ht]
    subst hg
    refine Or.inr ⟨q, ⟨(({ U with heap := s₂.heap, slotsUsed := s₂.slotsUsed } : State).setVm s₂.vm), Ls ++ L, c0 + mc, s0 + ms⟩,
      ⟨X.admits, X.cas, X.clock, X.frames, X.room, X.hears, X.method, X.code, (X.here.setHeapUsed s₂.heap s₂.slotsUsed).setVm hW'.alike, X.tail, State.WarmedH.trans X.warmed hW', X.limits, X.bytes, X.same.trans (hsame.setVm s.vm)⟩,
      ⟨g, mk, s₂, L, E, ce, rfl, rfl, hx, hce, hcv, hcl, rfl, hL, rfl, rfl⟩, ?_⟩
    show Steps p.tables e below _ (((({ U with heap := s₂.heap, slotsUsed := s₂.slotsUsed } : State).setVm s₂.vm).setTop g).pushFrame (.throwing q))
    rw [← hs₂]
    exact hsteps
end
variable {p : Program} {l : Launch} {e : Env} {R : Room} {s : State} {m : MethodId} {args : Array Value} {below : List Frame} {meth : Method} {c : Code} {T : State} {H : Heap} {locs : List Loc} {cells slots : Nat}
theorem vx_callVX (X : Stand p l e R s m args below meth c T locs cells slots) (hexec : p.tables.exec = Jvm.exec) {own C : String} {index : Nat} {y : MethodName} {bytes : ByteArray} {maxL : Nat} {ret : Option FieldType} {hh : List (Nat × Nat × Nat × Nat)}
    (hown : s.vm.findClass own = some m.cls) (hlink : (Cond.methodLink own index y).before args s = true) (hinst : (Cond.instanceMethod y).before args s = true) (hsel : (Cond.selects C y y).before args s = true)
    (hcode : (Cond.codeWith y bytes maxL ret hh).before args s = true) (hy : y.cls ≠ "java/lang/invoke/MethodHandle" ∧ y.cls ≠ "java/lang/invoke/VarHandle")
    {W9 : Nat} {Pre : Pt → Array Value → Prop} {Post : Pt → Array Value → Option Value → Pt → Prop} {PostX : Pt → Array Value → Addr → Pt → Prop} (hK : vx_Back l R p e below s args y 3 W9 Pre Post PostX)
    {b : Addr} {cellB : Cell} (hcell : T.heap[b]? = some cellB) (hobj : cellB.vm.isStatics = false) (hcls : s.vm.findClass C = some cellB.cls)
    {g : JFrame} (hg : g.method = m) (hsize : g.locals.size = c.maxLocals) {argsL rest : List Value} (hlen : ∀ sig, parseMethodDescriptor y.desc = some sig → argsL.length = sig.parameters.length)
    (hstack : g.stack = argsL.reverse ++ .ref b :: rest) (hW : 2 * g.monitorRoom + (rest.map fun v => v.category).sum ≤ W9) (hdg : decode c.code g.pc = .ok (.invokevirtual index, 3))
    (hpre : ∀ vm₁, s.WarmedH vm₁ → Pre ⟨T.setVm vm₁, locs, cells, slots⟩ (Value.ref b :: argsL).toArray) :
    (∃ (v : Option Value) (vm₁ : Vm) (B : Pt), s.WarmedH vm₁ ∧ Stand p l e R s m args below meth c B.U B.locs B.cells B.slots ∧ Post ⟨T.setVm vm₁, locs, cells, slots⟩ (Value.ref b :: argsL).toArray v B ∧
      ∀ target, Steps p.tables e below (B.U.setTop { g with pc := g.pc + 3, stack := v.toList ++ rest }) target → Steps p.tables e below (T.setTop g) target) ∨
    (∃ (q : Addr) (vm₁ : Vm) (B : Pt), s.WarmedH vm₁ ∧ Stand p l e R s m args below meth c B.U B.locs B.cells B.slots ∧ PostX ⟨T.setVm vm₁, locs, cells, slots⟩ (Value.ref b :: argsL).toArray q B ∧
      Steps p.tables e below (T.setTop g) ((B.U.setTop { g with stack := rest }).pushFrame (.throwing q))) := by
  obtain ⟨mk, methM, hnamed, hmethM, hstM, habM⟩ := Cond.instanceMethod_spec hinst
  obtain ⟨m8, methM', cM, hn8, hmethM', -, -, -, -, -, -, hsigM⟩ := Cond.codeWith_spec hcode
  cases Option.some.inj (hn8.symm.trans hnamed)
  cases hmethM.symm.trans hmethM'
  obtain ⟨c2, r2, m2, q1, q2, q3, q4, kP, hkP, hkPi⟩ := Cond.selects_spec hsel
  cases hcls.symm.trans q1
  cases (State.methodFound?_of_named hnamed hy).symm.trans q2
  cases hnamed.symm.trans q3
  have hselP : selectMethod e.platform s.vm cellB.cls mk = .method mk := by rw [Launch.admits_selectMethod X.admits]; exact q4
  obtain ⟨vm₁, X₁, hstep₁⟩ := X.invokevirtual hexec hown hlink hnamed hmethM hstM hkP hkPi hy (a := b) (cell := cellB) hcell
    (fun z h => by rw [h] at hobj; cases hobj) hselP hmethM habM hkP hkPi (g := g) hg (argsL := argsL) (rest := rest) (hlen _ hsigM) hstack hdg
  rcases hK m meth c ⟨T.setVm vm₁, locs, cells, slots⟩ { g with stack := rest } (.invokevirtual index) mk (Value.ref b :: argsL).toArray X₁ hg hsize hdg hW (X₁.named hnamed) (hpre vm₁ X₁.warmed) with ⟨v, B, X', hpost, hsteps⟩ | ⟨q, B, X', hpost, hsteps⟩
  · exact Or.inl ⟨v, vm₁, B, X₁.warmed, X', hpost, fun target h => hstep₁ _ fun acts => by rw [doInvoke_state]; exact hsteps.trans h⟩
  · exact Or.inr ⟨q, vm₁, B, X₁.warmed, X', hpost, hstep₁ _ fun acts => by rw [doInvoke_state]; exact hsteps⟩
theorem vx_callSX (X : Stand p l e R s m args below meth c T locs cells slots) (hexec : p.tables.exec = Jvm.exec) {own : String} {index : Nat} {y : MethodName} {bytes : ByteArray} {maxL : Nat} {ret : Option FieldType} {hh : List (Nat × Nat × Nat × Nat)}
    (hown : s.vm.findClass own = some m.cls) (hlink : (Cond.methodLink own index y).before args s = true) (hstat : (Cond.static y).before args s = true) (hinit : (Cond.initialized y.cls).before args s = true)
    (hcode : (Cond.codeWith y bytes maxL ret hh).before args s = true) (hy : y.cls ≠ "java/lang/invoke/MethodHandle" ∧ y.cls ≠ "java/lang/invoke/VarHandle")
    {W9 : Nat} {Pre : Pt → Array Value → Prop} {Post : Pt → Array Value → Option Value → Pt → Prop} {PostX : Pt → Array Value → Addr → Pt → Prop} (hK : vx_Back l R p e below s args y 3 W9 Pre Post PostX)
    {g : JFrame} (hg : g.method = m) (hsize : g.locals.size = c.maxLocals) {argsL rest : List Value} (hlen : ∀ sig, parseMethodDescriptor y.desc = some sig → argsL.length = sig.parameters.length)
    (hstack : g.stack = argsL.reverse ++ rest) (hW : 2 * g.monitorRoom + (rest.map fun v => v.category).sum ≤ W9) (hdg : decode c.code g.pc = .ok (.invokestatic index, 3))
    (hpre : ∀ vm₁, s.WarmedH vm₁ → Pre ⟨T.setVm vm₁, locs, cells, slots⟩ argsL.toArray) :
    (∃ (v : Option Value) (vm₁ : Vm) (B : Pt), s.WarmedH vm₁ ∧ Stand p l e R s m args below meth c B.U B.locs B.cells B.slots ∧ Post ⟨T.setVm vm₁, locs, cells, slots⟩ argsL.toArray v B ∧
      ∀ target, Steps p.tables e below (B.U.setTop { g with pc := g.pc + 3, stack := v.toList ++ rest }) target → Steps p.tables e below (T.setTop g) target) ∨
    (∃ (q : Addr) (vm₁ : Vm) (B : Pt), s.WarmedH vm₁ ∧ Stand p l e R s m args below meth c B.U B.locs B.cells B.slots ∧ PostX ⟨T.setVm vm₁, locs, cells, slots⟩ argsL.toArray q B ∧
      Steps p.tables e below (T.setTop g) ((B.U.setTop { g with stack := rest }).pushFrame (.throwing q))) := by
  obtain ⟨mk, methM, cM, hnamed, hmethM, -, -, -, -, -, -, hsigM⟩ := Cond.codeWith_spec hcode
  have hstatic : methM.isStatic = true := Cond.static_spec hnamed hmethM hstat
  obtain ⟨kP, hkP, -⟩ := className_of_methodNamed hnamed
  have hinitP : kP.init = .initialized := Cond.initialized_spec (findClass_of_methodNamed hnamed) hkP hinit
  obtain ⟨vm₁, X₁, hstep₁⟩ := X.invokestatic hexec hown hlink hnamed hmethM hstatic hkP hinitP hy (g := g) hg (argsL := argsL) (rest := rest) (hlen _ hsigM) hstack hdg
  rcases hK m meth c ⟨T.setVm vm₁, locs, cells, slots⟩ { g with stack := rest } (.invokestatic index) mk argsL.toArray X₁ hg hsize hdg hW (X₁.named hnamed) (hpre vm₁ X₁.warmed) with ⟨v, B, X', hpost, hsteps⟩ | ⟨q, B, X', hpost, hsteps⟩
  · exact Or.inl ⟨v, vm₁, B, X₁.warmed, X', hpost, fun target h => hstep₁ _ fun acts => by rw [doInvoke_state]; exact hsteps.trans h⟩
  · exact Or.inr ⟨q, vm₁, B, X₁.warmed, X', hpost, hstep₁ _ fun acts => by rw [doInvoke_state]; exact hsteps⟩
theorem vx_callVW (X : Stand p l e R s m args below meth c T locs cells slots) (hexec : p.tables.exec = Jvm.exec) {own C : String} {index : Nat} {y : MethodName} {bytes : ByteArray} {maxL : Nat} {ret : Option FieldType} {hh : List (Nat × Nat × Nat × Nat)}
    (hown : s.vm.findClass own = some m.cls) (hlink : (Cond.methodLink own index y).before args s = true) (hinst : (Cond.instanceMethod y).before args s = true) (hsel : (Cond.selects C y y).before args s = true)
    (hcode : (Cond.codeWith y bytes maxL ret hh).before args s = true) (hy : y.cls ≠ "java/lang/invoke/MethodHandle" ∧ y.cls ≠ "java/lang/invoke/VarHandle")
    {W9 : Nat} {Pre : Pt → Array Value → Prop} {Post : Pt → Array Value → Option Value → Pt → Prop} (hK : Back l R p e below s args y 3 W9 Pre Post)
    {b : Addr} {cellB : Cell} (hcell : T.heap[b]? = some cellB) (hobj : cellB.vm.isStatics = false) (hcls : s.vm.findClass C = some cellB.cls)
    {g : JFrame} (hg : g.method = m) (hsize : g.locals.size = c.maxLocals) {argsL rest : List Value} (hlen : ∀ sig, parseMethodDescriptor y.desc = some sig → argsL.length = sig.parameters.length)
    (hstack : g.stack = argsL.reverse ++ .ref b :: rest) (hW : 2 * g.monitorRoom + (rest.map fun v => v.category).sum ≤ W9) (hdg : decode c.code g.pc = .ok (.invokevirtual index, 3))
    (hpre : ∀ vm₁, s.WarmedH vm₁ → Pre ⟨T.setVm vm₁, locs, cells, slots⟩ (Value.ref b :: argsL).toArray) :
    ∃ (v : Option Value) (vm₁ : Vm) (B : Pt), s.WarmedH vm₁ ∧ Stand p l e R s m args below meth c B.U B.locs B.cells B.slots ∧ Post ⟨T.setVm vm₁, locs, cells, slots⟩ (Value.ref b :: argsL).toArray v B ∧
      ∀ target, Steps p.tables e below (B.U.setTop { g with pc := g.pc + 3, stack := v.toList ++ rest }) target → Steps p.tables e below (T.setTop g) target := by
  obtain ⟨mk, methM, hnamed, hmethM, hstM, habM⟩ := Cond.instanceMethod_spec hinst
  obtain ⟨m8, methM', cM, hn8, hmethM', -, -, -, -, -, -, hsigM⟩ := Cond.codeWith_spec hcode
  cases Option.some.inj (hn8.symm.trans hnamed)
  cases hmethM.symm.trans hmethM'
  obtain ⟨c2, r2, m2, q1, q2, q3, q4, kP, hkP, hkPi⟩ := Cond.selects_spec hsel
  cases hcls.symm.trans q1
  cases (State.methodFound?_of_named hnamed hy).symm.trans q2
  cases hnamed.symm.trans q3
  have hselP : selectMethod e.platform s.vm cellB.cls mk = .method mk := by rw [Launch.admits_selectMethod X.admits]; exact q4
  obtain ⟨vm₁, X₁, hstep₁⟩ := X.invokevirtual hexec hown hlink hnamed hmethM hstM hkP hkPi hy (a := b) (cell := cellB) hcell
    (fun z h => by rw [h] at hobj; cases hobj) hselP hmethM habM hkP hkPi (g := g) hg (argsL := argsL) (rest := rest) (hlen _ hsigM) hstack hdg
  obtain ⟨v, B, X', hpost, hsteps⟩ := hK m meth c ⟨T.setVm vm₁, locs, cells, slots⟩ { g with stack := rest } (.invokevirtual index) mk (Value.ref b :: argsL).toArray X₁ hg hsize hdg hW (X₁.named hnamed) (hpre vm₁ X₁.warmed)
  exact ⟨v, vm₁, B, X₁.warmed, X', hpost, fun target h => hstep₁ _ fun acts => by rw [doInvoke_state]; exact hsteps.trans h⟩
abbrev vx_CVW (R : Room) (s : State) (args : Array Value) (own C : String) (index : Nat) (y : MethodName) (bytes : ByteArray) (maxL : Nat) (ret : Option FieldType) (hh : List (Nat × Nat × Nat × Nat)) (ws : List Cond) (rm : Room) (mc ms n : Nat) : Prop :=
  (rm.cells = mc ∧ rm.slots = ms ∧ rm.frames + 1 ≤ R.frames ∧ 8 + (maxL + 11) + rm.locals ≤ R.locals ∧ (∀ w ∈ ws, ∀ (a' : Array Value) (U : State), s.WarmedH U.vm → w.before a' U = true) ∧ Cond.codeWith y bytes maxL ret hh ∈ ws) ∧
  (Cond.codeWith y bytes maxL ret hh).before args s = true ∧ (Cond.initialized y.cls).before args s = true ∧ (y.cls ≠ "java/lang/invoke/MethodHandle" ∧ y.cls ≠ "java/lang/invoke/VarHandle") ∧
  (∀ sig, parseMethodDescriptor y.desc = some sig → n = sig.parameters.length) ∧ (Cond.methodLink own index y).before args s = true ∧ (Cond.instanceMethod y).before args s = true ∧ (Cond.selects C y y).before args s = true
theorem vx_cwVW {own C : String} {index maxL mc ms : Nat} {y : MethodName} {bytes : ByteArray} {ret : Option FieldType} {hh : List (Nat × Nat × Nat × Nat)} {Ts ws ws' : List Cond} {rm : Room} (n : Nat) (ht : ∀ w ∈ Ts, w.before args s = true) (hT : GoodIn Ts (wsV own index C y ws)) (hw : ws = Cond.codeWith y bytes maxL ret hh :: ws') (hrc : rm.cells = mc) (hrs : rm.slots = ms)
    (hd : y.cls = C ∧ y.cls ≠ "java/lang/invoke/MethodHandle" ∧ y.cls ≠ "java/lang/invoke/VarHandle" ∧ (parseMethodDescriptor y.desc).map (fun d => d.parameters.length) = some n) (hR : rm.frames + 1 ≤ R.frames ∧ 8 + (maxL + 11) + rm.locals ≤ R.locals) :
    vx_CVW R s args own C index y bytes maxL ret hh ws rm mc ms n := by
  obtain ⟨hC, hd⟩ := hd
  subst hC
  have ok : ∀ w ∈ wsV own index y.cls y ws, w.before args s = true := fun w h => ht w (hT w h).1
  have hG : GoodIn Ts ws := fun w h => hT w (by unfold wsV; exact List.mem_append_right _ h)
  have hc : Cond.codeWith y bytes maxL ret hh ∈ ws := by rw [hw]; exact List.mem_cons_self
  refine ⟨⟨hrc, hrs, hR.1, hR.2, pay_in ht hG, hc⟩, ht _ (hG _ hc).1, ok _ (by simp [wsV]), ⟨hd.1, hd.2.1⟩, fun sig h => ?_, ok _ (by simp [wsV]), ok _ (by simp [wsV]), ok _ (by simp [wsV])⟩
  have h2 := hd.2.2
  rw [h] at h2
  exact (Option.some.inj h2).symm
theorem vx_runVW {y : MethodName} {bytes cc : ByteArray} {maxL nL mc ms n index : Nat} {ret : Option FieldType} {hh : List (Nat × Nat × Nat × Nat)} {ws : List Cond} {rm : Room} {Pc : Array Value → State → Prop} {Qc : Array Value → State → Outcome → State → Prop} {free : Addr → Prop} {Ts : List Cond} {own C : String} {b : Addr} {As rest : List Value} {g : JFrame}
    (S : CallFix p m c cc nL s args Ts own) (hM : Met l y ws rm Pc Qc mc ms free) (cw : vx_CVW R s args own C index y bytes maxL ret hh ws rm mc ms n) (hp : PreV s H C b Pc As)
    (hg : g.method = m) (hn : As.length = n) (hsize : g.locals.size = nL) (hstack : g.stack = As.reverse ++ .ref b :: rest) (hW : 2 * g.monitorRoom + (rest.map fun v => v.category).sum ≤ 8) (hdg : decode cc g.pc = .ok (.invokevirtual index, 3)) (hf : cells + mc ≤ R.cells ∧ slots + ms ≤ R.slots) :
    va_Run p l e R s m args below meth c H locs cells slots mc ms g rest (Qc (Value.ref b :: As).toArray) free := by
  obtain ⟨⟨hrc, hrs, hfr, hlo, hws, hcw⟩, hcode, hini, hy, hlen, hl, hin, hse⟩ := cw
  have hK : Back l R p e below s args y 3 8 (PreOf R mc ms Pc) (PostOf Qc mc ms free) := va_backW (hh := hh) (bytes := bytes) (maxL := maxL) (ret := ret) hM hp.1 hrc hrs hfr hlo hws hcw (fun a' U hW => word_at hW (Or.inl (by first | rfl | simp [Cond.onTables, Cond.keeps, Cond.steady])) hini)
  obtain ⟨hx, hb, hml, ho, -⟩ := S
  obtain ⟨-, ⟨cellB, hcB, hoB, hclB⟩, hPc⟩ := hp
  intro T hT X
  obtain ⟨v, vm₁, ⟨U', l2, c2, s2⟩, hW₁, X', ⟨g', mk, t, L, e1, e2, hq, h1, hL, h2, h3⟩, st⟩ := vx_callVW X hx (C := C) (hh := hh) (bytes := bytes) (maxL := maxL) (ret := ret) ho hl hin hse hcode hy hK (by rw [hT]; exact hcB) hoB hclB hg (hsize.trans hml.symm) (argsL := As) (rest := rest) (fun sig h => hn.trans (hlen sig h)) hstack hW (by rw [hb]; exact hdg)
    (fun vm₁ hW₁ => ⟨hf.1, hf.2, hPc (T.setVm vm₁) hT hW₁⟩)
  dsimp only [Pt.U, Pt.locs, Pt.cells, Pt.slots] at X' e1 e2 h1 h2 h3 st
  subst h1; subst h2; subst h3
  exact ⟨v, (T.setVm vm₁).calling g' mk (Value.ref b :: As).toArray, t, U', L, hT, X', hL, e1, e2, hq, st⟩
section
variable {y : MethodName} {bytes cc : ByteArray} {maxL nL mc ms n index : Nat} {ret : Option FieldType} {ws : List Cond} {rm : Room} {Pc : Array Value → State → Prop} {Qc : Array Value → State → Outcome → State → Prop} {XC : String → State → State → Prop} {free : Addr → Prop} {Ts : List Cond} {own C : String} {b : Addr} {As rest : List Value} {g : JFrame}
theorem vx_runVX {hh : List (Nat × Nat × Nat × Nat)} (S : CallFix p m c cc nL s args Ts own) (hM : vx_Met l y ws rm Pc Qc XC mc ms free) (cw : vx_CVW R s args own C index y bytes maxL ret hh ws rm mc ms n) (hp : PreV s H C b Pc As)
    (hg : g.method = m) (hn : As.length = n) (hsize : g.locals.size = nL) (hstack : g.stack = As.reverse ++ .ref b :: rest) (hW : 2 * g.monitorRoom + (rest.map fun v => v.category).sum ≤ 8) (hdg : decode cc g.pc = .ok (.invokevirtual index, 3)) (hf : cells + mc ≤ R.cells ∧ slots + ms ≤ R.slots) :
    vx_Run p l e R s m args below meth c H locs cells slots mc ms g rest (Qc (Value.ref b :: As).toArray) XC free := by
  obtain ⟨⟨hrc, hrs, hfr, hlo, hws, hcw⟩, hcode, hini, hy, hlen, hl, hin, hse⟩ := cw
  have hK : vx_Back l R p e below s args y 3 8 (PreOf R mc ms Pc) (PostOf Qc mc ms free) (vx_Post XC mc ms free) := vx_backW (hh := hh) (bytes := bytes) (maxL := maxL) (ret := ret) hM hp.1 hrc hrs hfr hlo hws hcw (fun a' U hW => word_at hW (Or.inl (by first | rfl | simp [Cond.onTables, Cond.keeps, Cond.steady])) hini)
  obtain ⟨hx, hb, hml, ho, -⟩ := S
  obtain ⟨-, ⟨cellB, hcB, hoB, hclB⟩, hPc⟩ := hp
  intro T hT X
  rcases vx_callVX X hx (C := C) (hh := hh) (bytes := bytes) (maxL := maxL) (ret := ret) ho hl hin hse hcode hy hK (by rw [hT]; exact hcB) hoB hclB hg (hsize.trans hml.symm) (argsL := As) (rest := rest) (fun sig h => hn.trans (hlen sig h)) hstack hW (by rw [hb]; exact hdg)
    (fun vm₁ hW₁ => ⟨hf.1, hf.2, hPc (T.setVm vm₁) hT hW₁⟩) with ⟨v, vm₁, ⟨U', l2, c2, s2⟩, hW₁, X', ⟨g', mk, t, L, e1, e2, hq, h1, hL, h2, h3⟩, st⟩ | ⟨q, vm₁, ⟨U', l2, c2, s2⟩, hW₁, X', ⟨g', mk, t, L, E, ce, e1, e2, hq, hce, hcv, hcl, h1, hL, h2, h3⟩, st⟩
  · dsimp only [Pt.U, Pt.locs, Pt.cells, Pt.slots] at X' e1 e2 h1 h2 h3 st
    subst h1; subst h2; subst h3
    exact Or.inl ⟨v, (T.setVm vm₁).calling g' mk (Value.ref b :: As).toArray, t, U', L, hT, X', hL, e1, e2, hq, st⟩
  · dsimp only [Pt.U, Pt.locs, Pt.cells, Pt.slots] at X' e1 e2 h1 h2 h3 st hcl
    subst h1; subst h2; subst h3
    exact Or.inr ⟨q, (T.setVm vm₁).calling g' mk (Value.ref b :: As).toArray, t, U', L, E, ce, hT, X', hL, e1, e2, hq, hce, hcv, vx_cls hW₁ hcl, st⟩
theorem vx_runSX {hh : List (Nat × Nat × Nat × Nat)} (S : CallFix p m c cc nL s args Ts own) (hM : vx_Met l y ws rm Pc Qc XC mc ms free) (cw : vx_CSW R s args own index y bytes maxL ret hh ws rm mc ms n) (hp : PreS s H Pc As)
    (hg : g.method = m) (hn : As.length = n) (hsize : g.locals.size = nL) (hstack : g.stack = As.reverse ++ rest) (hW : 2 * g.monitorRoom + (rest.map fun v => v.category).sum ≤ 8) (hdg : decode cc g.pc = .ok (.invokestatic index, 3)) (hf : cells + mc ≤ R.cells ∧ slots + ms ≤ R.slots) :
    vx_Run p l e R s m args below meth c H locs cells slots mc ms g rest (Qc As.toArray) XC free := by
  obtain ⟨⟨hrc, hrs, hfr, hlo, hws, hcw⟩, hcode, hini, hy, hlen, hl, hstt⟩ := cw
  have hK : vx_Back l R p e below s args y 3 8 (PreOf R mc ms Pc) (PostOf Qc mc ms free) (vx_Post XC mc ms free) := vx_backW (hh := hh) (bytes := bytes) (maxL := maxL) (ret := ret) hM hp.1 hrc hrs hfr hlo hws hcw (fun a' U hW => word_at hW (Or.inl (by first | rfl | simp [Cond.onTables, Cond.keeps, Cond.steady])) hini)
  obtain ⟨hx, hb, hml, ho, -⟩ := S
  intro T hT X
  rcases vx_callSX X hx (hh := hh) (bytes := bytes) (maxL := maxL) (ret := ret) ho hl hstt hini hcode hy hK hg (hsize.trans hml.symm) (argsL := As) (rest := rest) (fun sig h => hn.trans (hlen sig h)) hstack hW (by rw [hb]; exact hdg)
    (fun vm₁ hW₁ => ⟨hf.1, hf.2, hp.2 (T.setVm vm₁) hT hW₁⟩) with ⟨v, vm₁, ⟨U', l2, c2, s2⟩, hW₁, X', ⟨g', mk, t, L, e1, e2, hq, h1, hL, h2, h3⟩, st⟩ | ⟨q, vm₁, ⟨U', l2, c2, s2⟩, hW₁, X', ⟨g', mk, t, L, E, ce, e1, e2, hq, hce, hcv, hcl, h1, hL, h2, h3⟩, st⟩
  · dsimp only [Pt.U, Pt.locs, Pt.cells, Pt.slots] at X' e1 e2 h1 h2 h3 st
    subst h1; subst h2; subst h3
    exact Or.inl ⟨v, (T.setVm vm₁).calling g' mk As.toArray, t, U', L, hT, X', hL, e1, e2, hq, st⟩
  · dsimp only [Pt.U, Pt.locs, Pt.cells, Pt.slots] at X' e1 e2 h1 h2 h3 st hcl
    subst h1; subst h2; subst h3
    exact Or.inr ⟨q, (T.setVm vm₁).calling g' mk As.toArray, t, U', L, E, ce, hT, X', hL, e1, e2, hq, hce, hcv, vx_cls hW₁ hcl, st⟩
end
end VXH
theorem vx_ofWH {l : Launch} {y : MethodName} {ws ws' : List Cond} {rm : Room} {Pc : Array Value → State → Prop} {Qc : Array Value → State → Outcome → State → Prop} {XC : String → State → State → Prop} {mc ms : Nat} {free : Addr → Prop} {cc : ByteArray} {maxL : Nat} {ret : Option FieldType} {hh : List (Nat × Nat × Nat × Nat)}
    (hy : plainName y.cls = true) (hw : ws = Cond.codeWith y cc maxL ret hh :: ws')
    (body : ∀ p e s m args below meth c s₁, BodyLoose p l y (headSpec ws rm) cc maxL ret e s m args below meth c s₁ → c.maxLocals = maxL → Pc args s →
      W p l e (headSpec ws rm).room s m args below meth c s.heap [] 0 0 (vx_MQ below Qc XC args s mc ms free) (entryFrame m args maxL)) : vx_Met l y ws rm Pc Qc XC mc ms free := by
  refine MetFree.of_bodyS (code := cc) (maxLocals := maxL) (ret := ret) hy ?_ ?_
  · intro args s m h hn
    obtain ⟨m9, meth, c, hn9, h1, h2, h3, h4, -, h5, h6, -⟩ := Cond.codeWith_spec (atoms_spec (ws := ws) h _ (by rw [hw]; exact List.mem_cons_self))
    cases hn.symm.trans hn9
    exact ⟨meth, c, h1, h2, h3, h4, h5, h6⟩
  · intro p e s m args below meth c s₁ B hml hP _
    have hh0 : s₁.heap = s.heap := by rw [B.state]; rfl
    obtain ⟨t, a1, o, b1, b2, b3⟩ := body p e s m args below meth c s₁ B hml hP s₁ hh0 (Stand.of_body B)
    exact ⟨t, o, a1, b1, b2, b3⟩
/-! ===== END ===== -/

/-! ===== BEGIN what the machine throws by itself, no traces kept ===== -/
section VXM
set_option maxHeartbeats 1000000 in
/-- the machine throws cls with the message text, no traces kept: from its note over the frame g to 'throwing' over the same frame (follows the proofs of Stand.vmThrowsMessage, Shelf/KitTracedVmS.lean, and Stand.throwsMessageColdBareV, StandMessageColdV.lean, without the step out of the frame) -/
theorem vx_vmAt {p : Program} {l : Launch} {e : Env} {R : Room} {s : State} {m₀ : MethodId} {args : Array Value} {below : List Frame} {meth : Method} {c : Code} {W : State} {locs : List Loc} {cells slots : Nat}
    (X : Stand p l e R s m₀ args below meth c W locs cells slots) (hexec : p.tables.exec = Jvm.exec) (htr : e.platform.stackTraces = false) {cls : String} {names : List String} {text : String}
    (hcls : Bundle.fit cls = true) (hnames : ∀ n ∈ names, Bundle.fit n = true) (hsoe : (cls == "java/lang/StackOverflowError") = false) (hoom : (cls == "java/lang/OutOfMemoryError") = false)
    (h : ∀ a ∈ Bundle.messageArmAtoms cls names, a.before args s = true)
    (hlocs : ∀ x ∈ locs, ∀ cell, s.heap[x.base]? = some cell → cell.vm.isStatics = false)
    (htext : (text == notModelled) = false) (hlimit : ¬ (stringBytes (stringToUtf16 text)).size > e.platform.arrayLengthLimit) (hheap : ¬ (stringBytes (stringToUtf16 text)).size * componentBytes .byte > e.platform.maxHeapBytes)
    {g : JFrame} (hg : g.method = m₀) (hsize : g.locals.size = c.maxLocals)
    (hRframes : names.length + 4 < R.frames) (hRlocals : 2 * g.monitorRoom + (g.stack.map fun v => v.category).sum + 10240 ≤ R.locals) (hshort : 13 * names.length + 55 ≤ 10240)
    (hRcells : cells + 3 ≤ R.cells) (hRslots : slots + ((stringBytes (stringToUtf16 text)).size + 4 + 6) ≤ R.slots) (hlocks : meth.locks = false) :
    ∃ (S : State) (q : Addr) (ce : Cell), (∀ target, Steps p.tables e below ((S.setTop g).pushFrame (.throwing q)) target → Steps p.tables e below ((W.setTop g).pushFrame (.throwNew cls (some text) none)) target) ∧
      Stand p l e R s m₀ args below meth c S locs (cells + 3) (slots + ((stringBytes (stringToUtf16 text)).size + 4 + 6)) ∧ S.heap[q]? = some ce ∧ s.vm.findClass cls = some ce.cls ∧ ce.vm = .none := by
  have howns : e.platform.frameOwnsMonitors = true := by rw [X.admits.platform]
  have hfin : e.platform.finalization = false := by rw [X.admits.platform]
  have hpl : e.platform.magicAccessors = ({} : Platform).magicAccessors := by rw [X.admits.platform]
  have a : ∀ x, x ∈ Bundle.messageArmAtoms cls names → x.holds args s none s [] = true := fun x hx => h x hx
  obtain ⟨T, Z0, L, -, Y⟩ := ThrowableC.of_atoms (args := args) howns hfin hpl (fun x hx => h x (by simp [Bundle.messageArmAtoms, hx]))
  obtain ⟨Z, M, LZ, LM, hnZ⟩ := Init0T.ofS_atoms (args := args) hpl L Y (fun x hx => h x (by simp [Bundle.messageArmAtoms, hx]))
  obtain ⟨P1, Ps, hlen, L1, hL, hP1m, hlink1, hlink⟩ := Bundle.chainS (args := args) hpl hnZ names cls hcls hnames (fun x hx => h x (by simp [Bundle.messageArmAtoms, hx]))
  obtain ⟨Zs, LZs, hn4, hfitv, hfitc⟩ := StringT.of_atoms (args := args) (fun x hx => h x (by simp [Bundle.messageArmAtoms, hx]))
  have hfound : s.vm.findClass cls = some P1.m.cls := findClass_of_methodNamed hP1m
  obtain ⟨c1, kX, hc1, hk, hord, -, -, hn6⟩ := Cond.instantiable_spec (a (.instantiable cls 6) (by simp [Bundle.messageArmAtoms]))
  cases Option.some.inj (hc1.symm.trans hfound)
  have hinit := Cond.initialized_spec hfound hk (a (.initialized cls) (by simp [Bundle.messageArmAtoms]))
  have hctor : kX.findMethod "<init>" "(Ljava/lang/String;)V" = some P1.m.idx := findMethod_of_methodNamed hP1m hk
  have hsel0 : selectMethod e.platform s.vm P1.m.cls T.fill0 = .method T.fill0 := by
    obtain ⟨c2, r2, m2, q1, q2, q3, q4, -⟩ := Cond.selects_spec (a (.selects cls Bundle.tFill0 Bundle.tFill0) (by simp [Bundle.messageArmAtoms]))
    cases Option.some.inj (q1.symm.trans hfound)
    cases Option.some.inj (q2.symm.trans (State.methodFound?_of_named Y.fill0 (by decide)))
    cases Option.some.inj (q3.symm.trans Y.fill0)
    rw [Launch.admits_selectMethod X.admits]; exact q4
  have hselF : selectMethod e.platform s.vm P1.m.cls T.fill = .method T.fill := by
    obtain ⟨c2, r2, m2, q1, q2, q3, q4, -⟩ := Cond.selects_spec (a (.selects cls Bundle.tFill Bundle.tFill) (by simp [Bundle.messageArmAtoms]))
    cases Option.some.inj (q1.symm.trans hfound)
    cases Option.some.inj (q2.symm.trans (State.methodFound?_of_named Y.fill (by decide)))
    cases Option.some.inj (q3.symm.trans Y.fill)
    rw [Launch.admits_selectMethod X.admits]; exact q4
  obtain ⟨cellS0, hcS0, hiss⟩ := Y.statics
  obtain ⟨u0, hu0⟩ := Cond.staticRefV Y.unassigned L.unassignedStatic L.statics hcS0 hiss (a (.isRef (.static Bundle.tN "UNASSIGNED_STACK" Bundle.steD)) (by simp [Bundle.messageArmAtoms]))
  obtain ⟨sen, hsen⟩ := Cond.staticRefV Y.sentinel L.sentinelStatic L.statics hcS0 hiss (a (.isRef (.static Bundle.tN "SUPPRESSED_SENTINEL" Bundle.listD)) (by simp [Bundle.messageArmAtoms]))
  obtain ⟨ci198, i198, fB, hk198, hg198, ha198, hsB, -, hnB, htB, hffB⟩ := Cond.ownField (t := .object "java/lang/Object") Y.found L.cls (by decide +kernel) (a (.fieldLink Bundle.tN 198 Bundle.tN "backtrace" "Ljava/lang/Object;") (by simp [Bundle.messageArmAtoms])) (a (.lays Bundle.tN Bundle.tN "backtrace" "Ljava/lang/Object;") (by simp [Bundle.messageArmAtoms])) e.platform hpl
  obtain ⟨cellS, hcS', heS, -, hkeep⟩ := X.same.2.2.2.2.2 T.aS cellS0 hcS0
  have hcellS : W.heap[T.aS]? = some cellS := hcS'
  have hout' : ∀ i, (⟨T.aS, i⟩ : Loc) ∉ locs := fun i hmem => by
    have := hlocs _ hmem cellS0 hcS0
    rw [hiss] at this; cases this
  have hknownS : cellS.vm ≠ .unknown := by
    rw [heS]; intro hu
    rw [show cellS0.vm = .unknown from hu] at hiss
    cases hiss
  have hvU : cellS.slots[T.fUnassigned.slot]? = some u0.v := by rw [hkeep _ (hout' _)]; exact hu0
  have hvSen : cellS.slots[T.fSentinel.slot]? = some sen.v := by rw [hkeep _ (hout' _)]; exact hsen
  obtain ⟨iM, hffM⟩ := Y.msg
  obtain ⟨tyC, dC, hdC, hdnC⟩ := Cond.laysAt hfound hk Y.cause (a (.lays cls Bundle.tN "cause" "Ljava/lang/Throwable;") (by simp [Bundle.messageArmAtoms]))
  obtain ⟨tyS, dS, hdS, hdnS⟩ := Cond.laysAt hfound hk Y.stack (a (.lays cls Bundle.tN "stackTrace" Bundle.steD) (by simp [Bundle.messageArmAtoms]))
  obtain ⟨tyP, dP, hdP, hdnP⟩ := Cond.laysAt hfound hk Y.supp (a (.lays cls Bundle.tN "suppressedExceptions" Bundle.listD) (by simp [Bundle.messageArmAtoms]))
  obtain ⟨tyM, dM, hdM, hdnM⟩ := Cond.laysAt hfound hk hffM (a (.lays cls Bundle.tN "detailMessage" "Ljava/lang/String;") (by simp [Bundle.messageArmAtoms]))
  obtain ⟨tyB, dB, hdB, hdnB⟩ := Cond.laysAt hfound hk hffB (a (.lays cls Bundle.tN "backtrace" "Ljava/lang/Object;") (by simp [Bundle.messageArmAtoms]))
  have bC := Cond.laysApart hdB hdC hdnB hdnC (by rw [hnB, Y.causeName]; decide)
  have bS := Cond.laysApart hdB hdS hdnB hdnS (by rw [hnB, Y.stackName]; decide)
  have bP := Cond.laysApart hdB hdP hdnB hdnP (by rw [hnB, Y.suppName]; decide)
  have hbk : ((preparedCellV T.toThrowableT (freshCell P1.m.cls kX) (W.heap.size + 2) u0 sen).withEntry W.cur).slots[fB.slot]? = some .null := by
    have := fresh_default (c := P1.m.cls) tyB
    rw [htB] at this
    simpa [preparedCellV, Cell.setSlot, Cell.withEntry, Array.getElem?_setIfInBounds, bC, bS, bP, bC.symm, bS.symm, bP.symm, defaultValue] using this
  have tkC := Takes.of_laid (v := .ref (W.heap.size + 2)) hk hord tyC (by rw [Y.causeType]; rfl)
  have tkS := Takes.of_laid (v := u0.v) hk hord tyS (by rw [Y.stackType]; exact fits_refV_array _ u0)
  have tkP := Takes.of_laid (v := sen.v) hk hord tyP (by rw [Y.suppType]; exact fits_refV_object _ sen)
  have tkM := Takes.of_laid (v := .ref (W.heap.size + 1)) hk hord tyM (by rw [Y.msgType]; rfl)
  have hskip : SkipFacts T e.platform s (fun u => u) u0 ((preparedCellV T.toThrowableT (freshCell P1.m.cls kX) (W.heap.size + 2) u0 sen).withEntry W.cur) := ⟨{ ci198 := ci198, i198 := i198, fBack := fB }, ⟨hk198, hg198, ha198, hsB⟩, hbk, fun _ _ => rfl⟩
  have h0 : At W g.method c below := by rw [hg]; exact X.here
  obtain ⟨hbeyond, hfreeW⟩ := X.vmMayThrow hsize (.throwNew cls (some text) none) (fun f hf => by cases hf) rfl hRlocals
  have hfr' : W.frames.length + Ps.length + 4 < (e.platform.stackLimits W.me).1 := by have := X.framesAbove hRframes; omega
  have hwd' : (stackUse (.java g :: W.frames.tail)).2 + 13 * Ps.length + 55 ≤ (e.platform.stackLimits W.me).2 := by have := X.stackAbove hsize (K := 13 * Ps.length + 55) (by omega); omega
  have hslots : W.slotsUsed + (stringBytes (stringToUtf16 text)).size + Zs.kS.instanceTypes.size + kX.instanceTypes.size ≤ e.platform.maxSlots := by
    have := X.slotsAbove hRslots
    rw [hn4, hn6]
    omega
  obtain ⟨vm', hW', st⟩ := Steps.vmThrowsMessageColdByV p (s₀ := s) (S := W) (g := g) h0 hexec T L Z LZ M LM X.warmed (t := W.cur) rfl Zs LZs P1 L1 Ps hL hlink1 hlink hsoe hoom hfound hk hinit hord hctor
    (Launch.admits_hotImplicitExceptions X.admits) hbeyond hfreeW htext hlimit hheap (X.cellsAbove hRcells) hslots (hfitv _) (hfitc _)
    (Nn := fun u => u) heapOnly_id (fun _ _ => rfl) (fun _ => rfl) (fun u x y => setCell_twice _ _ _ _) (fun _ => Nat.le_refl _) (cN := ((preparedCellV T.toThrowableT (freshCell P1.m.cls kX) (W.heap.size + 2) u0 sen).withEntry W.cur))
    hsel0 hcellS hknownS hvU tkS (fun _ hu => hu) (fun _ hu => hu) rfl rfl rfl (by simp [preparedCellV, Cell.setSlot, Cell.withEntry]) hskip (fun _ _ hA hW _ hroom _ hrest => L.nativeOff p htr hA hW hroom hrest) hselF hvSen tkC tkP tkM Y.objLocals rfl hfr' hwd'
  rw [plainBareV_eq T.toThrowableT (W.heap.size + 2) u0 sen (.ref (W.heap.size + 1)) W.cur rfl rfl] at st
  obtain ⟨-, -, w3, w4, -, -, -⟩ := withThrown_facts e.platform W Zs text P1.m.cls kX
  have X3 := ((X.pushed (bytesOf Zs.cB (stringToUtf16 text))).pushed (stringAt Zs.cS Zs.kS Zs.fv Zs.fc (stringToUtf16 text) W.heap.size)).pushed (freshCell P1.m.cls kX)
  rw [← withString_eq] at X3
  have X4 := X3.noted hW'
  have ha : (W.heap.size + 2) < ((withThrown W Zs text P1.m.cls kX).setVm vm').heap.size := by show _ < (withThrown W Zs text P1.m.cls kX).heap.size; rw [w3]; omega
  have hcell : ((withThrown W Zs text P1.m.cls kX).setVm vm').heap[(W.heap.size + 2)]? = some (freshCell P1.m.cls kX) := w4
  have X5 := ((((X4.stored hcell T.fCause.slot (.ref (W.heap.size + 2))).storedAgain ha T.fStack.slot u0.v).storedAgain ha T.fSupp.slot sen.v).storedAgain ha T.fStack.slot u0.v).storedAgain ha T.fMsg.slot (.ref (W.heap.size + 1))
  obtain ⟨g₁, hfrM⟩ := X5.frames_eq
  have hU : ((((withThrown W Zs text P1.m.cls kX).setVm vm').setCell (W.heap.size + 2) (plainBareV T.toThrowableT (freshCell P1.m.cls kX) (W.heap.size + 2) u0 sen (.ref (W.heap.size + 1)))).setTop g).pushFrame (.throwing (W.heap.size + 2)) = (((withThrown W Zs text P1.m.cls kX).setVm vm').setCell (W.heap.size + 2) (plainBareV T.toThrowableT (freshCell P1.m.cls kX) (W.heap.size + 2) u0 sen (.ref (W.heap.size + 1)))).setFrames (.throwing (W.heap.size + 2) :: .java g :: below) := by
    rw [State.pushFrame, State.frames_setTop _ hfrM, State.setTop_of_frames _ hfrM, State.setFrames_setFrames]
  have b1 : (bytesOf Zs.cB (stringToUtf16 text)).slots.size = (stringBytes (stringToUtf16 text)).size := by
    rw [(Cell.writeAll_facts _ _).2.2]; simp [bytes0]
  have b2 : (stringAt Zs.cS Zs.kS Zs.fv Zs.fc (stringToUtf16 text) W.heap.size).slots.size = 4 := by simp [string0, Cell.setSlot, hn4]
  have b3 : (freshCell P1.m.cls kX).slots.size = 6 := by simp [hn6]
  rw [b1, b2, b3] at X5
  have e9 : slots + (stringBytes (stringToUtf16 text)).size + 4 + 6 = slots + ((stringBytes (stringToUtf16 text)).size + 4 + 6) := by omega
  rw [e9] at X5
  simp only [List.append_assoc, List.cons_append, List.nil_append] at X5
  refine ⟨((withThrown W Zs text P1.m.cls kX).setVm vm').setCell (W.heap.size + 2) (plainBareV T.toThrowableT (freshCell P1.m.cls kX) (W.heap.size + 2) u0 sen (.ref (W.heap.size + 1))), W.heap.size + 2, _, fun target ht => st _ (by rw [X.tail, ← hU]; exact ht),
    X5.forget (fun y hy => ?_), heapAt_setCell_self _ ha, hfound, rfl⟩
  simp only [List.mem_cons, List.not_mem_nil, or_false] at hy
  have hge : s.heap.size ≤ W.heap.size := X.same.2.1
  rcases hy with rfl | rfl | rfl | rfl | rfl <;> exact Nat.le_trans hge (Nat.le_add_right _ 2)
set_option maxHeartbeats 1000000 in
/-- the machine throws NullPointerException, no traces kept: from its note over the frame g to 'throwing' over the same frame (follows the proof of Stand.vmThrowsNpe, Shelf42/KT2.lean; throwsNpeColdBareVAt, Shelf42/NT91.lean, called) -/
theorem vx_npeAt {p : Program} {l : Launch} {e : Env} {R : Room} {s : State} {m₀ : MethodId} {args : Array Value} {below : List Frame} {meth : Method} {c : Code} {W : State} {locs : List Loc} {cells slots : Nat}
    (X : Stand p l e R s m₀ args below meth c W locs cells slots) (hexec : p.tables.exec = Jvm.exec) (htr : e.platform.stackTraces = false) {n : Nat}
    (h : ∀ a ∈ Bundle.npeArmAtoms n, a.before args s = true)
    (hlocs : ∀ x ∈ locs, ∀ cell, s.heap[x.base]? = some cell → cell.vm.isStatics = false)
    {g : JFrame} (hg : g.method = m₀) (hsize : g.locals.size = c.maxLocals)
    (hRframes : 7 < R.frames) (hRlocals : 2 * g.monitorRoom + (g.stack.map fun v => v.category).sum + 10240 ≤ R.locals)
    (hRcells : cells + 1 ≤ R.cells) (hRslots : slots + n ≤ R.slots) (hlocks : meth.locks = false) :
    ∃ (S : State) (q : Addr) (ce : Cell), (∀ target, Steps p.tables e below ((S.setTop g).pushFrame (.throwing q)) target → Steps p.tables e below ((W.setTop g).pushFrame (.throwNew "java/lang/NullPointerException" none none)) target) ∧
      Stand p l e R s m₀ args below meth c S locs (cells + 1) (slots + n) ∧ S.heap[q]? = some ce ∧ s.vm.findClass "java/lang/NullPointerException" = some ce.cls ∧ ce.vm = .none := by
  have howns : e.platform.frameOwnsMonitors = true := by rw [X.admits.platform]
  have hfin : e.platform.finalization = false := by rw [X.admits.platform]
  have hpl : e.platform.magicAccessors = ({} : Platform).magicAccessors := by rw [X.admits.platform]
  have hpl2 : e.platform.arrayCloneIsPublic = true := by rw [X.admits.platform]
  have a' : ∀ x, x ∈ Bundle.npeArmAtoms n → x.holds args s none s [] = true := fun x hx => h x hx
  obtain ⟨T, Z, L, LZ, Y⟩ := ThrowableC.of_atoms (args := args) howns hfin hpl (fun x hx => h x (by simp [Bundle.npeArmAtoms, hx]))
  obtain ⟨N, LN, hcN, hnNF, hordN, hffS⟩ := NpeC.of_atoms (args := args) hpl hpl2 L Y (fun x hx => h x (by simp [Bundle.npeArmAtoms, hx]))
  obtain ⟨P1, L1, hP1m, hP1s⟩ := PassC.of_atoms (args := args) (s := s) hpl (X := Bundle.nN) (Y := Bundle.rN) (by decide) (by decide) LibCode.NullPointerException.Init0.at_0 LibCode.NullPointerException.Init0.at_1 LibCode.NullPointerException.Init0.at_4 (fun x hx => h x (by simp [Bundle.npeArmAtoms, hx]))
  obtain ⟨PR, LR, hPRm, hPRs⟩ := PassC.of_atoms (args := args) (s := s) hpl (X := Bundle.rN) (Y := Bundle.eN) (by decide) (by decide) LibCode.RuntimeException.Init0.at_0 LibCode.RuntimeException.Init0.at_1 LibCode.RuntimeException.Init0.at_4 (fun x hx => h x (by simp [Bundle.npeArmAtoms, hx]))
  obtain ⟨PE, LEx, hPEm, hPEs⟩ := PassC.of_atoms (args := args) (s := s) hpl (X := Bundle.eN) (Y := Bundle.tN) (by decide) (by decide) LibCode.Exception.Init0.at_0 LibCode.Exception.Init0.at_1 LibCode.Exception.Init0.at_4 (fun x hx => h x (by simp [Bundle.npeArmAtoms, hx]))
  have hfound : s.vm.findClass Bundle.nN = some P1.m.cls := findClass_of_methodNamed hP1m
  have ecls : N.cN = P1.m.cls := Option.some.inj (hcN.symm.trans hfound)
  have hk : s.vm.classes[P1.m.cls]? = some N.kN := by rw [← ecls]; exact LN.cls
  have hinit := Cond.initialized_spec hfound hk (a' (.initialized Bundle.nN) (by simp [Bundle.npeArmAtoms]))
  have hctor : N.kN.findMethod "<init>" "()V" = some P1.m.idx := findMethod_of_methodNamed hP1m hk
  obtain ⟨c1, k1, hc1, hk1, -, -, -, hn⟩ := Cond.instantiable_spec (a' (.instantiable Bundle.nN n) (by simp [Bundle.npeArmAtoms]))
  cases Option.some.inj (hc1.symm.trans hfound)
  cases Option.some.inj (hk1.symm.trans hk)
  have hfsz : (freshCell P1.m.cls N.kN).slots.size = n := by simp [hn]
  have hlink1 : P1.sup = PR.m := Option.some.inj (hP1s.symm.trans hPRm)
  have hlinkR : PR.sup = PE.m := Option.some.inj (hPRs.symm.trans hPEm)
  have hlinkE : PE.sup = Z.m T.toThrowableT := Option.some.inj (hPEs.symm.trans Y.init0)
  have hLs : ∀ P, P ∈ [PR, PE] → P.Links0 e.platform s := fun P hP => by
    simp only [List.mem_cons, List.not_mem_nil, or_false] at hP
    rcases hP with rfl | rfl
    · exact LR
    · exact LEx
  have hsel0 : selectMethod e.platform s.vm P1.m.cls T.fill0 = .method T.fill0 := by
    obtain ⟨c2, r2, m2, q1, q2, q3, q4, -⟩ := Cond.selects_spec (a' (.selects Bundle.nN Bundle.tFill0 Bundle.tFill0) (by simp [Bundle.npeArmAtoms]))
    cases Option.some.inj (q1.symm.trans hfound)
    cases Option.some.inj (q2.symm.trans (State.methodFound?_of_named Y.fill0 (by decide)))
    cases Option.some.inj (q3.symm.trans Y.fill0)
    rw [Launch.admits_selectMethod X.admits]; exact q4
  have hselF : selectMethod e.platform s.vm P1.m.cls T.fill = .method N.fill := by
    obtain ⟨c2, r2, m2, q1, q2, q3, q4, -⟩ := Cond.selects_spec (a' (.selects Bundle.nN Bundle.tFill Bundle.nFill) (by simp [Bundle.npeArmAtoms]))
    cases Option.some.inj (q1.symm.trans hfound)
    cases Option.some.inj (q2.symm.trans (State.methodFound?_of_named Y.fill (by decide)))
    cases Option.some.inj (q3.symm.trans hnNF)
    rw [Launch.admits_selectMethod X.admits]; exact q4
  obtain ⟨cellS0, hcS0, hiss⟩ := Y.statics
  obtain ⟨u0, hu0⟩ := Cond.staticRefV Y.unassigned L.unassignedStatic L.statics hcS0 hiss (a' (.isRef (.static Bundle.tN "UNASSIGNED_STACK" Bundle.steD)) (by simp [Bundle.npeArmAtoms]))
  obtain ⟨sen, hsen⟩ := Cond.staticRefV Y.sentinel L.sentinelStatic L.statics hcS0 hiss (a' (.isRef (.static Bundle.tN "SUPPRESSED_SENTINEL" Bundle.listD)) (by simp [Bundle.npeArmAtoms]))
  obtain ⟨ci198, i198, fB, hk198, hg198, ha198, hsB, -, hnB, htB, hffB⟩ := Cond.ownField (t := .object "java/lang/Object") Y.found L.cls (by decide +kernel) (a' (.fieldLink Bundle.tN 198 Bundle.tN "backtrace" Bundle.objD) (by simp [Bundle.npeArmAtoms])) (a' (.lays Bundle.tN Bundle.tN "backtrace" Bundle.objD) (by simp [Bundle.npeArmAtoms])) e.platform hpl
  obtain ⟨cellS, hcS', heS, -, hkeep⟩ := X.same.2.2.2.2.2 T.aS cellS0 hcS0
  have hcellS : W.heap[T.aS]? = some cellS := hcS'
  have hout' : ∀ i, (⟨T.aS, i⟩ : Loc) ∉ locs := fun i hmem => by
    have := hlocs _ hmem cellS0 hcS0
    rw [hiss] at this; cases this
  have hknownS : cellS.vm ≠ .unknown := by
    rw [heS]; intro hu
    rw [show cellS0.vm = .unknown from hu] at hiss
    cases hiss
  have hvU : cellS.slots[T.fUnassigned.slot]? = some u0.v := by rw [hkeep _ (hout' _)]; exact hu0
  have hvSen : cellS.slots[T.fSentinel.slot]? = some sen.v := by rw [hkeep _ (hout' _)]; exact hsen
  obtain ⟨tyC, dC, hdC, hdnC⟩ := Cond.laysAt hfound hk Y.cause (a' (.lays Bundle.nN Bundle.tN "cause" "Ljava/lang/Throwable;") (by simp [Bundle.npeArmAtoms]))
  obtain ⟨tyS, dS, hdS, hdnS⟩ := Cond.laysAt hfound hk Y.stack (a' (.lays Bundle.nN Bundle.tN "stackTrace" Bundle.steD) (by simp [Bundle.npeArmAtoms]))
  obtain ⟨tyP, dP, hdP, hdnP⟩ := Cond.laysAt hfound hk Y.supp (a' (.lays Bundle.nN Bundle.tN "suppressedExceptions" Bundle.listD) (by simp [Bundle.npeArmAtoms]))
  obtain ⟨tyX, dX, hdX, hdnX⟩ := Cond.laysAt hfound hk hffS (a' (.lays Bundle.nN Bundle.nN "extendedMessageState" "I") (by simp [Bundle.npeArmAtoms, Bundle.npeAtoms]))
  obtain ⟨hnX, htX⟩ := State.fieldFound?_type hffS (t := .int) (by decide +kernel)
  have xC := Cond.laysApart hdC hdX hdnC hdnX (by rw [hnX, Y.causeName]; decide)
  have xS := Cond.laysApart hdS hdX hdnS hdnX (by rw [hnX, Y.stackName]; decide)
  have xP := Cond.laysApart hdP hdX hdnP hdnX (by rw [hnX, Y.suppName]; decide)
  have hv0 : (freshCell P1.m.cls N.kN).slots[N.fState.slot]? = some (.int 0) := by
    have := fresh_default (c := P1.m.cls) tyX
    rw [htX] at this; exact this
  obtain ⟨tyB, dB, hdB, hdnB⟩ := Cond.laysAt hfound hk hffB (a' (.lays Bundle.nN Bundle.tN "backtrace" Bundle.objD) (by simp [Bundle.npeArmAtoms]))
  have bC := Cond.laysApart hdB hdC hdnB hdnC (by rw [hnB, Y.causeName]; decide)
  have bS := Cond.laysApart hdB hdS hdnB hdnS (by rw [hnB, Y.stackName]; decide)
  have bP := Cond.laysApart hdB hdP hdnB hdnP (by rw [hnB, Y.suppName]; decide)
  have bX := Cond.laysApart hdB hdX hdnB hdnX (by rw [hnB, hnX]; decide)
  have hbk : ((npeCell N.toNpeT (preparedCellV T.toThrowableT (freshCell P1.m.cls N.kN) W.heap.size u0 sen) W.cur).withEntry W.cur).slots[fB.slot]? = some .null := by
    have := fresh_default (c := P1.m.cls) tyB
    rw [htB] at this
    simpa [npeCell, preparedCellV, Cell.setSlot, Cell.withEntry, Array.getElem?_setIfInBounds, bC, bS, bP, bX, bC.symm, bS.symm, bP.symm, bX.symm, defaultValue] using this
  have tkC := Takes.of_laid (v := .ref W.heap.size) hk hordN tyC (by rw [Y.causeType]; rfl)
  have tkS := Takes.of_laid (v := u0.v) hk hordN tyS (by rw [Y.stackType]; exact fits_refV_array _ u0)
  have tkP := Takes.of_laid (v := sen.v) hk hordN tyP (by rw [Y.suppType]; exact fits_refV_object _ sen)
  have tkX := Takes.of_laid (v := .int 1) hk hordN tyX (by rw [htX]; rfl)
  have hskip : SkipFacts T e.platform s (fun u => u) u0 ((npeCell N.toNpeT (preparedCellV T.toThrowableT (freshCell P1.m.cls N.kN) W.heap.size u0 sen) W.cur).withEntry W.cur) := ⟨{ ci198 := ci198, i198 := i198, fBack := fB }, ⟨hk198, hg198, ha198, hsB⟩, hbk, fun _ _ => rfl⟩
  obtain ⟨vm', X3, st, -⟩ := X.throwsNpeColdBareVAt hexec hg hsize T L Z LZ N LN P1 L1 [PR, PE] hLs hlink1 ⟨hlinkR, hlinkE, trivial⟩ hfound hk hinit hordN hctor hsel0 hselF hcellS hknownS hvU hvSen
    hv0 xC xS xP tkC tkS tkP tkX Y.objLocals hskip (fun _ _ hA hW _ hroom _ hrest => L.nativeOff p htr hA hW hroom hrest) (by simpa using hRframes) hRlocals (by simp) hRcells (by rw [hn]; exact hRslots)
  have hlt : W.heap.size < ((W.pushCell (freshCell P1.m.cls N.kN)).setVm vm').heap.size := by
    show W.heap.size < (W.pushCell (freshCell P1.m.cls N.kN)).heap.size
    rw [State.heap_size_pushCell]; omega
  rw [hfsz] at X3
  obtain ⟨g₁, hfrM⟩ := X3.frames_eq
  have hU : ((((W.pushCell (freshCell P1.m.cls N.kN)).setVm vm').setCell W.heap.size (npeBareV T.toThrowableT N.toNpeT (freshCell P1.m.cls N.kN) W.heap.size u0 sen)).setTop g).pushFrame (.throwing W.heap.size) = (((W.pushCell (freshCell P1.m.cls N.kN)).setVm vm').setCell W.heap.size (npeBareV T.toThrowableT N.toNpeT (freshCell P1.m.cls N.kN) W.heap.size u0 sen)).setFrames (.throwing W.heap.size :: .java g :: below) := by
    rw [State.pushFrame, State.frames_setTop _ hfrM, State.setTop_of_frames _ hfrM, State.setFrames_setFrames]
  refine ⟨_, W.heap.size, _, fun target ht => st.trans (by rw [← hU]; exact ht), X3.forget (fun y hy => ?_), heapAt_setCell_self _ hlt, hfound, rfl⟩
  simp only [List.mem_cons, List.not_mem_nil, or_false] at hy
  have hge : s.heap.size ≤ W.heap.size := X.same.2.1
  rcases hy with rfl | rfl | rfl | rfl | rfl <;> exact hge
/-- the words of a machine's NullPointerException, but the four that speak of the heap -/
def vx_atN (n : Nat) : List Cond := (Bundle.npeArmAtoms n).filter vx_no
/-- the words of a machine's throw with a message, but the four that speak of the heap -/
def vx_atM (X : String) (names : List String) : List Cond := (Bundle.messageArmAtoms X names).filter vx_no
section
variable {p : Program} {l : Launch} {e : Env} {R : Room} {s : State} {m : MethodId} {args : Array Value} {below : List Frame} {meth : Method} {c : Code} {H : Heap} {locs : List Loc} {cells slots : Nat}
/-- a frame seen from a rebased start, seen from the first start again -/
theorem vx_back9 {T S : State} {R' : Room} {k n : Nat} (X : Stand p l e R s m args below meth c T locs cells slots) (Y : Stand p l e R' ((T.setVm s.vm).setFrames (.invoking m args :: below)) m args below meth c T [] 0 0) (Z : Stand p l e R' ((T.setVm s.vm).setFrames (.invoking m args :: below)) m args below meth c S [] k n) :
    Stand p l e R s m args below meth c S locs (cells + k) (slots + n) := by
  have hW0 : s.WarmedH ((T.setVm s.vm).setFrames (.invoking m args :: below)).vm := State.WarmedH.refl s
  refine { admits := X.admits, cas := X.cas, clock := X.clock, frames := X.frames, room := X.room, hears := X.hears, method := X.method, code := X.code, here := Z.here, tail := Z.tail, warmed := State.WarmedH.trans hW0 Z.warmed, limits := Z.limits.trans (Y.limits.symm.trans X.limits), bytes := Z.bytes.trans (Y.bytes.symm.trans X.bytes), same := ?_ }
  obtain ⟨e1, e2⟩ := Z.same
  rw [State.setFrames_setFrames] at e1
  have h2 : (T.setVm s.vm).sameButNew (S.setVm s.vm) [] k n := ⟨e1, e2⟩
  have h3 := X.same.trans h2
  rw [List.append_nil] at h3
  exact h3
/-- from the machine's note that E is thrown here with this text -/
def vx_Note (p : Program) (l : Launch) (e : Env) (R : Room) (s : State) (m : MethodId) (args : Array Value) (below : List Frame) (meth : Method) (c : Code) (H : Heap) (locs : List Loc) (cells slots : Nat) (Q : State → Prop) (g : JFrame) (E text : String) : Prop :=
  ∀ T : State, T.heap = H → Stand p l e R s m args below meth c T locs cells slots → ∃ t, Steps p.tables e below ((T.setTop g).pushFrame (.throwNew E (some text) none)) t ∧ Q t
theorem vx_vm {pc : Nat} {ls : Array Slot} {rest : List Value} {Q : State → Prop} (hexec : p.tables.exec = Jvm.exec) (hl : l.stackTraces = false) {cls text : String} {names : List String} {nb : Nat} {A : Nat → Prop}
    (hcls : Bundle.fit cls = true) (hnames : ∀ n ∈ names, Bundle.fit n = true) (hsoe : (cls == "java/lang/StackOverflowError") = false) (hoom : (cls == "java/lang/OutOfMemoryError") = false)
    (hat : ∀ w ∈ vx_atM cls names, w.before args s = true) (hgood : ∀ w ∈ vx_atM cls names, vx_ot w = true)
    (hU : vx_Zq Bundle.tN "UNASSIGNED_STACK" Bundle.steD A s s.heap) (hN : vx_Zq Bundle.tN "SUPPRESSED_SENTINEL" Bundle.listD A s s.heap) (hS : va_S A s.heap H locs) (hsize : ls.size = c.maxLocals)
    (htext : (text == notModelled) = false) (hnb : (stringBytes (stringToUtf16 text)).size ≤ nb) (hnb1 : nb ≤ 1000)
    (hRframes : names.length + 4 < R.frames) (hRlocals : (rest.map fun v => v.category).sum + 10240 ≤ R.locals) (hshort : 13 * names.length + 55 ≤ 10240) (hRcells : cells + 3 ≤ R.cells) (hRslots : slots + (nb + 10) ≤ R.slots) (hlocks : meth.locks = false)
    (k : ∀ (H1 : Heap) (q9 : Addr) (ce : Cell), H.size ≤ H1.size → (∀ q : Nat, q < H.size → H1[q]? = H[q]?) → va_S A s.heap H1 locs → H1[q9]? = some ce → ce.vm = .none → s.vm.findClass cls = some ce.cls → vx_W p l e R s m args below meth c H1 locs (cells + 3) (slots + (nb + 10)) Q (F0 m pc ls rest) q9) :
    vx_Note p l e R s m args below meth c H locs cells slots Q (F0 m pc ls rest) cls text := by
  intro T hT X
  have htr : e.platform.stackTraces = false := (show e.platform.stackTraces = l.stackTraces by rw [X.admits.platform]).trans hl
  have Y := vx_rebase X (R' := { frames := R.frames, locals := R.locals, cells := 3, slots := nb + 10 }) (Nat.le_refl _) (Nat.le_refl _) hRcells hRslots
  have hhp : ((T.setVm s.vm).setFrames (.invoking m args :: below)).heap = H := hT
  have hW0 : s.WarmedH ((T.setVm s.vm).setFrames (.invoking m args :: below)).vm := State.WarmedH.refl s
  have hat' : ∀ w ∈ vx_atM cls names, w.before args ((T.setVm s.vm).setFrames (.invoking m args :: below)) = true := fun w hw => vx_ot_at hW0 rfl (hgood w hw) (hat w hw)
  have hU' : vx_Zq Bundle.tN "UNASSIGNED_STACK" Bundle.steD A ((T.setVm s.vm).setFrames (.invoking m args :: below)) ((T.setVm s.vm).setFrames (.invoking m args :: below)).heap := by rw [hhp]; exact vx_Zq.moved hW0.alike (hU.kept hS.2.1)
  have hN' : vx_Zq Bundle.tN "SUPPRESSED_SENTINEL" Bundle.listD A ((T.setVm s.vm).setFrames (.invoking m args :: below)) ((T.setVm s.vm).setFrames (.invoking m args :: below)).heap := by rw [hhp]; exact vx_Zq.moved hW0.alike (hN.kept hS.2.1)
  obtain ⟨S, q, ce, st, Z, hce, hcl', hv⟩ := vx_vmAt Y hexec htr (cls := cls) (names := names) (text := text) hcls hnames hsoe hoom (vx_own hat' (vx_isRefq hU'.1) (vx_isRefq hN'.1) hU'.2.word hN'.2.word) (fun x hx => nomatch hx) htext
    (by rw [Launch.admits_arrayLengthLimit X.admits]; omega) (by rw [Launch.admits_maxHeapBytes X.admits]; simp only [componentBytes]; omega)
    (g := F0 m pc ls rest) rfl hsize hRframes (by show 2 * 0 + (rest.map fun v => v.category).sum + 10240 ≤ R.locals; omega) hshort (by show 0 + 3 ≤ 3; omega) (by show 0 + (_ + 4 + 6) ≤ nb + 10; omega) hlocks
  obtain ⟨f1, f2⟩ := vx_frame Z.same
  have f1' : H.size ≤ S.heap.size := by rw [← hT]; exact f1
  have f2' : ∀ q : Nat, q < H.size → S.heap[q]? = H[q]? := fun q hq => by
    rw [← hT]
    exact f2 q (by rw [← hT] at hq; exact hq) (fun z hz => nomatch hz)
  have X5 := vx_back9 X Y Z
  have X6 : Stand p l e R s m args below meth c S locs (cells + 3) (slots + (nb + 10)) := { X5 with same := X5.same.mono (by omega) (by omega) }
  obtain ⟨t, a1, b1⟩ := k S.heap q ce f1' f2' ⟨Nat.le_trans hS.1 f1', fun q h1 h2 => (f2' q (Nat.lt_of_lt_of_le h1 hS.1)).trans (hS.2.1 q h1 h2), hS.2.2⟩ hce hv hcl' S rfl X6
  exact ⟨t, st t a1, b1⟩
/-- from the machine's note that NullPointerException is thrown here -/
def vx_NoteN (p : Program) (l : Launch) (e : Env) (R : Room) (s : State) (m : MethodId) (args : Array Value) (below : List Frame) (meth : Method) (c : Code) (H : Heap) (locs : List Loc) (cells slots : Nat) (Q : State → Prop) (g : JFrame) : Prop :=
  ∀ T : State, T.heap = H → Stand p l e R s m args below meth c T locs cells slots → ∃ t, Steps p.tables e below ((T.setTop g).pushFrame (.throwNew "java/lang/NullPointerException" none none)) t ∧ Q t
theorem vx_npe {pc : Nat} {ls : Array Slot} {rest : List Value} {Q : State → Prop} (hexec : p.tables.exec = Jvm.exec) (hl : l.stackTraces = false) {nb : Nat} {A : Nat → Prop}
    (hat : ∀ w ∈ vx_atN nb, w.before args s = true) (hgood : ∀ w ∈ vx_atN nb, vx_ot w = true)
    (hU : vx_Zq Bundle.tN "UNASSIGNED_STACK" Bundle.steD A s s.heap) (hN : vx_Zq Bundle.tN "SUPPRESSED_SENTINEL" Bundle.listD A s s.heap) (hS : va_S A s.heap H locs) (hsize : ls.size = c.maxLocals)
    (hRframes : 7 < R.frames) (hRlocals : (rest.map fun v => v.category).sum + 10240 ≤ R.locals) (hRcells : cells + 1 ≤ R.cells) (hRslots : slots + nb ≤ R.slots) (hlocks : meth.locks = false)
    (k : ∀ (H1 : Heap) (q9 : Addr) (ce : Cell), H.size ≤ H1.size → (∀ q : Nat, q < H.size → H1[q]? = H[q]?) → va_S A s.heap H1 locs → H1[q9]? = some ce → ce.vm = .none → s.vm.findClass "java/lang/NullPointerException" = some ce.cls → vx_W p l e R s m args below meth c H1 locs (cells + 1) (slots + nb) Q (F0 m pc ls rest) q9) :
    vx_NoteN p l e R s m args below meth c H locs cells slots Q (F0 m pc ls rest) := by
  intro T hT X
  have htr : e.platform.stackTraces = false := (show e.platform.stackTraces = l.stackTraces by rw [X.admits.platform]).trans hl
  have Y := vx_rebase X (R' := { frames := R.frames, locals := R.locals, cells := 1, slots := nb }) (Nat.le_refl _) (Nat.le_refl _) hRcells hRslots
  have hhp : ((T.setVm s.vm).setFrames (.invoking m args :: below)).heap = H := hT
  have hW0 : s.WarmedH ((T.setVm s.vm).setFrames (.invoking m args :: below)).vm := State.WarmedH.refl s
  have hat' : ∀ w ∈ vx_atN nb, w.before args ((T.setVm s.vm).setFrames (.invoking m args :: below)) = true := fun w hw => vx_ot_at hW0 rfl (hgood w hw) (hat w hw)
  have hU' : vx_Zq Bundle.tN "UNASSIGNED_STACK" Bundle.steD A ((T.setVm s.vm).setFrames (.invoking m args :: below)) ((T.setVm s.vm).setFrames (.invoking m args :: below)).heap := by rw [hhp]; exact vx_Zq.moved hW0.alike (hU.kept hS.2.1)
  have hN' : vx_Zq Bundle.tN "SUPPRESSED_SENTINEL" Bundle.listD A ((T.setVm s.vm).setFrames (.invoking m args :: below)) ((T.setVm s.vm).setFrames (.invoking m args :: below)).heap := by rw [hhp]; exact vx_Zq.moved hW0.alike (hN.kept hS.2.1)
  obtain ⟨S, q, ce, st, Z, hce, hcl', hv⟩ := vx_npeAt Y hexec htr (n := nb) (vx_own hat' (vx_isRefq hU'.1) (vx_isRefq hN'.1) hU'.2.word hN'.2.word) (fun x hx => nomatch hx)
    (g := F0 m pc ls rest) rfl hsize hRframes (by show 2 * 0 + (rest.map fun v => v.category).sum + 10240 ≤ R.locals; omega) (by show 0 + 1 ≤ 1; omega) (by show 0 + nb ≤ nb; omega) hlocks
  obtain ⟨f1, f2⟩ := vx_frame Z.same
  have f1' : H.size ≤ S.heap.size := by rw [← hT]; exact f1
  have f2' : ∀ q : Nat, q < H.size → S.heap[q]? = H[q]? := fun q hq => by
    rw [← hT]
    exact f2 q (by rw [← hT] at hq; exact hq) (fun z hz => nomatch hz)
  have X5 := vx_back9 X Y Z
  have X6 : Stand p l e R s m args below meth c S locs (cells + 1) (slots + nb) := { X5 with same := X5.same.mono (by omega) (by omega) }
  obtain ⟨t, a1, b1⟩ := k S.heap q ce f1' f2' ⟨Nat.le_trans hS.1 f1', fun q h1 h2 => (f2' q (Nat.lt_of_lt_of_le h1 hS.1)).trans (hS.2.1 q h1 h2), hS.2.2⟩ hce hv hcl' S rfl X6
  exact ⟨t, st t a1, b1⟩
variable {Q : State → Prop} {cc : ByteArray} {pc : Nat} {ls : Array Slot} {rest : List Value}
theorem vx_idivZ (hexec : p.tables.exec = Jvm.exec) (hb : c.code = cc) {a b : Int32} (h0 : b = 0) (d : decode cc pc = .ok (.idiv, 1)) (k : vx_Note p l e R s m args below meth c H locs cells slots Q (F0 m pc ls rest) "java/lang/ArithmeticException" "/ by zero") :
    W p l e R s m args below meth c H locs cells slots Q (F0 m pc ls (.int b :: .int a :: rest)) := by
  intro T hT X
  obtain ⟨t, st, q⟩ := k T hT X
  exact ⟨t, X.idivZero hexec (g := F0 m pc ls (.int b :: .int a :: rest)) rfl (a := a) (rest := rest) (by rw [h0]) (by rw [hb]; exact d) t st, q⟩
theorem vx_iremZ (hexec : p.tables.exec = Jvm.exec) (hb : c.code = cc) {a b : Int32} (h0 : b = 0) (d : decode cc pc = .ok (.irem, 1)) (k : vx_Note p l e R s m args below meth c H locs cells slots Q (F0 m pc ls rest) "java/lang/ArithmeticException" "/ by zero") :
    W p l e R s m args below meth c H locs cells slots Q (F0 m pc ls (.int b :: .int a :: rest)) := by
  intro T hT X
  obtain ⟨t, st, q⟩ := k T hT X
  exact ⟨t, X.iremZero hexec (g := F0 m pc ls (.int b :: .int a :: rest)) rfl (a := a) (rest := rest) (by rw [h0]) (by rw [hb]; exact d) t st, q⟩
theorem vx_ldivZ (hexec : p.tables.exec = Jvm.exec) (hb : c.code = cc) {a b : Int64} (h0 : b = 0) (d : decode cc pc = .ok (.ldiv, 1)) (k : vx_Note p l e R s m args below meth c H locs cells slots Q (F0 m pc ls rest) "java/lang/ArithmeticException" "/ by zero") :
    W p l e R s m args below meth c H locs cells slots Q (F0 m pc ls (.long b :: .long a :: rest)) := by
  intro T hT X
  obtain ⟨t, st, q⟩ := k T hT X
  exact ⟨t, X.ldivZero hexec (g := F0 m pc ls (.long b :: .long a :: rest)) rfl (a := a) (rest := rest) (by rw [h0]) (by rw [hb]; exact d) t st, q⟩
theorem vx_lremZ (hexec : p.tables.exec = Jvm.exec) (hb : c.code = cc) {a b : Int64} (h0 : b = 0) (d : decode cc pc = .ok (.lrem, 1)) (k : vx_Note p l e R s m args below meth c H locs cells slots Q (F0 m pc ls rest) "java/lang/ArithmeticException" "/ by zero") :
    W p l e R s m args below meth c H locs cells slots Q (F0 m pc ls (.long b :: .long a :: rest)) := by
  intro T hT X
  obtain ⟨t, st, q⟩ := k T hT X
  exact ⟨t, X.lremZero hexec (g := F0 m pc ls (.long b :: .long a :: rest)) rfl (a := a) (rest := rest) (by rw [h0]) (by rw [hb]; exact d) t st, q⟩
theorem vx_ialdZ {D : va_G} {cl : List vw_C} {ws : va_W} {tys : List (ClassId × FieldType)} {a : Nat} (hexec : p.tables.exec = Jvm.exec) (hb : c.code = cc) (hK : va_K D cl tys s) (hP : va_P D cl ws H) (q0 t0 : Nat) {cA : ClassId} {n : Nat} {f : Nat → Int32} (ha : ws[q0]? = some (a, .inl (cA, n, .inl f))) (ht : tys[t0]? = some (cA, .int)) {i : Int32} (hout : ¬ vp_in i n) (hdg : decode cc pc = .ok (.iaload, 1))
    (k : ∀ tx : String, tx = (toString "Index " ++ toString i ++ toString " out of bounds for length " ++ toString n : String) → vx_Note p l e R s m args below meth c H locs cells slots Q (F0 m pc ls rest) "java/lang/ArrayIndexOutOfBoundsException" tx) : W p l e R s m args below meth c H locs cells slots Q (F0 m pc ls (.int i :: .ref a :: rest)) := by
  intro T hT X
  obtain ⟨t, st, q⟩ := k _ rfl T hT X
  refine ⟨t, ?_, q⟩
  have h1 := X.ialoadOut hexec (by rw [hT]; exact hP q0 _ ha) ((hK.2 t0 _ ht).1 n (fun j => .int (f j))) (j := i) (by show (i < 0 ∨ (arrV _ _ _).slots.size ≤ _); rw [arrV_size]; exact Classical.byContradiction hout) (g := F0 m pc ls (.int i :: .ref a :: rest)) rfl (rest := rest) rfl (by rw [hb]; exact hdg) t
  simp only [arrV_size] at h1
  exact h1 st
theorem vx_iastZ {D : va_G} {cl : List vw_C} {ws : va_W} {tys : List (ClassId × FieldType)} {a : Nat} (hexec : p.tables.exec = Jvm.exec) (hb : c.code = cc) (hK : va_K D cl tys s) (hP : va_P D cl ws H) (q0 t0 : Nat) {cA : ClassId} {n : Nat} {f : Nat → Int32} (ha : ws[q0]? = some (a, .inl (cA, n, .inl f))) (ht : tys[t0]? = some (cA, .int)) {i : Int32} {x : Int32} (hout : ¬ vp_in i n) (hdg : decode cc pc = .ok (.iastore, 1))
    (k : ∀ tx : String, tx = (toString "Index " ++ toString i ++ toString " out of bounds for length " ++ toString n : String) → vx_Note p l e R s m args below meth c H locs cells slots Q (F0 m pc ls rest) "java/lang/ArrayIndexOutOfBoundsException" tx) : W p l e R s m args below meth c H locs cells slots Q (F0 m pc ls (.int x :: .int i :: .ref a :: rest)) := by
  intro T hT X
  obtain ⟨t, st, q⟩ := k _ rfl T hT X
  refine ⟨t, ?_, q⟩
  have h1 := X.iastoreOut hexec (by rw [hT]; exact hP q0 _ ha) ((hK.2 t0 _ ht).1 n (fun j => .int (f j))) (j := i) (by show (i < 0 ∨ (arrV _ _ _).slots.size ≤ _); rw [arrV_size]; exact Classical.byContradiction hout) (g := F0 m pc ls (.int x :: .int i :: .ref a :: rest)) rfl (rest := rest) rfl (by rw [hb]; exact hdg) t
  simp only [arrV_size] at h1
  exact h1 st
theorem vx_baldZ {D : va_G} {cl : List vw_C} {ws : va_W} {tys : List (ClassId × FieldType)} {a : Nat} (hexec : p.tables.exec = Jvm.exec) (hb : c.code = cc) (hK : va_K D cl tys s) (hP : va_P D cl ws H) (q0 t0 : Nat) {cA : ClassId} {n : Nat} {f : Nat → Int32} (ha : ws[q0]? = some (a, .inl (cA, n, .inl f))) (ht : tys[t0]? = some (cA, .byte)) {i : Int32} (hout : ¬ vp_in i n) (hdg : decode cc pc = .ok (.baload, 1))
    (k : ∀ tx : String, tx = (toString "Index " ++ toString i ++ toString " out of bounds for length " ++ toString n : String) → vx_Note p l e R s m args below meth c H locs cells slots Q (F0 m pc ls rest) "java/lang/ArrayIndexOutOfBoundsException" tx) : W p l e R s m args below meth c H locs cells slots Q (F0 m pc ls (.int i :: .ref a :: rest)) := by
  intro T hT X
  obtain ⟨t, st, q⟩ := k _ rfl T hT X
  refine ⟨t, ?_, q⟩
  have h1 := X.baloadOut hexec (by rw [hT]; exact hP q0 _ ha) ((hK.2 t0 _ ht).1 n (fun j => .int (f j))) (j := i) (by show (i < 0 ∨ (arrV _ _ _).slots.size ≤ _); rw [arrV_size]; exact Classical.byContradiction hout) (g := F0 m pc ls (.int i :: .ref a :: rest)) rfl (rest := rest) rfl (by rw [hb]; exact hdg) t
  simp only [arrV_size] at h1
  exact h1 st
theorem vx_bastZ {D : va_G} {cl : List vw_C} {ws : va_W} {tys : List (ClassId × FieldType)} {a : Nat} (hexec : p.tables.exec = Jvm.exec) (hb : c.code = cc) (hK : va_K D cl tys s) (hP : va_P D cl ws H) (q0 t0 : Nat) {cA : ClassId} {n : Nat} {f : Nat → Int32} (ha : ws[q0]? = some (a, .inl (cA, n, .inl f))) (ht : tys[t0]? = some (cA, .byte)) {i : Int32} {x : Int32} (hout : ¬ vp_in i n) (hdg : decode cc pc = .ok (.bastore, 1))
    (k : ∀ tx : String, tx = (toString "Index " ++ toString i ++ toString " out of bounds for length " ++ toString n : String) → vx_Note p l e R s m args below meth c H locs cells slots Q (F0 m pc ls rest) "java/lang/ArrayIndexOutOfBoundsException" tx) : W p l e R s m args below meth c H locs cells slots Q (F0 m pc ls (.int x :: .int i :: .ref a :: rest)) := by
  intro T hT X
  obtain ⟨t, st, q⟩ := k _ rfl T hT X
  refine ⟨t, ?_, q⟩
  have h1 := X.bastoreOut hexec (by rw [hT]; exact hP q0 _ ha) ((hK.2 t0 _ ht).1 n (fun j => .int (f j))) (j := i) (by show (i < 0 ∨ (arrV _ _ _).slots.size ≤ _); rw [arrV_size]; exact Classical.byContradiction hout) (g := F0 m pc ls (.int x :: .int i :: .ref a :: rest)) rfl (rest := rest) rfl (by rw [hb]; exact hdg) t
  simp only [arrV_size] at h1
  exact h1 st
theorem vx_zaldZ {D : va_G} {cl : List vw_C} {ws : va_W} {tys : List (ClassId × FieldType)} {a : Nat} (hexec : p.tables.exec = Jvm.exec) (hb : c.code = cc) (hK : va_K D cl tys s) (hP : va_P D cl ws H) (q0 t0 : Nat) {cA : ClassId} {n : Nat} {f : Nat → Int32} (ha : ws[q0]? = some (a, .inl (cA, n, .inl f))) (ht : tys[t0]? = some (cA, .boolean)) {i : Int32} (hout : ¬ vp_in i n) (hdg : decode cc pc = .ok (.baload, 1))
    (k : ∀ tx : String, tx = (toString "Index " ++ toString i ++ toString " out of bounds for length " ++ toString n : String) → vx_Note p l e R s m args below meth c H locs cells slots Q (F0 m pc ls rest) "java/lang/ArrayIndexOutOfBoundsException" tx) : W p l e R s m args below meth c H locs cells slots Q (F0 m pc ls (.int i :: .ref a :: rest)) := by
  intro T hT X
  obtain ⟨t, st, q⟩ := k _ rfl T hT X
  refine ⟨t, ?_, q⟩
  have h1 := X.baloadOut hexec (by rw [hT]; exact hP q0 _ ha) ((hK.2 t0 _ ht).1 n (fun j => .int (f j))) (j := i) (by show (i < 0 ∨ (arrV _ _ _).slots.size ≤ _); rw [arrV_size]; exact Classical.byContradiction hout) (g := F0 m pc ls (.int i :: .ref a :: rest)) rfl (rest := rest) rfl (by rw [hb]; exact hdg) t
  simp only [arrV_size] at h1
  exact h1 st
theorem vx_zastZ {D : va_G} {cl : List vw_C} {ws : va_W} {tys : List (ClassId × FieldType)} {a : Nat} (hexec : p.tables.exec = Jvm.exec) (hb : c.code = cc) (hK : va_K D cl tys s) (hP : va_P D cl ws H) (q0 t0 : Nat) {cA : ClassId} {n : Nat} {f : Nat → Int32} (ha : ws[q0]? = some (a, .inl (cA, n, .inl f))) (ht : tys[t0]? = some (cA, .boolean)) {i : Int32} {x : Int32} (hout : ¬ vp_in i n) (hdg : decode cc pc = .ok (.bastore, 1))
    (k : ∀ tx : String, tx = (toString "Index " ++ toString i ++ toString " out of bounds for length " ++ toString n : String) → vx_Note p l e R s m args below meth c H locs cells slots Q (F0 m pc ls rest) "java/lang/ArrayIndexOutOfBoundsException" tx) : W p l e R s m args below meth c H locs cells slots Q (F0 m pc ls (.int x :: .int i :: .ref a :: rest)) := by
  intro T hT X
  obtain ⟨t, st, q⟩ := k _ rfl T hT X
  refine ⟨t, ?_, q⟩
  have h1 := X.bastoreOut hexec (by rw [hT]; exact hP q0 _ ha) ((hK.2 t0 _ ht).1 n (fun j => .int (f j))) (j := i) (by show (i < 0 ∨ (arrV _ _ _).slots.size ≤ _); rw [arrV_size]; exact Classical.byContradiction hout) (g := F0 m pc ls (.int x :: .int i :: .ref a :: rest)) rfl (rest := rest) rfl (by rw [hb]; exact hdg) t
  simp only [arrV_size] at h1
  exact h1 st
theorem vx_caldZ {D : va_G} {cl : List vw_C} {ws : va_W} {tys : List (ClassId × FieldType)} {a : Nat} (hexec : p.tables.exec = Jvm.exec) (hb : c.code = cc) (hK : va_K D cl tys s) (hP : va_P D cl ws H) (q0 t0 : Nat) {cA : ClassId} {n : Nat} {f : Nat → Int32} (ha : ws[q0]? = some (a, .inl (cA, n, .inl f))) (ht : tys[t0]? = some (cA, .char)) {i : Int32} (hout : ¬ vp_in i n) (hdg : decode cc pc = .ok (.caload, 1))
    (k : ∀ tx : String, tx = (toString "Index " ++ toString i ++ toString " out of bounds for length " ++ toString n : String) → vx_Note p l e R s m args below meth c H locs cells slots Q (F0 m pc ls rest) "java/lang/ArrayIndexOutOfBoundsException" tx) : W p l e R s m args below meth c H locs cells slots Q (F0 m pc ls (.int i :: .ref a :: rest)) := by
  intro T hT X
  obtain ⟨t, st, q⟩ := k _ rfl T hT X
  refine ⟨t, ?_, q⟩
  have h1 := X.caloadOut hexec (by rw [hT]; exact hP q0 _ ha) ((hK.2 t0 _ ht).1 n (fun j => .int (f j))) (j := i) (by show (i < 0 ∨ (arrV _ _ _).slots.size ≤ _); rw [arrV_size]; exact Classical.byContradiction hout) (g := F0 m pc ls (.int i :: .ref a :: rest)) rfl (rest := rest) rfl (by rw [hb]; exact hdg) t
  simp only [arrV_size] at h1
  exact h1 st
theorem vx_castZ {D : va_G} {cl : List vw_C} {ws : va_W} {tys : List (ClassId × FieldType)} {a : Nat} (hexec : p.tables.exec = Jvm.exec) (hb : c.code = cc) (hK : va_K D cl tys s) (hP : va_P D cl ws H) (q0 t0 : Nat) {cA : ClassId} {n : Nat} {f : Nat → Int32} (ha : ws[q0]? = some (a, .inl (cA, n, .inl f))) (ht : tys[t0]? = some (cA, .char)) {i : Int32} {x : Int32} (hout : ¬ vp_in i n) (hdg : decode cc pc = .ok (.castore, 1))
    (k : ∀ tx : String, tx = (toString "Index " ++ toString i ++ toString " out of bounds for length " ++ toString n : String) → vx_Note p l e R s m args below meth c H locs cells slots Q (F0 m pc ls rest) "java/lang/ArrayIndexOutOfBoundsException" tx) : W p l e R s m args below meth c H locs cells slots Q (F0 m pc ls (.int x :: .int i :: .ref a :: rest)) := by
  intro T hT X
  obtain ⟨t, st, q⟩ := k _ rfl T hT X
  refine ⟨t, ?_, q⟩
  have h1 := X.castoreOut hexec (by rw [hT]; exact hP q0 _ ha) ((hK.2 t0 _ ht).1 n (fun j => .int (f j))) (j := i) (by show (i < 0 ∨ (arrV _ _ _).slots.size ≤ _); rw [arrV_size]; exact Classical.byContradiction hout) (g := F0 m pc ls (.int x :: .int i :: .ref a :: rest)) rfl (rest := rest) rfl (by rw [hb]; exact hdg) t
  simp only [arrV_size] at h1
  exact h1 st
theorem vx_saldZ {D : va_G} {cl : List vw_C} {ws : va_W} {tys : List (ClassId × FieldType)} {a : Nat} (hexec : p.tables.exec = Jvm.exec) (hb : c.code = cc) (hK : va_K D cl tys s) (hP : va_P D cl ws H) (q0 t0 : Nat) {cA : ClassId} {n : Nat} {f : Nat → Int32} (ha : ws[q0]? = some (a, .inl (cA, n, .inl f))) (ht : tys[t0]? = some (cA, .short)) {i : Int32} (hout : ¬ vp_in i n) (hdg : decode cc pc = .ok (.saload, 1))
    (k : ∀ tx : String, tx = (toString "Index " ++ toString i ++ toString " out of bounds for length " ++ toString n : String) → vx_Note p l e R s m args below meth c H locs cells slots Q (F0 m pc ls rest) "java/lang/ArrayIndexOutOfBoundsException" tx) : W p l e R s m args below meth c H locs cells slots Q (F0 m pc ls (.int i :: .ref a :: rest)) := by
  intro T hT X
  obtain ⟨t, st, q⟩ := k _ rfl T hT X
  refine ⟨t, ?_, q⟩
  have h1 := X.saloadOut hexec (by rw [hT]; exact hP q0 _ ha) ((hK.2 t0 _ ht).1 n (fun j => .int (f j))) (j := i) (by show (i < 0 ∨ (arrV _ _ _).slots.size ≤ _); rw [arrV_size]; exact Classical.byContradiction hout) (g := F0 m pc ls (.int i :: .ref a :: rest)) rfl (rest := rest) rfl (by rw [hb]; exact hdg) t
  simp only [arrV_size] at h1
  exact h1 st
theorem vx_sastZ {D : va_G} {cl : List vw_C} {ws : va_W} {tys : List (ClassId × FieldType)} {a : Nat} (hexec : p.tables.exec = Jvm.exec) (hb : c.code = cc) (hK : va_K D cl tys s) (hP : va_P D cl ws H) (q0 t0 : Nat) {cA : ClassId} {n : Nat} {f : Nat → Int32} (ha : ws[q0]? = some (a, .inl (cA, n, .inl f))) (ht : tys[t0]? = some (cA, .short)) {i : Int32} {x : Int32} (hout : ¬ vp_in i n) (hdg : decode cc pc = .ok (.sastore, 1))
    (k : ∀ tx : String, tx = (toString "Index " ++ toString i ++ toString " out of bounds for length " ++ toString n : String) → vx_Note p l e R s m args below meth c H locs cells slots Q (F0 m pc ls rest) "java/lang/ArrayIndexOutOfBoundsException" tx) : W p l e R s m args below meth c H locs cells slots Q (F0 m pc ls (.int x :: .int i :: .ref a :: rest)) := by
  intro T hT X
  obtain ⟨t, st, q⟩ := k _ rfl T hT X
  refine ⟨t, ?_, q⟩
  have h1 := X.sastoreOut hexec (by rw [hT]; exact hP q0 _ ha) ((hK.2 t0 _ ht).1 n (fun j => .int (f j))) (j := i) (by show (i < 0 ∨ (arrV _ _ _).slots.size ≤ _); rw [arrV_size]; exact Classical.byContradiction hout) (g := F0 m pc ls (.int x :: .int i :: .ref a :: rest)) rfl (rest := rest) rfl (by rw [hb]; exact hdg) t
  simp only [arrV_size] at h1
  exact h1 st
theorem vx_laldZ {D : va_G} {cl : List vw_C} {ws : va_W} {tys : List (ClassId × FieldType)} {a : Nat} (hexec : p.tables.exec = Jvm.exec) (hb : c.code = cc) (hK : va_K D cl tys s) (hP : va_P D cl ws H) (q0 t0 : Nat) {cA : ClassId} {n : Nat} {f : Nat → Int64} (ha : ws[q0]? = some (a, .inl (cA, n, .inr (.inl f)))) (ht : tys[t0]? = some (cA, .long)) {i : Int32} (hout : ¬ vp_in i n) (hdg : decode cc pc = .ok (.laload, 1))
    (k : ∀ tx : String, tx = (toString "Index " ++ toString i ++ toString " out of bounds for length " ++ toString n : String) → vx_Note p l e R s m args below meth c H locs cells slots Q (F0 m pc ls rest) "java/lang/ArrayIndexOutOfBoundsException" tx) : W p l e R s m args below meth c H locs cells slots Q (F0 m pc ls (.int i :: .ref a :: rest)) := by
  intro T hT X
  obtain ⟨t, st, q⟩ := k _ rfl T hT X
  refine ⟨t, ?_, q⟩
  have h1 := X.laloadOut hexec (by rw [hT]; exact hP q0 _ ha) ((hK.2 t0 _ ht).1 n (fun j => .long (f j))) (j := i) (by show (i < 0 ∨ (arrV _ _ _).slots.size ≤ _); rw [arrV_size]; exact Classical.byContradiction hout) (g := F0 m pc ls (.int i :: .ref a :: rest)) rfl (rest := rest) rfl (by rw [hb]; exact hdg) t
  simp only [arrV_size] at h1
  exact h1 st
theorem vx_lastZ {D : va_G} {cl : List vw_C} {ws : va_W} {tys : List (ClassId × FieldType)} {a : Nat} (hexec : p.tables.exec = Jvm.exec) (hb : c.code = cc) (hK : va_K D cl tys s) (hP : va_P D cl ws H) (q0 t0 : Nat) {cA : ClassId} {n : Nat} {f : Nat → Int64} (ha : ws[q0]? = some (a, .inl (cA, n, .inr (.inl f)))) (ht : tys[t0]? = some (cA, .long)) {i : Int32} {x : Int64} (hout : ¬ vp_in i n) (hdg : decode cc pc = .ok (.lastore, 1))
    (k : ∀ tx : String, tx = (toString "Index " ++ toString i ++ toString " out of bounds for length " ++ toString n : String) → vx_Note p l e R s m args below meth c H locs cells slots Q (F0 m pc ls rest) "java/lang/ArrayIndexOutOfBoundsException" tx) : W p l e R s m args below meth c H locs cells slots Q (F0 m pc ls (.long x :: .int i :: .ref a :: rest)) := by
  intro T hT X
  obtain ⟨t, st, q⟩ := k _ rfl T hT X
  refine ⟨t, ?_, q⟩
  have h1 := X.lastoreOut hexec (by rw [hT]; exact hP q0 _ ha) ((hK.2 t0 _ ht).1 n (fun j => .long (f j))) (j := i) (by show (i < 0 ∨ (arrV _ _ _).slots.size ≤ _); rw [arrV_size]; exact Classical.byContradiction hout) (g := F0 m pc ls (.long x :: .int i :: .ref a :: rest)) rfl (rest := rest) rfl (by rw [hb]; exact hdg) t
  simp only [arrV_size] at h1
  exact h1 st
theorem vx_faldZ {D : va_G} {cl : List vw_C} {ws : va_W} {tys : List (ClassId × FieldType)} {a : Nat} (hexec : p.tables.exec = Jvm.exec) (hb : c.code = cc) (hK : va_K D cl tys s) (hP : va_P D cl ws H) (q0 t0 : Nat) {cA : ClassId} {n : Nat} {f : Nat → UInt32} (ha : ws[q0]? = some (a, .inl (cA, n, .inr (.inr (.inl f))))) (ht : tys[t0]? = some (cA, .float)) {i : Int32} (hout : ¬ vp_in i n) (hdg : decode cc pc = .ok (.faload, 1))
    (k : ∀ tx : String, tx = (toString "Index " ++ toString i ++ toString " out of bounds for length " ++ toString n : String) → vx_Note p l e R s m args below meth c H locs cells slots Q (F0 m pc ls rest) "java/lang/ArrayIndexOutOfBoundsException" tx) : W p l e R s m args below meth c H locs cells slots Q (F0 m pc ls (.int i :: .ref a :: rest)) := by
  intro T hT X
  obtain ⟨t, st, q⟩ := k _ rfl T hT X
  refine ⟨t, ?_, q⟩
  have h1 := X.faloadOut hexec (by rw [hT]; exact hP q0 _ ha) ((hK.2 t0 _ ht).1 n (fun j => .float (f j))) (j := i) (by show (i < 0 ∨ (arrV _ _ _).slots.size ≤ _); rw [arrV_size]; exact Classical.byContradiction hout) (g := F0 m pc ls (.int i :: .ref a :: rest)) rfl (rest := rest) rfl (by rw [hb]; exact hdg) t
  simp only [arrV_size] at h1
  exact h1 st
theorem vx_fastZ {D : va_G} {cl : List vw_C} {ws : va_W} {tys : List (ClassId × FieldType)} {a : Nat} (hexec : p.tables.exec = Jvm.exec) (hb : c.code = cc) (hK : va_K D cl tys s) (hP : va_P D cl ws H) (q0 t0 : Nat) {cA : ClassId} {n : Nat} {f : Nat → UInt32} (ha : ws[q0]? = some (a, .inl (cA, n, .inr (.inr (.inl f))))) (ht : tys[t0]? = some (cA, .float)) {i : Int32} {x : UInt32} (hout : ¬ vp_in i n) (hdg : decode cc pc = .ok (.fastore, 1))
    (k : ∀ tx : String, tx = (toString "Index " ++ toString i ++ toString " out of bounds for length " ++ toString n : String) → vx_Note p l e R s m args below meth c H locs cells slots Q (F0 m pc ls rest) "java/lang/ArrayIndexOutOfBoundsException" tx) : W p l e R s m args below meth c H locs cells slots Q (F0 m pc ls (.float x :: .int i :: .ref a :: rest)) := by
  intro T hT X
  obtain ⟨t, st, q⟩ := k _ rfl T hT X
  refine ⟨t, ?_, q⟩
  have h1 := X.fastoreOut hexec (by rw [hT]; exact hP q0 _ ha) ((hK.2 t0 _ ht).1 n (fun j => .float (f j))) (j := i) (by show (i < 0 ∨ (arrV _ _ _).slots.size ≤ _); rw [arrV_size]; exact Classical.byContradiction hout) (g := F0 m pc ls (.float x :: .int i :: .ref a :: rest)) rfl (rest := rest) rfl (by rw [hb]; exact hdg) t
  simp only [arrV_size] at h1
  exact h1 st
theorem vx_daldZ {D : va_G} {cl : List vw_C} {ws : va_W} {tys : List (ClassId × FieldType)} {a : Nat} (hexec : p.tables.exec = Jvm.exec) (hb : c.code = cc) (hK : va_K D cl tys s) (hP : va_P D cl ws H) (q0 t0 : Nat) {cA : ClassId} {n : Nat} {f : Nat → UInt64} (ha : ws[q0]? = some (a, .inl (cA, n, .inr (.inr (.inr (.inl f)))))) (ht : tys[t0]? = some (cA, .double)) {i : Int32} (hout : ¬ vp_in i n) (hdg : decode cc pc = .ok (.daload, 1))
    (k : ∀ tx : String, tx = (toString "Index " ++ toString i ++ toString " out of bounds for length " ++ toString n : String) → vx_Note p l e R s m args below meth c H locs cells slots Q (F0 m pc ls rest) "java/lang/ArrayIndexOutOfBoundsException" tx) : W p l e R s m args below meth c H locs cells slots Q (F0 m pc ls (.int i :: .ref a :: rest)) := by
  intro T hT X
  obtain ⟨t, st, q⟩ := k _ rfl T hT X
  refine ⟨t, ?_, q⟩
  have h1 := X.daloadOut hexec (by rw [hT]; exact hP q0 _ ha) ((hK.2 t0 _ ht).1 n (fun j => .double (f j))) (j := i) (by show (i < 0 ∨ (arrV _ _ _).slots.size ≤ _); rw [arrV_size]; exact Classical.byContradiction hout) (g := F0 m pc ls (.int i :: .ref a :: rest)) rfl (rest := rest) rfl (by rw [hb]; exact hdg) t
  simp only [arrV_size] at h1
  exact h1 st
theorem vx_dastZ {D : va_G} {cl : List vw_C} {ws : va_W} {tys : List (ClassId × FieldType)} {a : Nat} (hexec : p.tables.exec = Jvm.exec) (hb : c.code = cc) (hK : va_K D cl tys s) (hP : va_P D cl ws H) (q0 t0 : Nat) {cA : ClassId} {n : Nat} {f : Nat → UInt64} (ha : ws[q0]? = some (a, .inl (cA, n, .inr (.inr (.inr (.inl f)))))) (ht : tys[t0]? = some (cA, .double)) {i : Int32} {x : UInt64} (hout : ¬ vp_in i n) (hdg : decode cc pc = .ok (.dastore, 1))
    (k : ∀ tx : String, tx = (toString "Index " ++ toString i ++ toString " out of bounds for length " ++ toString n : String) → vx_Note p l e R s m args below meth c H locs cells slots Q (F0 m pc ls rest) "java/lang/ArrayIndexOutOfBoundsException" tx) : W p l e R s m args below meth c H locs cells slots Q (F0 m pc ls (.double x :: .int i :: .ref a :: rest)) := by
  intro T hT X
  obtain ⟨t, st, q⟩ := k _ rfl T hT X
  refine ⟨t, ?_, q⟩
  have h1 := X.dastoreOut hexec (by rw [hT]; exact hP q0 _ ha) ((hK.2 t0 _ ht).1 n (fun j => .double (f j))) (j := i) (by show (i < 0 ∨ (arrV _ _ _).slots.size ≤ _); rw [arrV_size]; exact Classical.byContradiction hout) (g := F0 m pc ls (.double x :: .int i :: .ref a :: rest)) rfl (rest := rest) rfl (by rw [hb]; exact hdg) t
  simp only [arrV_size] at h1
  exact h1 st
theorem vx_arraylengthN (hexec : p.tables.exec = Jvm.exec) (hb : c.code = cc) (hdg : decode cc pc = .ok (.arraylength, 1)) (k : vx_NoteN p l e R s m args below meth c H locs cells slots Q (F0 m pc ls rest)) : W p l e R s m args below meth c H locs cells slots Q (F0 m pc ls (.null :: rest)) := by
  intro T hT X
  obtain ⟨t, st, q⟩ := k T hT X
  exact ⟨t, X.arraylengthNull hexec (g := F0 m pc ls (.null :: rest)) rfl (rest := rest) rfl (by rw [hb]; exact hdg) t st, q⟩
theorem vx_ialoadN (hexec : p.tables.exec = Jvm.exec) (hb : c.code = cc) {i : Int32} (hdg : decode cc pc = .ok (.iaload, 1)) (k : vx_NoteN p l e R s m args below meth c H locs cells slots Q (F0 m pc ls rest)) : W p l e R s m args below meth c H locs cells slots Q (F0 m pc ls (.int i :: .null :: rest)) := by
  intro T hT X
  obtain ⟨t, st, q⟩ := k T hT X
  exact ⟨t, X.ialoadNull hexec (g := F0 m pc ls (.int i :: .null :: rest)) rfl (rest := rest) rfl (by rw [hb]; exact hdg) t st, q⟩
theorem vx_laloadN (hexec : p.tables.exec = Jvm.exec) (hb : c.code = cc) {i : Int32} (hdg : decode cc pc = .ok (.laload, 1)) (k : vx_NoteN p l e R s m args below meth c H locs cells slots Q (F0 m pc ls rest)) : W p l e R s m args below meth c H locs cells slots Q (F0 m pc ls (.int i :: .null :: rest)) := by
  intro T hT X
  obtain ⟨t, st, q⟩ := k T hT X
  exact ⟨t, X.laloadNull hexec (g := F0 m pc ls (.int i :: .null :: rest)) rfl (rest := rest) rfl (by rw [hb]; exact hdg) t st, q⟩
theorem vx_faloadN (hexec : p.tables.exec = Jvm.exec) (hb : c.code = cc) {i : Int32} (hdg : decode cc pc = .ok (.faload, 1)) (k : vx_NoteN p l e R s m args below meth c H locs cells slots Q (F0 m pc ls rest)) : W p l e R s m args below meth c H locs cells slots Q (F0 m pc ls (.int i :: .null :: rest)) := by
  intro T hT X
  obtain ⟨t, st, q⟩ := k T hT X
  exact ⟨t, X.faloadNull hexec (g := F0 m pc ls (.int i :: .null :: rest)) rfl (rest := rest) rfl (by rw [hb]; exact hdg) t st, q⟩
theorem vx_daloadN (hexec : p.tables.exec = Jvm.exec) (hb : c.code = cc) {i : Int32} (hdg : decode cc pc = .ok (.daload, 1)) (k : vx_NoteN p l e R s m args below meth c H locs cells slots Q (F0 m pc ls rest)) : W p l e R s m args below meth c H locs cells slots Q (F0 m pc ls (.int i :: .null :: rest)) := by
  intro T hT X
  obtain ⟨t, st, q⟩ := k T hT X
  exact ⟨t, X.daloadNull hexec (g := F0 m pc ls (.int i :: .null :: rest)) rfl (rest := rest) rfl (by rw [hb]; exact hdg) t st, q⟩
theorem vx_aaloadN (hexec : p.tables.exec = Jvm.exec) (hb : c.code = cc) {i : Int32} (hdg : decode cc pc = .ok (.aaload, 1)) (k : vx_NoteN p l e R s m args below meth c H locs cells slots Q (F0 m pc ls rest)) : W p l e R s m args below meth c H locs cells slots Q (F0 m pc ls (.int i :: .null :: rest)) := by
  intro T hT X
  obtain ⟨t, st, q⟩ := k T hT X
  exact ⟨t, X.aaloadNull hexec (g := F0 m pc ls (.int i :: .null :: rest)) rfl (rest := rest) rfl (by rw [hb]; exact hdg) t st, q⟩
theorem vx_baloadN (hexec : p.tables.exec = Jvm.exec) (hb : c.code = cc) {i : Int32} (hdg : decode cc pc = .ok (.baload, 1)) (k : vx_NoteN p l e R s m args below meth c H locs cells slots Q (F0 m pc ls rest)) : W p l e R s m args below meth c H locs cells slots Q (F0 m pc ls (.int i :: .null :: rest)) := by
  intro T hT X
  obtain ⟨t, st, q⟩ := k T hT X
  exact ⟨t, X.baloadNull hexec (g := F0 m pc ls (.int i :: .null :: rest)) rfl (rest := rest) rfl (by rw [hb]; exact hdg) t st, q⟩
theorem vx_caloadN (hexec : p.tables.exec = Jvm.exec) (hb : c.code = cc) {i : Int32} (hdg : decode cc pc = .ok (.caload, 1)) (k : vx_NoteN p l e R s m args below meth c H locs cells slots Q (F0 m pc ls rest)) : W p l e R s m args below meth c H locs cells slots Q (F0 m pc ls (.int i :: .null :: rest)) := by
  intro T hT X
  obtain ⟨t, st, q⟩ := k T hT X
  exact ⟨t, X.caloadNull hexec (g := F0 m pc ls (.int i :: .null :: rest)) rfl (rest := rest) rfl (by rw [hb]; exact hdg) t st, q⟩
theorem vx_saloadN (hexec : p.tables.exec = Jvm.exec) (hb : c.code = cc) {i : Int32} (hdg : decode cc pc = .ok (.saload, 1)) (k : vx_NoteN p l e R s m args below meth c H locs cells slots Q (F0 m pc ls rest)) : W p l e R s m args below meth c H locs cells slots Q (F0 m pc ls (.int i :: .null :: rest)) := by
  intro T hT X
  obtain ⟨t, st, q⟩ := k T hT X
  exact ⟨t, X.saloadNull hexec (g := F0 m pc ls (.int i :: .null :: rest)) rfl (rest := rest) rfl (by rw [hb]; exact hdg) t st, q⟩
theorem vx_iastoreN (hexec : p.tables.exec = Jvm.exec) (hb : c.code = cc) {x : Int32} {i : Int32} (hdg : decode cc pc = .ok (.iastore, 1)) (k : vx_NoteN p l e R s m args below meth c H locs cells slots Q (F0 m pc ls rest)) : W p l e R s m args below meth c H locs cells slots Q (F0 m pc ls (.int x :: .int i :: .null :: rest)) := by
  intro T hT X
  obtain ⟨t, st, q⟩ := k T hT X
  exact ⟨t, X.iastoreNull hexec (g := F0 m pc ls (.int x :: .int i :: .null :: rest)) rfl (rest := rest) rfl (by rw [hb]; exact hdg) t st, q⟩
theorem vx_lastoreN (hexec : p.tables.exec = Jvm.exec) (hb : c.code = cc) {x : Int64} {i : Int32} (hdg : decode cc pc = .ok (.lastore, 1)) (k : vx_NoteN p l e R s m args below meth c H locs cells slots Q (F0 m pc ls rest)) : W p l e R s m args below meth c H locs cells slots Q (F0 m pc ls (.long x :: .int i :: .null :: rest)) := by
  intro T hT X
  obtain ⟨t, st, q⟩ := k T hT X
  exact ⟨t, X.lastoreNull hexec (g := F0 m pc ls (.long x :: .int i :: .null :: rest)) rfl (rest := rest) rfl (by rw [hb]; exact hdg) t st, q⟩
theorem vx_fastoreN (hexec : p.tables.exec = Jvm.exec) (hb : c.code = cc) {x : UInt32} {i : Int32} (hdg : decode cc pc = .ok (.fastore, 1)) (k : vx_NoteN p l e R s m args below meth c H locs cells slots Q (F0 m pc ls rest)) : W p l e R s m args below meth c H locs cells slots Q (F0 m pc ls (.float x :: .int i :: .null :: rest)) := by
  intro T hT X
  obtain ⟨t, st, q⟩ := k T hT X
  exact ⟨t, X.fastoreNull hexec (g := F0 m pc ls (.float x :: .int i :: .null :: rest)) rfl (rest := rest) rfl (by rw [hb]; exact hdg) t st, q⟩
theorem vx_dastoreN (hexec : p.tables.exec = Jvm.exec) (hb : c.code = cc) {x : UInt64} {i : Int32} (hdg : decode cc pc = .ok (.dastore, 1)) (k : vx_NoteN p l e R s m args below meth c H locs cells slots Q (F0 m pc ls rest)) : W p l e R s m args below meth c H locs cells slots Q (F0 m pc ls (.double x :: .int i :: .null :: rest)) := by
  intro T hT X
  obtain ⟨t, st, q⟩ := k T hT X
  exact ⟨t, X.dastoreNull hexec (g := F0 m pc ls (.double x :: .int i :: .null :: rest)) rfl (rest := rest) rfl (by rw [hb]; exact hdg) t st, q⟩
theorem vx_bastoreN (hexec : p.tables.exec = Jvm.exec) (hb : c.code = cc) {x : Int32} {i : Int32} (hdg : decode cc pc = .ok (.bastore, 1)) (k : vx_NoteN p l e R s m args below meth c H locs cells slots Q (F0 m pc ls rest)) : W p l e R s m args below meth c H locs cells slots Q (F0 m pc ls (.int x :: .int i :: .null :: rest)) := by
  intro T hT X
  obtain ⟨t, st, q⟩ := k T hT X
  exact ⟨t, X.bastoreNull hexec (g := F0 m pc ls (.int x :: .int i :: .null :: rest)) rfl (rest := rest) rfl (by rw [hb]; exact hdg) t st, q⟩
theorem vx_castoreN (hexec : p.tables.exec = Jvm.exec) (hb : c.code = cc) {x : Int32} {i : Int32} (hdg : decode cc pc = .ok (.castore, 1)) (k : vx_NoteN p l e R s m args below meth c H locs cells slots Q (F0 m pc ls rest)) : W p l e R s m args below meth c H locs cells slots Q (F0 m pc ls (.int x :: .int i :: .null :: rest)) := by
  intro T hT X
  obtain ⟨t, st, q⟩ := k T hT X
  exact ⟨t, X.castoreNull hexec (g := F0 m pc ls (.int x :: .int i :: .null :: rest)) rfl (rest := rest) rfl (by rw [hb]; exact hdg) t st, q⟩
theorem vx_sastoreN (hexec : p.tables.exec = Jvm.exec) (hb : c.code = cc) {x : Int32} {i : Int32} (hdg : decode cc pc = .ok (.sastore, 1)) (k : vx_NoteN p l e R s m args below meth c H locs cells slots Q (F0 m pc ls rest)) : W p l e R s m args below meth c H locs cells slots Q (F0 m pc ls (.int x :: .int i :: .null :: rest)) := by
  intro T hT X
  obtain ⟨t, st, q⟩ := k T hT X
  exact ⟨t, X.sastoreNull hexec (g := F0 m pc ls (.int x :: .int i :: .null :: rest)) rfl (rest := rest) rfl (by rw [hb]; exact hdg) t st, q⟩
theorem vx_invokeN {own C : String} {index maxL : Nat} {y : MethodName} {bytes : ByteArray} {ret : Option FieldType} (hexec : p.tables.exec = Jvm.exec) (hb : c.code = cc) (hown : s.vm.findClass own = some m.cls) (hlink : (Cond.methodLink own index y).before args s = true) (hinst : (Cond.instanceMethod y).before args s = true) (hcode : (Cond.code y bytes maxL ret).before args s = true) (hsel : (Cond.selects C y y).before args s = true)
    (hx : y.cls ≠ "java/lang/invoke/MethodHandle" ∧ y.cls ≠ "java/lang/invoke/VarHandle") {As : List Value} (hlen : (parseMethodDescriptor y.desc).map (fun d => d.parameters.length) = some As.length) (hdg : decode cc pc = .ok (.invokevirtual index, 3))
    (k : vx_NoteN p l e R s m args below meth c H locs cells slots Q (F0 m pc ls rest)) {st0 : List Value} (hst : st0 = As.reverse ++ .null :: rest) : W p l e R s m args below meth c H locs cells slots Q (F0 m pc ls st0) := by
  intro T hT X
  obtain ⟨r0, r, hn, hrm, hstR, hsigR⟩ := va_Decl.of hinst hcode
  obtain ⟨c2, r2, m2, q1, q2, q3, q4, kP, hkP, hkPi⟩ := Cond.selects_spec hsel
  cases hn.symm.trans q3
  have hl9 : As.length = r.sig.parameters.length := by
    rw [hsigR] at hlen
    exact (Option.some.inj hlen).symm
  obtain ⟨vm', X1, st1⟩ := X.invokevirtualNull hexec hown hlink hn hrm hstR hkP hkPi hx (g := F0 m pc ls st0) rfl (argsL := As) (rest := rest) hl9 hst (by rw [hb]; exact hdg)
  obtain ⟨t, st, q⟩ := k (T.setVm vm') hT X1
  exact ⟨t, st1 t st, q⟩
theorem vx_newarrayZ {atype : ArrayType} (hexec : p.tables.exec = Jvm.exec) (hb : c.code = cc) {n : Int32} (h0 : n < 0) (hdg : decode cc pc = .ok (.newarray atype, 2)) (k : ∀ tx : String, tx = toString n → vx_Note p l e R s m args below meth c H locs cells slots Q (F0 m pc ls rest) "java/lang/NegativeArraySizeException" tx) : W p l e R s m args below meth c H locs cells slots Q (F0 m pc ls (.int n :: rest)) := by
  intro T hT X
  obtain ⟨t, st, q⟩ := k _ rfl T hT X
  exact ⟨t, X.newarrayNegative hexec (g := F0 m pc ls (.int n :: rest)) rfl h0 (rest := rest) rfl (by rw [hb]; exact hdg) t st, q⟩
end
end VXM
/-! ===== END ===== -/
end
section
/-! ===== BEGIN printed: names, fields, word lists, decode rows ===== -/
def RX0 : String := "BlockLayout$Arranger"
def TX0 : u_T := fun k => match k with
  | 0 => ("BlockLayout$Arranger", "program", "LBlockLayout$Program;", true)
  | 1 => ("BlockLayout$Arranger", "plan", "LBlockLayout$Plan;", true)
  | 2 => ("BlockLayout$Arranger", "isHot", "[Z", true)
  | 3 => ("BlockLayout$Arranger", "hotBlocks", "I", false)
  | 4 => ("BlockLayout$Arranger", "behind", "[I", true)
  | 5 => ("BlockLayout$Arranger", "chainOf", "[I", true)
  | 6 => ("BlockLayout$Arranger", "pull", "[I", true)
  | 7 => ("BlockLayout$Arranger", "isPlaced", "[Z", true)
  | 8 => ("BlockLayout$Arranger", "bestGain", "I", false)
  | 9 => ("BlockLayout$Arranger", "bestLast", "I", false)
  | 10 => ("BlockLayout$Arranger", "bestFirst", "I", false)
  | 11 => ("BlockLayout$Arranger", "trial", "[I", true)
  | _ => ("BlockLayout$Arranger", "leastCost", "I", false)
def tyX0 : Nat → FieldType := fun k => match k with
  | 0 => .object "BlockLayout$Program"
  | 1 => .object "BlockLayout$Plan"
  | 2 => .array .boolean
  | 3 => .int
  | 4 => .array .int
  | 5 => .array .int
  | 6 => .array .int
  | 7 => .array .boolean
  | 8 => .int
  | 9 => .int
  | 10 => .int
  | 11 => .array .int
  | _ => .int
abbrev wsX00 : List Cond := u_ws RX0 TX0 13
theorem nmX0 : ∀ a, a < 13 → ∀ b, b < 13 → a ≠ b → (TX0 a).2.1 ≠ (TX0 b).2.1 := by decide +kernel
theorem tyX0_ok : ∀ k, k < 13 → parseFieldDescriptor (TX0 k).2.2.1 = some (tyX0 k) := by decide +kernel
abbrev cX0_init : ByteArray := prog_2_method_1_code
def yX0_init : MethodName := ⟨RX0, "<init>", "(LBlockLayout$Program;LBlockLayout$Plan;)V"⟩
abbrev cX0_divide : ByteArray := prog_2_method_2_code
def yX0_divide : MethodName := ⟨RX0, "divide", "(I)V"⟩
abbrev cX0_makePlan : ByteArray := prog_2_method_3_code
def yX0_makePlan : MethodName := ⟨RX0, "makePlan", "(I)V"⟩
abbrev cX0_placeCold : ByteArray := prog_2_method_4_code
def yX0_placeCold : MethodName := ⟨RX0, "placeCold", "()V"⟩
abbrev cX0_joinChains : ByteArray := prog_2_method_5_code
def yX0_joinChains : MethodName := ⟨RX0, "joinChains", "(Z)V"⟩
abbrev cX0_joinBest : ByteArray := prog_2_method_6_code
def yX0_joinBest : MethodName := ⟨RX0, "joinBest", "(Z)Z"⟩
abbrev cX0_weigh : ByteArray := prog_2_method_7_code
def yX0_weigh : MethodName := ⟨RX0, "weigh", "(IIZ)V"⟩
abbrev cX0_canJoin : ByteArray := prog_2_method_8_code
def yX0_canJoin : MethodName := ⟨RX0, "canJoin", "(II)Z"⟩
abbrev cX0_append : ByteArray := prog_2_method_9_code
def yX0_append : MethodName := ⟨RX0, "append", "(II)V"⟩
abbrev cX0_placeChains : ByteArray := prog_2_method_10_code
def yX0_placeChains : MethodName := ⟨RX0, "placeChains", "()V"⟩
abbrev cX0_placeChain : ByteArray := prog_2_method_11_code
def yX0_placeChain : MethodName := ⟨RX0, "placeChain", "(II)I"⟩
abbrev cX0_pullFor : ByteArray := prog_2_method_12_code
def yX0_pullFor : MethodName := ⟨RX0, "pullFor", "(II)V"⟩
abbrev cX0_strongestChain : ByteArray := prog_2_method_13_code
def yX0_strongestChain : MethodName := ⟨RX0, "strongestChain", "()I"⟩
abbrev cX0_search : ByteArray := prog_2_method_14_code
def yX0_search : MethodName := ⟨RX0, "search", "(III)V"⟩
abbrev cX0_keepTrial : ByteArray := prog_2_method_15_code
def yX0_keepTrial : MethodName := ⟨RX0, "keepTrial", "(II)V"⟩
def RX1 : String := "BlockLayout$History"
def TX1 : u_T := fun k => match k with
  | 0 => ("BlockLayout$History", "rows", "[I", true)
  | 1 => ("BlockLayout$History", "hots", "[I", true)
  | 2 => ("BlockLayout$History", "alignments", "[I", true)
  | 3 => ("BlockLayout$History", "slot", "I", false)
  | _ => ("BlockLayout$History", "kept", "I", false)
def tyX1 : Nat → FieldType := fun k => match k with
  | 0 => .array .int
  | 1 => .array .int
  | 2 => .array .int
  | 3 => .int
  | _ => .int
abbrev wsX10 : List Cond := u_ws RX1 TX1 5
theorem nmX1 : ∀ a, a < 5 → ∀ b, b < 5 → a ≠ b → (TX1 a).2.1 ≠ (TX1 b).2.1 := by decide +kernel
theorem tyX1_ok : ∀ k, k < 5 → parseFieldDescriptor (TX1 k).2.2.1 = some (tyX1 k) := by decide +kernel
abbrev cX1_init : ByteArray := prog_3_method_1_code
def yX1_init : MethodName := ⟨RX1, "<init>", "()V"⟩
abbrev cX1_forget : ByteArray := prog_3_method_2_code
def yX1_forget : MethodName := ⟨RX1, "forget", "()V"⟩
abbrev cX1_remember : ByteArray := prog_3_method_3_code
def yX1_remember : MethodName := ⟨RX1, "remember", "(LBlockLayout$Plan;)V"⟩
abbrev cX1_restore : ByteArray := prog_3_method_4_code
def yX1_restore : MethodName := ⟨RX1, "restore", "(LBlockLayout$Plan;)Z"⟩
def RX2 : String := "BlockLayout$Input"
def TX2 : u_T := fun k => match k with
  | 0 => ("BlockLayout$Input", "characters", "[C", true)
  | 1 => ("BlockLayout$Input", "length", "I", false)
  | 2 => ("BlockLayout$Input", "at", "I", false)
  | 3 => ("BlockLayout$Input", "number", "I", false)
  | 4 => ("BlockLayout$Input", "size", "I", false)
  | 5 => ("BlockLayout$Input", "kind", "I", false)
  | 6 => ("BlockLayout$Input", "first", "I", false)
  | 7 => ("BlockLayout$Input", "second", "I", false)
  | _ => ("BlockLayout$Input", "pattern", "I", false)
def tyX2 : Nat → FieldType := fun k => match k with
  | 0 => .array .char
  | 1 => .int
  | 2 => .int
  | 3 => .int
  | 4 => .int
  | 5 => .int
  | 6 => .int
  | 7 => .int
  | _ => .int
abbrev wsX20 : List Cond := u_ws RX2 TX2 9
theorem nmX2 : ∀ a, a < 9 → ∀ b, b < 9 → a ≠ b → (TX2 a).2.1 ≠ (TX2 b).2.1 := by decide +kernel
theorem tyX2_ok : ∀ k, k < 9 → parseFieldDescriptor (TX2 k).2.2.1 = some (tyX2 k) := by decide +kernel
abbrev cX2_init : ByteArray := prog_4_method_1_code
def yX2_init : MethodName := ⟨RX2, "<init>", "()V"⟩
abbrev cX2_append : ByteArray := prog_4_method_2_code
def yX2_append : MethodName := ⟨RX2, "append", "(C)Z"⟩
abbrev cX2_parse : ByteArray := prog_4_method_3_code
def yX2_parse : MethodName := ⟨RX2, "parse", "()Z"⟩
abbrev cX2_takeEnd : ByteArray := prog_4_method_4_code
def yX2_takeEnd : MethodName := ⟨RX2, "takeEnd", "()Z"⟩
abbrev cX2_takeFirst : ByteArray := prog_4_method_5_code
def yX2_takeFirst : MethodName := ⟨RX2, "takeFirst", "()Z"⟩
abbrev cX2_takeSecond : ByteArray := prog_4_method_6_code
def yX2_takeSecond : MethodName := ⟨RX2, "takeSecond", "()Z"⟩
abbrev cX2_takePattern : ByteArray := prog_4_method_7_code
def yX2_takePattern : MethodName := ⟨RX2, "takePattern", "()Z"⟩
abbrev cX2_takeNumber : ByteArray := prog_4_method_8_code
def yX2_takeNumber : MethodName := ⟨RX2, "takeNumber", "(I)Z"⟩
abbrev cX2_takeWord : ByteArray := prog_4_method_9_code
def yX2_takeWord : MethodName := ⟨RX2, "takeWord", "(Ljava/lang/String;)Z"⟩
abbrev cX2_sees : ByteArray := prog_4_method_10_code
def yX2_sees : MethodName := ⟨RX2, "sees", "(C)Z"⟩
abbrev cX2_seesDigit : ByteArray := prog_4_method_11_code
def yX2_seesDigit : MethodName := ⟨RX2, "seesDigit", "()Z"⟩
def RX3 : String := "BlockLayout$Machine"
def TX3 : u_T := fun k => match k with
  | 0 => ("BlockLayout$Machine", "program", "LBlockLayout$Program;", true)
  | 1 => ("BlockLayout$Machine", "path", "[I", false)
  | 2 => ("BlockLayout$Machine", "newPath", "[I", false)
  | 3 => ("BlockLayout$Machine", "times", "[I", true)
  | _ => ("BlockLayout$Machine", "length", "I", false)
def tyX3 : Nat → FieldType := fun k => match k with
  | 0 => .object "BlockLayout$Program"
  | 1 => .array .int
  | 2 => .array .int
  | 3 => .array .int
  | _ => .int
abbrev wsX30 : List Cond := u_ws RX3 TX3 5
theorem nmX3 : ∀ a, a < 5 → ∀ b, b < 5 → a ≠ b → (TX3 a).2.1 ≠ (TX3 b).2.1 := by decide +kernel
theorem tyX3_ok : ∀ k, k < 5 → parseFieldDescriptor (TX3 k).2.2.1 = some (tyX3 k) := by decide +kernel
abbrev cX3_init : ByteArray := prog_5_method_1_code
def yX3_init : MethodName := ⟨RX3, "<init>", "(LBlockLayout$Program;)V"⟩
abbrev cX3_execute : ByteArray := prog_5_method_2_code
def yX3_execute : MethodName := ⟨RX3, "execute", "(I)Z"⟩
abbrev cX3_follow : ByteArray := prog_5_method_3_code
def yX3_follow : MethodName := ⟨RX3, "follow", "(I)I"⟩
abbrev cX3_keepPath : ByteArray := prog_5_method_4_code
def yX3_keepPath : MethodName := ⟨RX3, "keepPath", "(I)V"⟩
abbrev cX3_addToProfile : ByteArray := prog_5_method_5_code
def yX3_addToProfile : MethodName := ⟨RX3, "addToProfile", "()V"⟩
abbrev cX3_addToEdge : ByteArray := prog_5_method_6_code
def yX3_addToEdge : MethodName := ⟨RX3, "addToEdge", "(II)V"⟩
def RX4 : String := "BlockLayout$Placement"
def TX4 : u_T := fun k => match k with
  | 0 => ("BlockLayout$Placement", "program", "LBlockLayout$Program;", true)
  | 1 => ("BlockLayout$Placement", "plan", "LBlockLayout$Plan;", true)
  | 2 => ("BlockLayout$Placement", "position", "[I", true)
  | 3 => ("BlockLayout$Placement", "next", "[I", true)
  | 4 => ("BlockLayout$Placement", "form", "[I", true)
  | 5 => ("BlockLayout$Placement", "branchBytes", "[I", true)
  | 6 => ("BlockLayout$Placement", "jumpBytes", "[I", true)
  | 7 => ("BlockLayout$Placement", "address", "[I", true)
  | 8 => ("BlockLayout$Placement", "padding", "[I", true)
  | 9 => ("BlockLayout$Placement", "hotEnd", "I", false)
  | _ => ("BlockLayout$Placement", "wholeEnd", "I", false)
def tyX4 : Nat → FieldType := fun k => match k with
  | 0 => .object "BlockLayout$Program"
  | 1 => .object "BlockLayout$Plan"
  | 2 => .array .int
  | 3 => .array .int
  | 4 => .array .int
  | 5 => .array .int
  | 6 => .array .int
  | 7 => .array .int
  | 8 => .array .int
  | 9 => .int
  | _ => .int
abbrev wsX40 : List Cond := u_ws RX4 TX4 11
theorem nmX4 : ∀ a, a < 11 → ∀ b, b < 11 → a ≠ b → (TX4 a).2.1 ≠ (TX4 b).2.1 := by decide +kernel
theorem tyX4_ok : ∀ k, k < 11 → parseFieldDescriptor (TX4 k).2.2.1 = some (tyX4 k) := by decide +kernel
abbrev cX4_init : ByteArray := prog_6_method_1_code
def yX4_init : MethodName := ⟨RX4, "<init>", "(LBlockLayout$Program;LBlockLayout$Plan;)V"⟩
abbrev cX4_settle : ByteArray := prog_6_method_2_code
def yX4_settle : MethodName := ⟨RX4, "settle", "(II)V"⟩
abbrev cX4_findForms : ByteArray := prog_6_method_3_code
def yX4_findForms : MethodName := ⟨RX4, "findForms", "()V"⟩
abbrev cX4_formOf : ByteArray := prog_6_method_4_code
def yX4_formOf : MethodName := ⟨RX4, "formOf", "(II)I"⟩
abbrev cX4_hasBranch : ByteArray := prog_6_method_5_code
def yX4_hasBranch : MethodName := ⟨RX4, "hasBranch", "(I)Z"⟩
abbrev cX4_hasJump : ByteArray := prog_6_method_6_code
def yX4_hasJump : MethodName := ⟨RX4, "hasJump", "(I)Z"⟩
abbrev cX4_setAddresses : ByteArray := prog_6_method_7_code
def yX4_setAddresses : MethodName := ⟨RX4, "setAddresses", "(II)V"⟩
abbrev cX4_multipleFrom : ByteArray := prog_6_method_8_code
def yX4_multipleFrom : MethodName := ⟨RX4, "multipleFrom", "(II)I"⟩
abbrev cX4_widen : ByteArray := prog_6_method_9_code
def yX4_widen : MethodName := ⟨RX4, "widen", "()Z"⟩
abbrev cX4_branchTarget : ByteArray := prog_6_method_10_code
def yX4_branchTarget : MethodName := ⟨RX4, "branchTarget", "(I)I"⟩
abbrev cX4_jumpTarget : ByteArray := prog_6_method_11_code
def yX4_jumpTarget : MethodName := ⟨RX4, "jumpTarget", "(I)I"⟩
abbrev cX4_isFar : ByteArray := prog_6_method_12_code
def yX4_isFar : MethodName := ⟨RX4, "isFar", "(II)Z"⟩
abbrev cX4_bytesOfEnd : ByteArray := prog_6_method_13_code
def yX4_bytesOfEnd : MethodName := ⟨RX4, "bytesOfEnd", "(I)I"⟩
abbrev cX4_isBranchLong : ByteArray := prog_6_method_14_code
def yX4_isBranchLong : MethodName := ⟨RX4, "isBranchLong", "(I)Z"⟩
abbrev cX4_isJumpLong : ByteArray := prog_6_method_15_code
def yX4_isJumpLong : MethodName := ⟨RX4, "isJumpLong", "(I)Z"⟩
abbrev cX4_sumOfPadding : ByteArray := prog_6_method_16_code
def yX4_sumOfPadding : MethodName := ⟨RX4, "sumOfPadding", "()I"⟩
abbrev cX4_countOfLong : ByteArray := prog_6_method_17_code
def yX4_countOfLong : MethodName := ⟨RX4, "countOfLong", "()I"⟩
abbrev cX4_countOfForm : ByteArray := prog_6_method_18_code
def yX4_countOfForm : MethodName := ⟨RX4, "countOfForm", "(I)I"⟩
abbrev cX4_sumOfCosts : ByteArray := prog_6_method_19_code
def yX4_sumOfCosts : MethodName := ⟨RX4, "sumOfCosts", "(I)I"⟩
abbrev cX4_cyclesOfProfile : ByteArray := prog_6_method_20_code
def yX4_cyclesOfProfile : MethodName := ⟨RX4, "cyclesOfProfile", "()I"⟩
abbrev cX4_hasPaddedNext : ByteArray := prog_6_method_21_code
def yX4_hasPaddedNext : MethodName := ⟨RX4, "hasPaddedNext", "(I)Z"⟩
abbrev cX4_cyclesOfPath : ByteArray := prog_6_method_22_code
def yX4_cyclesOfPath : MethodName := ⟨RX4, "cyclesOfPath", "(LBlockLayout$Machine;)I"⟩
def RX5 : String := "BlockLayout$Plan"
def TX5 : u_T := fun k => match k with
  | 0 => ("BlockLayout$Plan", "row", "[I", true)
  | 1 => ("BlockLayout$Plan", "hot", "I", false)
  | _ => ("BlockLayout$Plan", "alignment", "I", false)
def tyX5 : Nat → FieldType := fun k => match k with
  | 0 => .array .int
  | 1 => .int
  | _ => .int
abbrev wsX50 : List Cond := u_ws RX5 TX5 3
theorem nmX5 : ∀ a, a < 3 → ∀ b, b < 3 → a ≠ b → (TX5 a).2.1 ≠ (TX5 b).2.1 := by decide +kernel
theorem tyX5_ok : ∀ k, k < 3 → parseFieldDescriptor (TX5 k).2.2.1 = some (tyX5 k) := by decide +kernel
abbrev cX5_init : ByteArray := prog_7_method_1_code
def yX5_init : MethodName := ⟨RX5, "<init>", "()V"⟩
abbrev cX5_begin : ByteArray := prog_7_method_2_code
def yX5_begin : MethodName := ⟨RX5, "begin", "(I)V"⟩
def RX6 : String := "BlockLayout$Program"
def TX6 : u_T := fun k => match k with
  | 0 => ("BlockLayout$Program", "size", "[I", true)
  | 1 => ("BlockLayout$Program", "kind", "[I", true)
  | 2 => ("BlockLayout$Program", "first", "[I", true)
  | 3 => ("BlockLayout$Program", "second", "[I", true)
  | 4 => ("BlockLayout$Program", "pattern", "[I", true)
  | 5 => ("BlockLayout$Program", "count", "[I", true)
  | 6 => ("BlockLayout$Program", "firstWeight", "[I", true)
  | 7 => ("BlockLayout$Program", "secondWeight", "[I", true)
  | 8 => ("BlockLayout$Program", "blocks", "I", false)
  | _ => ("BlockLayout$Program", "heads", "I", false)
def tyX6 : Nat → FieldType := fun k => match k with
  | 0 => .array .int
  | 1 => .array .int
  | 2 => .array .int
  | 3 => .array .int
  | 4 => .array .int
  | 5 => .array .int
  | 6 => .array .int
  | 7 => .array .int
  | 8 => .int
  | _ => .int
abbrev wsX60 : List Cond := u_ws RX6 TX6 10
theorem nmX6 : ∀ a, a < 10 → ∀ b, b < 10 → a ≠ b → (TX6 a).2.1 ≠ (TX6 b).2.1 := by decide +kernel
theorem tyX6_ok : ∀ k, k < 10 → parseFieldDescriptor (TX6 k).2.2.1 = some (tyX6 k) := by decide +kernel
abbrev cX6_init : ByteArray := prog_8_method_1_code
def yX6_init : MethodName := ⟨RX6, "<init>", "()V"⟩
abbrev cX6_begin : ByteArray := prog_8_method_2_code
def yX6_begin : MethodName := ⟨RX6, "begin", "(I)V"⟩
abbrev cX6_has : ByteArray := prog_8_method_3_code
def yX6_has : MethodName := ⟨RX6, "has", "(I)Z"⟩
abbrev cX6_changeEnd : ByteArray := prog_8_method_4_code
def yX6_changeEnd : MethodName := ⟨RX6, "changeEnd", "(IIIII)I"⟩
abbrev cX6_swapTargets : ByteArray := prog_8_method_5_code
def yX6_swapTargets : MethodName := ⟨RX6, "swapTargets", "(I)V"⟩
abbrev cX6_forgetProfile : ByteArray := prog_8_method_6_code
def yX6_forgetProfile : MethodName := ⟨RX6, "forgetProfile", "()V"⟩
abbrev cX6_sumOfCounts : ByteArray := prog_8_method_7_code
def yX6_sumOfCounts : MethodName := ⟨RX6, "sumOfCounts", "()I"⟩
abbrev cX6_weightTo : ByteArray := prog_8_method_8_code
def yX6_weightTo : MethodName := ⟨RX6, "weightTo", "(II)I"⟩
abbrev cX6_costOf : ByteArray := prog_8_method_9_code
def yX6_costOf : MethodName := ⟨RX6, "costOf", "(II)I"⟩
abbrev cX6_edgeCycles : ByteArray := prog_8_method_10_code
def yX6_edgeCycles : MethodName := ⟨RX6, "edgeCycles", "(III)I"⟩
abbrev cX6_isHead : ByteArray := prog_8_method_11_code
def yX6_isHead : MethodName := ⟨RX6, "isHead", "(I)Z"⟩
abbrev cX6_findHeads : ByteArray := prog_8_method_12_code
def yX6_findHeads : MethodName := ⟨RX6, "findHeads", "()V"⟩
abbrev cX6_reachedWithin : ByteArray := prog_8_method_13_code
def yX6_reachedWithin : MethodName := ⟨RX6, "reachedWithin", "(I)I"⟩
abbrev cX6_anyGoesTo : ByteArray := prog_8_method_14_code
def yX6_anyGoesTo : MethodName := ⟨RX6, "anyGoesTo", "(II)Z"⟩
abbrev cX6_targetsOf : ByteArray := prog_8_method_15_code
def yX6_targetsOf : MethodName := ⟨RX6, "targetsOf", "(I)I"⟩
abbrev cX6_holds : ByteArray := prog_8_method_16_code
def yX6_holds : MethodName := ⟨RX6, "holds", "(II)Z"⟩
def RX7 : String := "BlockLayout"
def TX7 : u_T := fun k => match k with
  | 0 => ("BlockLayout", "program", "LBlockLayout$Program;", true)
  | 1 => ("BlockLayout", "plan", "LBlockLayout$Plan;", true)
  | 2 => ("BlockLayout", "placement", "LBlockLayout$Placement;", true)
  | 3 => ("BlockLayout", "arranger", "LBlockLayout$Arranger;", true)
  | 4 => ("BlockLayout", "machine", "LBlockLayout$Machine;", true)
  | 5 => ("BlockLayout", "history", "LBlockLayout$History;", true)
  | 6 => ("BlockLayout", "input", "LBlockLayout$Input;", true)
  | _ => ("BlockLayout", "loopLimit", "I", false)
def tyX7 : Nat → FieldType := fun k => match k with
  | 0 => .object "BlockLayout$Program"
  | 1 => .object "BlockLayout$Plan"
  | 2 => .object "BlockLayout$Placement"
  | 3 => .object "BlockLayout$Arranger"
  | 4 => .object "BlockLayout$Machine"
  | 5 => .object "BlockLayout$History"
  | 6 => .object "BlockLayout$Input"
  | _ => .int
abbrev wsX70 : List Cond := u_ws RX7 TX7 8
theorem nmX7 : ∀ a, a < 8 → ∀ b, b < 8 → a ≠ b → (TX7 a).2.1 ≠ (TX7 b).2.1 := by decide +kernel
theorem tyX7_ok : ∀ k, k < 8 → parseFieldDescriptor (TX7 k).2.2.1 = some (tyX7 k) := by decide +kernel
abbrev cX7_init : ByteArray := prog_1_method_1_code
def yX7_init : MethodName := ⟨RX7, "<init>", "()V"⟩
abbrev cX7_clear : ByteArray := prog_1_method_2_code
def yX7_clear : MethodName := ⟨RX7, "clear", "(I)I"⟩
abbrev cX7_setSize : ByteArray := prog_1_method_3_code
def yX7_setSize : MethodName := ⟨RX7, "setSize", "(II)I"⟩
abbrev cX7_setGo : ByteArray := prog_1_method_4_code
def yX7_setGo : MethodName := ⟨RX7, "setGo", "(II)I"⟩
abbrev cX7_setIf : ByteArray := prog_1_method_5_code
def yX7_setIf : MethodName := ⟨RX7, "setIf", "(IIII)I"⟩
abbrev cX7_setStop : ByteArray := prog_1_method_6_code
def yX7_setStop : MethodName := ⟨RX7, "setStop", "(I)I"⟩
abbrev cX7_invert : ByteArray := prog_1_method_7_code
def yX7_invert : MethodName := ⟨RX7, "invert", "(I)I"⟩
abbrev cX7_block : ByteArray := prog_1_method_8_code
def yX7_block : MethodName := ⟨RX7, "block", "(II)I"⟩
abbrev cX7_run : ByteArray := prog_1_method_9_code
def yX7_run : MethodName := ⟨RX7, "run", "(I)I"⟩
abbrev cX7_runLayout : ByteArray := prog_1_method_10_code
def yX7_runLayout : MethodName := ⟨RX7, "runLayout", "(I)I"⟩
abbrev cX7_pathLength : ByteArray := prog_1_method_11_code
def yX7_pathLength : MethodName := ⟨RX7, "pathLength", "()I"⟩
abbrev cX7_pathBlock : ByteArray := prog_1_method_12_code
def yX7_pathBlock : MethodName := ⟨RX7, "pathBlock", "(I)I"⟩
abbrev cX7_clearProfile : ByteArray := prog_1_method_13_code
def yX7_clearProfile : MethodName := ⟨RX7, "clearProfile", "()I"⟩
abbrev cX7_setAlignment : ByteArray := prog_1_method_14_code
def yX7_setAlignment : MethodName := ⟨RX7, "setAlignment", "(I)I"⟩
abbrev cX7_setLoopLimit : ByteArray := prog_1_method_15_code
def yX7_setLoopLimit : MethodName := ⟨RX7, "setLoopLimit", "(I)I"⟩
abbrev cX7_arrange : ByteArray := prog_1_method_16_code
def yX7_arrange : MethodName := ⟨RX7, "arrange", "(II)I"⟩
abbrev cX7_exchange : ByteArray := prog_1_method_17_code
def yX7_exchange : MethodName := ⟨RX7, "exchange", "(II)I"⟩
abbrev cX7_setHot : ByteArray := prog_1_method_18_code
def yX7_setHot : MethodName := ⟨RX7, "setHot", "(I)I"⟩
abbrev cX7_order : ByteArray := prog_1_method_19_code
def yX7_order : MethodName := ⟨RX7, "order", "(I)I"⟩
abbrev cX7_place : ByteArray := prog_1_method_20_code
def yX7_place : MethodName := ⟨RX7, "place", "(II)I"⟩
abbrev cX7_end : ByteArray := prog_1_method_21_code
def yX7_end : MethodName := ⟨RX7, "end", "(II)I"⟩
abbrev cX7_layout : ByteArray := prog_1_method_22_code
def yX7_layout : MethodName := ⟨RX7, "layout", "(I)I"⟩
abbrev cX7_cycles : ByteArray := prog_1_method_23_code
def yX7_cycles : MethodName := ⟨RX7, "cycles", "()I"⟩
abbrev cX7_meanCycles : ByteArray := prog_1_method_24_code
def yX7_meanCycles : MethodName := ⟨RX7, "meanCycles", "()D"⟩
abbrev cX7_bestAlignment : ByteArray := prog_1_method_25_code
def yX7_bestAlignment : MethodName := ⟨RX7, "bestAlignment", "()I"⟩
abbrev cX7_feed : ByteArray := prog_1_method_26_code
def yX7_feed : MethodName := ⟨RX7, "feed", "(C)I"⟩
abbrev cX7_read : ByteArray := prog_1_method_27_code
def yX7_read : MethodName := ⟨RX7, "read", "(I)I"⟩
abbrev cX7_undo : ByteArray := prog_1_method_28_code
def yX7_undo : MethodName := ⟨RX7, "undo", "()I"⟩
abbrev cX7_checkBlock : ByteArray := prog_1_method_29_code
def yX7_checkBlock : MethodName := ⟨RX7, "checkBlock", "(I)V"⟩
abbrev cX7_checkPosition : ByteArray := prog_1_method_30_code
def yX7_checkPosition : MethodName := ⟨RX7, "checkPosition", "(I)V"⟩
abbrev cX7_checkWhat : ByteArray := prog_1_method_31_code
def yX7_checkWhat : MethodName := ⟨RX7, "checkWhat", "(II)V"⟩
abbrev cX7_executeWithin : ByteArray := prog_1_method_32_code
def yX7_executeWithin : MethodName := ⟨RX7, "executeWithin", "(I)V"⟩
abbrev cX7_cyclesAligned : ByteArray := prog_1_method_33_code
def yX7_cyclesAligned : MethodName := ⟨RX7, "cyclesAligned", "(I)I"⟩
abbrev cX7_areTargetsFit : ByteArray := prog_1_method_34_code
def yX7_areTargetsFit : MethodName := ⟨RX7, "areTargetsFit", "()Z"⟩
def RX8 : String := "BlockLayoutModel"
def TX8 : u_T := fun k => match k with
  | 0 => ("BlockLayoutModel", "blocks", "I", false)
  | 1 => ("BlockLayoutModel", "alignment", "I", false)
  | 2 => ("BlockLayoutModel", "loopLimit", "I", false)
  | 3 => ("BlockLayoutModel", "hot", "I", false)
  | 4 => ("BlockLayoutModel", "size", "[I", true)
  | 5 => ("BlockLayoutModel", "kind", "[I", true)
  | 6 => ("BlockLayoutModel", "first", "[I", true)
  | 7 => ("BlockLayoutModel", "second", "[I", true)
  | 8 => ("BlockLayoutModel", "pattern", "[I", true)
  | 9 => ("BlockLayoutModel", "count", "[I", true)
  | 10 => ("BlockLayoutModel", "weight", "[I", true)
  | 11 => ("BlockLayoutModel", "other", "[I", true)
  | 12 => ("BlockLayoutModel", "order", "[I", true)
  | 13 => ("BlockLayoutModel", "thrown", "I", false)
  | 14 => ("BlockLayoutModel", "path", "[I", true)
  | 15 => ("BlockLayoutModel", "going", "[I", true)
  | 16 => ("BlockLayoutModel", "times", "[I", true)
  | 17 => ("BlockLayoutModel", "length", "I", false)
  | 18 => ("BlockLayoutModel", "steps", "I", false)
  | 19 => ("BlockLayoutModel", "isFirst", "[Z", true)
  | 20 => ("BlockLayoutModel", "address", "[I", true)
  | 21 => ("BlockLayoutModel", "padding", "[I", true)
  | 22 => ("BlockLayoutModel", "shape", "[I", true)
  | 23 => ("BlockLayoutModel", "longBranch", "[Z", true)
  | 24 => ("BlockLayoutModel", "longJump", "[Z", true)
  | 25 => ("BlockLayoutModel", "hotEnd", "I", false)
  | 26 => ("BlockLayoutModel", "allEnd", "I", false)
  | 27 => ("BlockLayoutModel", "undoes", "I", false)
  | 28 => ("BlockLayoutModel", "keptOrder", "[I", true)
  | 29 => ("BlockLayoutModel", "keptHot", "[I", true)
  | 30 => ("BlockLayoutModel", "keptAlignment", "[I", true)
  | 31 => ("BlockLayoutModel", "behind", "[I", true)
  | 32 => ("BlockLayoutModel", "ahead", "[I", true)
  | 33 => ("BlockLayoutModel", "hots", "I", false)
  | 34 => ("BlockLayoutModel", "hotSet", "I", false)
  | 35 => ("BlockLayoutModel", "tried", "[I", true)
  | 36 => ("BlockLayoutModel", "found", "[I", true)
  | 37 => ("BlockLayoutModel", "least", "I", false)
  | 38 => ("BlockLayoutModel", "input", "[I", true)
  | 39 => ("BlockLayoutModel", "fed", "I", false)
  | 40 => ("BlockLayoutModel", "at", "I", false)
  | 41 => ("BlockLayoutModel", "number", "I", false)
  | 42 => ("BlockLayoutModel", "newSize", "I", false)
  | 43 => ("BlockLayoutModel", "newKind", "I", false)
  | 44 => ("BlockLayoutModel", "newFirst", "I", false)
  | 45 => ("BlockLayoutModel", "newSecond", "I", false)
  | _ => ("BlockLayoutModel", "newPattern", "I", false)
def tyX8 : Nat → FieldType := fun k => match k with
  | 0 => .int
  | 1 => .int
  | 2 => .int
  | 3 => .int
  | 4 => .array .int
  | 5 => .array .int
  | 6 => .array .int
  | 7 => .array .int
  | 8 => .array .int
  | 9 => .array .int
  | 10 => .array .int
  | 11 => .array .int
  | 12 => .array .int
  | 13 => .int
  | 14 => .array .int
  | 15 => .array .int
  | 16 => .array .int
  | 17 => .int
  | 18 => .int
  | 19 => .array .boolean
  | 20 => .array .int
  | 21 => .array .int
  | 22 => .array .int
  | 23 => .array .boolean
  | 24 => .array .boolean
  | 25 => .int
  | 26 => .int
  | 27 => .int
  | 28 => .array .int
  | 29 => .array .int
  | 30 => .array .int
  | 31 => .array .int
  | 32 => .array .int
  | 33 => .int
  | 34 => .int
  | 35 => .array .int
  | 36 => .array .int
  | 37 => .int
  | 38 => .array .int
  | 39 => .int
  | 40 => .int
  | 41 => .int
  | 42 => .int
  | 43 => .int
  | 44 => .int
  | 45 => .int
  | _ => .int
abbrev wsX80 : List Cond := u_ws RX8 TX8 47
theorem nmX8 : ∀ a, a < 47 → ∀ b, b < 47 → a ≠ b → (TX8 a).2.1 ≠ (TX8 b).2.1 := by decide +kernel
theorem tyX8_ok : ∀ k, k < 47 → parseFieldDescriptor (TX8 k).2.2.1 = some (tyX8 k) := by decide +kernel
abbrev cX8_init : ByteArray := prog_10_method_1_code
def yX8_init : MethodName := ⟨RX8, "<init>", "()V"⟩
abbrev cX8_thrown : ByteArray := prog_10_method_2_code
def yX8_thrown : MethodName := ⟨RX8, "thrown", "()I"⟩
abbrev cX8_isIn : ByteArray := prog_10_method_3_code
def yX8_isIn : MethodName := ⟨RX8, "isIn", "(III)Z"⟩
abbrev cX8_isBlock : ByteArray := prog_10_method_4_code
def yX8_isBlock : MethodName := ⟨RX8, "isBlock", "(I)Z"⟩
abbrev cX8_begins : ByteArray := prog_10_method_5_code
def yX8_begins : MethodName := ⟨RX8, "begins", "(I)V"⟩
abbrev cX8_ascends : ByteArray := prog_10_method_6_code
def yX8_ascends : MethodName := ⟨RX8, "ascends", "()V"⟩
abbrev cX8_clear : ByteArray := prog_10_method_7_code
def yX8_clear : MethodName := ⟨RX8, "clear", "(I)I"⟩
abbrev cX8_setSize : ByteArray := prog_10_method_8_code
def yX8_setSize : MethodName := ⟨RX8, "setSize", "(II)I"⟩
abbrev cX8_ends : ByteArray := prog_10_method_9_code
def yX8_ends : MethodName := ⟨RX8, "ends", "(IIIII)I"⟩
abbrev cX8_setGo : ByteArray := prog_10_method_10_code
def yX8_setGo : MethodName := ⟨RX8, "setGo", "(II)I"⟩
abbrev cX8_setIf : ByteArray := prog_10_method_11_code
def yX8_setIf : MethodName := ⟨RX8, "setIf", "(IIII)I"⟩
abbrev cX8_setStop : ByteArray := prog_10_method_12_code
def yX8_setStop : MethodName := ⟨RX8, "setStop", "(I)I"⟩
abbrev cX8_invert : ByteArray := prog_10_method_13_code
def yX8_invert : MethodName := ⟨RX8, "invert", "(I)I"⟩
abbrev cX8_block : ByteArray := prog_10_method_14_code
def yX8_block : MethodName := ⟨RX8, "block", "(II)I"⟩
abbrev cX8_reached : ByteArray := prog_10_method_15_code
def yX8_reached : MethodName := ⟨RX8, "reached", "(I)I"⟩
abbrev cX8_doesGo : ByteArray := prog_10_method_16_code
def yX8_doesGo : MethodName := ⟨RX8, "doesGo", "(II)Z"⟩
abbrev cX8_isHead : ByteArray := prog_10_method_17_code
def yX8_isHead : MethodName := ⟨RX8, "isHead", "(I)Z"⟩
abbrev cX8_executes : ByteArray := prog_10_method_18_code
def yX8_executes : MethodName := ⟨RX8, "executes", "(I)Z"⟩
abbrev cX8_mayRun : ByteArray := prog_10_method_19_code
def yX8_mayRun : MethodName := ⟨RX8, "mayRun", "(I)Z"⟩
abbrev cX8_run : ByteArray := prog_10_method_20_code
def yX8_run : MethodName := ⟨RX8, "run", "(I)I"⟩
abbrev cX8_runLayout : ByteArray := prog_10_method_21_code
def yX8_runLayout : MethodName := ⟨RX8, "runLayout", "(I)I"⟩
abbrev cX8_pathLength : ByteArray := prog_10_method_22_code
def yX8_pathLength : MethodName := ⟨RX8, "pathLength", "()I"⟩
abbrev cX8_pathBlock : ByteArray := prog_10_method_23_code
def yX8_pathBlock : MethodName := ⟨RX8, "pathBlock", "(I)I"⟩
abbrev cX8_counts : ByteArray := prog_10_method_24_code
def yX8_counts : MethodName := ⟨RX8, "counts", "()I"⟩
abbrev cX8_clearProfile : ByteArray := prog_10_method_25_code
def yX8_clearProfile : MethodName := ⟨RX8, "clearProfile", "()I"⟩
abbrev cX8_position : ByteArray := prog_10_method_26_code
def yX8_position : MethodName := ⟨RX8, "position", "(I)I"⟩
abbrev cX8_next : ByteArray := prog_10_method_27_code
def yX8_next : MethodName := ⟨RX8, "next", "(I)I"⟩
abbrev cX8_form : ByteArray := prog_10_method_28_code
def yX8_form : MethodName := ⟨RX8, "form", "(II)I"⟩
abbrev cX8_branchBytes : ByteArray := prog_10_method_29_code
def yX8_branchBytes : MethodName := ⟨RX8, "branchBytes", "(I)I"⟩
abbrev cX8_jumpBytes : ByteArray := prog_10_method_30_code
def yX8_jumpBytes : MethodName := ⟨RX8, "jumpBytes", "(I)I"⟩
abbrev cX8_bytes : ByteArray := prog_10_method_31_code
def yX8_bytes : MethodName := ⟨RX8, "bytes", "(I)I"⟩
abbrev cX8_lifted : ByteArray := prog_10_method_32_code
def yX8_lifted : MethodName := ⟨RX8, "lifted", "(II)I"⟩
abbrev cX8_places : ByteArray := prog_10_method_33_code
def yX8_places : MethodName := ⟨RX8, "places", "(I)V"⟩
abbrev cX8_isFar : ByteArray := prog_10_method_34_code
def yX8_isFar : MethodName := ⟨RX8, "isFar", "(II)Z"⟩
abbrev cX8_widens : ByteArray := prog_10_method_35_code
def yX8_widens : MethodName := ⟨RX8, "widens", "()Z"⟩
abbrev cX8_lays : ByteArray := prog_10_method_36_code
def yX8_lays : MethodName := ⟨RX8, "lays", "()V"⟩
abbrev cX8_cost : ByteArray := prog_10_method_37_code
def yX8_cost : MethodName := ⟨RX8, "cost", "(II)I"⟩
abbrev cX8_costs : ByteArray := prog_10_method_38_code
def yX8_costs : MethodName := ⟨RX8, "costs", "(I)I"⟩
abbrev cX8_keeps : ByteArray := prog_10_method_39_code
def yX8_keeps : MethodName := ⟨RX8, "keeps", "()V"⟩
abbrev cX8_undo : ByteArray := prog_10_method_40_code
def yX8_undo : MethodName := ⟨RX8, "undo", "()I"⟩
abbrev cX8_isAlignment : ByteArray := prog_10_method_41_code
def yX8_isAlignment : MethodName := ⟨RX8, "isAlignment", "(I)Z"⟩
abbrev cX8_setAlignment : ByteArray := prog_10_method_42_code
def yX8_setAlignment : MethodName := ⟨RX8, "setAlignment", "(I)I"⟩
abbrev cX8_setLoopLimit : ByteArray := prog_10_method_43_code
def yX8_setLoopLimit : MethodName := ⟨RX8, "setLoopLimit", "(I)I"⟩
abbrev cX8_exchange : ByteArray := prog_10_method_44_code
def yX8_exchange : MethodName := ⟨RX8, "exchange", "(II)I"⟩
abbrev cX8_setHot : ByteArray := prog_10_method_45_code
def yX8_setHot : MethodName := ⟨RX8, "setHot", "(I)I"⟩
abbrev cX8_isHot : ByteArray := prog_10_method_46_code
def yX8_isHot : MethodName := ⟨RX8, "isHot", "(I)Z"⟩
abbrev cX8_firstOf : ByteArray := prog_10_method_47_code
def yX8_firstOf : MethodName := ⟨RX8, "firstOf", "(I)I"⟩
abbrev cX8_canJoin : ByteArray := prog_10_method_48_code
def yX8_canJoin : MethodName := ⟨RX8, "canJoin", "(II)Z"⟩
abbrev cX8_joins : ByteArray := prog_10_method_49_code
def yX8_joins : MethodName := ⟨RX8, "joins", "(II)V"⟩
abbrev cX8_weightOf : ByteArray := prog_10_method_50_code
def yX8_weightOf : MethodName := ⟨RX8, "weightOf", "(I)I"⟩
abbrev cX8_targetOf : ByteArray := prog_10_method_51_code
def yX8_targetOf : MethodName := ⟨RX8, "targetOf", "(I)I"⟩
abbrev cX8_nextEdge : ByteArray := prog_10_method_52_code
def yX8_nextEdge : MethodName := ⟨RX8, "nextEdge", "(I)I"⟩
abbrev cX8_joinsByWeights : ByteArray := prog_10_method_53_code
def yX8_joinsByWeights : MethodName := ⟨RX8, "joinsByWeights", "()V"⟩
abbrev cX8_joinsByGains : ByteArray := prog_10_method_54_code
def yX8_joinsByGains : MethodName := ⟨RX8, "joinsByGains", "()V"⟩
abbrev cX8_pull : ByteArray := prog_10_method_55_code
def yX8_pull : MethodName := ⟨RX8, "pull", "(II)I"⟩
abbrev cX8_append : ByteArray := prog_10_method_56_code
def yX8_append : MethodName := ⟨RX8, "append", "(II)I"⟩
abbrev cX8_placesChains : ByteArray := prog_10_method_57_code
def yX8_placesChains : MethodName := ⟨RX8, "placesChains", "()V"⟩
abbrev cX8_triedCost : ByteArray := prog_10_method_58_code
def yX8_triedCost : MethodName := ⟨RX8, "triedCost", "()I"⟩
abbrev cX8_goesOn : ByteArray := prog_10_method_59_code
def yX8_goesOn : MethodName := ⟨RX8, "goesOn", "()Z"⟩
abbrev cX8_swap : ByteArray := prog_10_method_60_code
def yX8_swap : MethodName := ⟨RX8, "swap", "(II)V"⟩
abbrev cX8_triesAll : ByteArray := prog_10_method_61_code
def yX8_triesAll : MethodName := ⟨RX8, "triesAll", "()V"⟩
abbrev cX8_findsHot : ByteArray := prog_10_method_62_code
def yX8_findsHot : MethodName := ⟨RX8, "findsHot", "(I)V"⟩
abbrev cX8_arrange : ByteArray := prog_10_method_63_code
def yX8_arrange : MethodName := ⟨RX8, "arrange", "(II)I"⟩
abbrev cX8_order : ByteArray := prog_10_method_64_code
def yX8_order : MethodName := ⟨RX8, "order", "(I)I"⟩
abbrev cX8_place : ByteArray := prog_10_method_65_code
def yX8_place : MethodName := ⟨RX8, "place", "(II)I"⟩
abbrev cX8_end : ByteArray := prog_10_method_66_code
def yX8_end : MethodName := ⟨RX8, "end", "(II)I"⟩
abbrev cX8_sumOfPadding : ByteArray := prog_10_method_67_code
def yX8_sumOfPadding : MethodName := ⟨RX8, "sumOfPadding", "()I"⟩
abbrev cX8_longOnes : ByteArray := prog_10_method_68_code
def yX8_longOnes : MethodName := ⟨RX8, "longOnes", "()I"⟩
abbrev cX8_invertedOnes : ByteArray := prog_10_method_69_code
def yX8_invertedOnes : MethodName := ⟨RX8, "invertedOnes", "()I"⟩
abbrev cX8_layout : ByteArray := prog_10_method_70_code
def yX8_layout : MethodName := ⟨RX8, "layout", "(I)I"⟩
abbrev cX8_through : ByteArray := prog_10_method_71_code
def yX8_through : MethodName := ⟨RX8, "through", "(II)I"⟩
abbrev cX8_cyclesNow : ByteArray := prog_10_method_72_code
def yX8_cyclesNow : MethodName := ⟨RX8, "cyclesNow", "()I"⟩
abbrev cX8_cycles : ByteArray := prog_10_method_73_code
def yX8_cycles : MethodName := ⟨RX8, "cycles", "()I"⟩
abbrev cX8_meanCycles : ByteArray := prog_10_method_74_code
def yX8_meanCycles : MethodName := ⟨RX8, "meanCycles", "()D"⟩
abbrev cX8_bestAlignment : ByteArray := prog_10_method_75_code
def yX8_bestAlignment : MethodName := ⟨RX8, "bestAlignment", "()I"⟩
abbrev cX8_feed : ByteArray := prog_10_method_76_code
def yX8_feed : MethodName := ⟨RX8, "feed", "(C)I"⟩
abbrev cX8_here : ByteArray := prog_10_method_77_code
def yX8_here : MethodName := ⟨RX8, "here", "()I"⟩
abbrev cX8_takes : ByteArray := prog_10_method_78_code
def yX8_takes : MethodName := ⟨RX8, "takes", "(Ljava/lang/String;)Z"⟩
abbrev cX8_takesNumber : ByteArray := prog_10_method_79_code
def yX8_takesNumber : MethodName := ⟨RX8, "takesNumber", "(I)Z"⟩
abbrev cX8_readsIf : ByteArray := prog_10_method_80_code
def yX8_readsIf : MethodName := ⟨RX8, "readsIf", "()Z"⟩
abbrev cX8_readsEnd : ByteArray := prog_10_method_81_code
def yX8_readsEnd : MethodName := ⟨RX8, "readsEnd", "()Z"⟩
abbrev cX8_reads : ByteArray := prog_10_method_82_code
def yX8_reads : MethodName := ⟨RX8, "reads", "()Z"⟩
abbrev cX8_mayBe : ByteArray := prog_10_method_83_code
def yX8_mayBe : MethodName := ⟨RX8, "mayBe", "()Z"⟩
abbrev cX8_read : ByteArray := prog_10_method_84_code
def yX8_read : MethodName := ⟨RX8, "read", "(I)I"⟩
def RJx145de : String := "java/io/Serializable"
def TJx145de : u_T := fun k => match k with
  | _ => ("", "", "", false)
def tyJx145de : Nat → FieldType := fun k => match k with
  | _ => .int
abbrev wsJx145de0 : List Cond := u_ws RJx145de TJx145de 0
theorem nmJx145de : ∀ a, a < 0 → ∀ b, b < 0 → a ≠ b → (TJx145de a).2.1 ≠ (TJx145de b).2.1 := by decide +kernel
theorem tyJx145de_ok : ∀ k, k < 0 → parseFieldDescriptor (TJx145de k).2.2.1 = some (tyJx145de k) := by decide +kernel
def RJx00060 : String := "java/lang/ArrayIndexOutOfBoundsException"
def TJx00060 : u_T := fun k => match k with
  | 0 => ("java/lang/Throwable", "backtrace", "Ljava/lang/Object;", false)
  | 1 => ("java/lang/Throwable", "detailMessage", "Ljava/lang/String;", false)
  | 2 => ("java/lang/Throwable", "cause", "Ljava/lang/Throwable;", false)
  | 3 => ("java/lang/Throwable", "stackTrace", "[Ljava/lang/StackTraceElement;", false)
  | 4 => ("java/lang/Throwable", "depth", "I", false)
  | _ => ("java/lang/Throwable", "suppressedExceptions", "Ljava/util/List;", false)
def tyJx00060 : Nat → FieldType := fun k => match k with
  | 0 => .object "java/lang/Object"
  | 1 => .object "java/lang/String"
  | 2 => .object "java/lang/Throwable"
  | 3 => .array (.object "java/lang/StackTraceElement")
  | 4 => .int
  | _ => .object "java/util/List"
abbrev wsJx000600 : List Cond := u_ws RJx00060 TJx00060 6
theorem nmJx00060 : ∀ a, a < 6 → ∀ b, b < 6 → a ≠ b → (TJx00060 a).2.1 ≠ (TJx00060 b).2.1 := by decide +kernel
theorem tyJx00060_ok : ∀ k, k < 6 → parseFieldDescriptor (TJx00060 k).2.2.1 = some (tyJx00060 k) := by decide +kernel
abbrev cJx00060_init_a7421 : ByteArray := prog_13_method_2_code
def yJx00060_init_a7421 : MethodName := ⟨RJx00060, "<init>", "(Ljava/lang/String;)V"⟩
def RJx9f9b0 : String := "java/lang/CharSequence"
def TJx9f9b0 : u_T := fun k => match k with
  | _ => ("", "", "", false)
def tyJx9f9b0 : Nat → FieldType := fun k => match k with
  | _ => .int
abbrev wsJx9f9b00 : List Cond := u_ws RJx9f9b0 TJx9f9b0 0
theorem nmJx9f9b0 : ∀ a, a < 0 → ∀ b, b < 0 → a ≠ b → (TJx9f9b0 a).2.1 ≠ (TJx9f9b0 b).2.1 := by decide +kernel
theorem tyJx9f9b0_ok : ∀ k, k < 0 → parseFieldDescriptor (TJx9f9b0 k).2.2.1 = some (tyJx9f9b0 k) := by decide +kernel
def RJxb160c : String := "java/lang/Comparable"
def TJxb160c : u_T := fun k => match k with
  | _ => ("", "", "", false)
def tyJxb160c : Nat → FieldType := fun k => match k with
  | _ => .int
abbrev wsJxb160c0 : List Cond := u_ws RJxb160c TJxb160c 0
theorem nmJxb160c : ∀ a, a < 0 → ∀ b, b < 0 → a ≠ b → (TJxb160c a).2.1 ≠ (TJxb160c b).2.1 := by decide +kernel
theorem tyJxb160c_ok : ∀ k, k < 0 → parseFieldDescriptor (TJxb160c k).2.2.1 = some (tyJxb160c k) := by decide +kernel
def RJ9 : String := "java/lang/Math"
def TJ9 : u_T := fun k => match k with
  | _ => ("", "", "", false)
def tyJ9 : Nat → FieldType := fun k => match k with
  | _ => .int
abbrev wsJ90 : List Cond := u_ws RJ9 TJ9 0
theorem nmJ9 : ∀ a, a < 0 → ∀ b, b < 0 → a ≠ b → (TJ9 a).2.1 ≠ (TJ9 b).2.1 := by decide +kernel
theorem tyJ9_ok : ∀ k, k < 0 → parseFieldDescriptor (TJ9 k).2.2.1 = some (tyJ9 k) := by decide +kernel
abbrev cJ9_min_7cf53 : ByteArray := prog_20_method_69_code
def yJ9_min_7cf53 : MethodName := ⟨RJ9, "min", "(II)I"⟩
def RJ0 : String := "java/lang/String"
def TJ0 : u_T := fun k => match k with
  | 0 => ("java/lang/String", "value", "[B", true)
  | _ => ("java/lang/String", "coder", "B", true)
def tyJ0 : Nat → FieldType := fun k => match k with
  | 0 => .array .byte
  | _ => .byte
abbrev wsJ00 : List Cond := u_ws RJ0 TJ0 2
theorem nmJ0 : ∀ a, a < 2 → ∀ b, b < 2 → a ≠ b → (TJ0 a).2.1 ≠ (TJ0 b).2.1 := by decide +kernel
theorem tyJ0_ok : ∀ k, k < 2 → parseFieldDescriptor (TJ0 k).2.2.1 = some (tyJ0 k) := by decide +kernel
abbrev cJ0_length_8abf5 : ByteArray := prog_22_method_54_code
def yJ0_length_8abf5 : MethodName := ⟨RJ0, "length", "()I"⟩
abbrev cJ0_charAt_5068e : ByteArray := prog_22_method_56_code
def yJ0_charAt_5068e : MethodName := ⟨RJ0, "charAt", "(I)C"⟩
abbrev cJ0_coder_7d493 : ByteArray := prog_22_method_152_code
def yJ0_coder_7d493 : MethodName := ⟨RJ0, "coder", "()B"⟩
abbrev cJ0_isLatin1_aae02 : ByteArray := prog_22_method_154_code
def yJ0_isLatin1_aae02 : MethodName := ⟨RJ0, "isLatin1", "()Z"⟩
abbrev cJ0_checkIndex_df160 : ByteArray := prog_22_method_155_code
def yJ0_checkIndex_df160 : MethodName := ⟨RJ0, "checkIndex", "(II)V"⟩
def RJ1 : String := "java/lang/StringLatin1"
def TJ1 : u_T := fun k => match k with
  | _ => ("", "", "", false)
def tyJ1 : Nat → FieldType := fun k => match k with
  | _ => .int
abbrev wsJ10 : List Cond := u_ws RJ1 TJ1 0
theorem nmJ1 : ∀ a, a < 0 → ∀ b, b < 0 → a ≠ b → (TJ1 a).2.1 ≠ (TJ1 b).2.1 := by decide +kernel
theorem tyJ1_ok : ∀ k, k < 0 → parseFieldDescriptor (TJ1 k).2.2.1 = some (tyJ1 k) := by decide +kernel
abbrev cJ1_charAt_3b067 : ByteArray := prog_23_method_2_code
def yJ1_charAt_3b067 : MethodName := ⟨RJ1, "charAt", "([BI)C"⟩
def RJ2 : String := "java/lang/StringUTF16"
def TJ2 : u_T := fun k => match k with
  | _ => ("", "", "", false)
def tyJ2 : Nat → FieldType := fun k => match k with
  | _ => .int
abbrev wsJ20 : List Cond := u_ws RJ2 TJ2 0
theorem nmJ2 : ∀ a, a < 0 → ∀ b, b < 0 → a ≠ b → (TJ2 a).2.1 ≠ (TJ2 b).2.1 := by decide +kernel
theorem tyJ2_ok : ∀ k, k < 0 → parseFieldDescriptor (TJ2 k).2.2.1 = some (tyJ2 k) := by decide +kernel
abbrev cJ2_getChar_3b067 : ByteArray := prog_24_method_5_code
def yJ2_getChar_3b067 : MethodName := ⟨RJ2, "getChar", "([BI)C"⟩
abbrev cJ2_length_9d52b : ByteArray := prog_24_method_6_code
def yJ2_length_9d52b : MethodName := ⟨RJ2, "length", "([B)I"⟩
abbrev cJ2_charAt_3b067 : ByteArray := prog_24_method_83_code
def yJ2_charAt_3b067 : MethodName := ⟨RJ2, "charAt", "([BI)C"⟩
abbrev cJ2_checkIndex_2214a : ByteArray := prog_24_method_91_code
def yJ2_checkIndex_2214a : MethodName := ⟨RJ2, "checkIndex", "(I[B)V"⟩
def RJxfd54e : String := "java/lang/constant/Constable"
def TJxfd54e : u_T := fun k => match k with
  | _ => ("", "", "", false)
def tyJxfd54e : Nat → FieldType := fun k => match k with
  | _ => .int
abbrev wsJxfd54e0 : List Cond := u_ws RJxfd54e TJxfd54e 0
theorem nmJxfd54e : ∀ a, a < 0 → ∀ b, b < 0 → a ≠ b → (TJxfd54e a).2.1 ≠ (TJxfd54e b).2.1 := by decide +kernel
theorem tyJxfd54e_ok : ∀ k, k < 0 → parseFieldDescriptor (TJxfd54e k).2.2.1 = some (tyJxfd54e k) := by decide +kernel
def RJx3cf43 : String := "java/lang/constant/ConstantDesc"
def TJx3cf43 : u_T := fun k => match k with
  | _ => ("", "", "", false)
def tyJx3cf43 : Nat → FieldType := fun k => match k with
  | _ => .int
abbrev wsJx3cf430 : List Cond := u_ws RJx3cf43 TJx3cf43 0
theorem nmJx3cf43 : ∀ a, a < 0 → ∀ b, b < 0 → a ≠ b → (TJx3cf43 a).2.1 ≠ (TJx3cf43 b).2.1 := by decide +kernel
theorem tyJx3cf43_ok : ∀ k, k < 0 → parseFieldDescriptor (TJx3cf43 k).2.2.1 = some (tyJx3cf43 k) := by decide +kernel
def RJ3 : String := "jdk/internal/util/Preconditions"
def TJ3 : u_T := fun k => match k with
  | _ => ("", "", "", false)
def tyJ3 : Nat → FieldType := fun k => match k with
  | _ => .int
abbrev wsJ30 : List Cond := u_ws RJ3 TJ3 0
theorem nmJ3 : ∀ a, a < 0 → ∀ b, b < 0 → a ≠ b → (TJ3 a).2.1 ≠ (TJ3 b).2.1 := by decide +kernel
theorem tyJ3_ok : ∀ k, k < 0 → parseFieldDescriptor (TJ3 k).2.2.1 = some (tyJ3 k) := by decide +kernel
abbrev cJ3_checkIndex_8e157 : ByteArray := prog_30_method_11_code
def yJ3_checkIndex_8e157 : MethodName := ⟨RJ3, "checkIndex", "(IILjava/util/function/BiFunction;)I"⟩
def RL : String := "BlockLayoutLaw"
abbrev cL_clear : ByteArray := method_3_code
def yL_clear : MethodName := ⟨RL, "clear", "(LBlockLayout;I[J)I"⟩
abbrev cL_setSize : ByteArray := method_4_code
def yL_setSize : MethodName := ⟨RL, "setSize", "(LBlockLayout;II[J)I"⟩
abbrev cL_setGo : ByteArray := method_5_code
def yL_setGo : MethodName := ⟨RL, "setGo", "(LBlockLayout;II[J)I"⟩
abbrev cL_setIf : ByteArray := method_6_code
def yL_setIf : MethodName := ⟨RL, "setIf", "(LBlockLayout;IIII[J)I"⟩
abbrev cL_setStop : ByteArray := method_7_code
def yL_setStop : MethodName := ⟨RL, "setStop", "(LBlockLayout;I[J)I"⟩
abbrev cL_invert : ByteArray := method_8_code
def yL_invert : MethodName := ⟨RL, "invert", "(LBlockLayout;I[J)I"⟩
abbrev cL_block : ByteArray := method_9_code
def yL_block : MethodName := ⟨RL, "block", "(LBlockLayout;II[J)I"⟩
abbrev cL_run : ByteArray := method_10_code
def yL_run : MethodName := ⟨RL, "run", "(LBlockLayout;I[J)I"⟩
abbrev cL_runLayout : ByteArray := method_11_code
def yL_runLayout : MethodName := ⟨RL, "runLayout", "(LBlockLayout;I[J)I"⟩
abbrev cL_pathBlock : ByteArray := method_12_code
def yL_pathBlock : MethodName := ⟨RL, "pathBlock", "(LBlockLayout;I[J)I"⟩
abbrev cL_setAlignment : ByteArray := method_13_code
def yL_setAlignment : MethodName := ⟨RL, "setAlignment", "(LBlockLayout;I[J)I"⟩
abbrev cL_setLoopLimit : ByteArray := method_14_code
def yL_setLoopLimit : MethodName := ⟨RL, "setLoopLimit", "(LBlockLayout;I[J)I"⟩
abbrev cL_arrange : ByteArray := method_15_code
def yL_arrange : MethodName := ⟨RL, "arrange", "(LBlockLayout;II[J)I"⟩
abbrev cL_exchange : ByteArray := method_16_code
def yL_exchange : MethodName := ⟨RL, "exchange", "(LBlockLayout;II[J)I"⟩
abbrev cL_setHot : ByteArray := method_17_code
def yL_setHot : MethodName := ⟨RL, "setHot", "(LBlockLayout;I[J)I"⟩
abbrev cL_order : ByteArray := method_18_code
def yL_order : MethodName := ⟨RL, "order", "(LBlockLayout;I[J)I"⟩
abbrev cL_place : ByteArray := method_19_code
def yL_place : MethodName := ⟨RL, "place", "(LBlockLayout;II[J)I"⟩
abbrev cL_end : ByteArray := method_20_code
def yL_end : MethodName := ⟨RL, "end", "(LBlockLayout;II[J)I"⟩
abbrev cL_layout : ByteArray := method_21_code
def yL_layout : MethodName := ⟨RL, "layout", "(LBlockLayout;I[J)I"⟩
abbrev cL_meanCycles : ByteArray := method_22_code
def yL_meanCycles : MethodName := ⟨RL, "meanCycles", "(LBlockLayout;[D)I"⟩
abbrev cL_feed : ByteArray := method_23_code
def yL_feed : MethodName := ⟨RL, "feed", "(LBlockLayout;C[J)I"⟩
abbrev cL_read : ByteArray := method_24_code
def yL_read : MethodName := ⟨RL, "read", "(LBlockLayout;I[J)I"⟩
abbrev cL_undo : ByteArray := method_25_code
def yL_undo : MethodName := ⟨RL, "undo", "(LBlockLayout;[J)I"⟩
abbrev cL_law : ByteArray := code
def yL_law : MethodName := ⟨RL, "law", "([I)Z"⟩
end
section
theorem dX0_init_0 : decode cX0_init 0 = .ok (.aload_n 0, 1) := by decide +kernel
theorem dX0_init_1 : decode cX0_init 1 = .ok (.invokespecial 3, 3) := by decide +kernel
theorem dX0_init_4 : decode cX0_init 4 = .ok (.aload_n 0, 1) := by decide +kernel
theorem dX0_init_5 : decode cX0_init 5 = .ok (.bipush 16, 2) := by decide +kernel
theorem dX0_init_7 : decode cX0_init 7 = .ok (.newarray .boolean, 2) := by decide +kernel
theorem dX0_init_9 : decode cX0_init 9 = .ok (.putfield 9, 3) := by decide +kernel
theorem dX0_init_12 : decode cX0_init 12 = .ok (.aload_n 0, 1) := by decide +kernel
theorem dX0_init_13 : decode cX0_init 13 = .ok (.bipush 16, 2) := by decide +kernel
theorem dX0_init_15 : decode cX0_init 15 = .ok (.newarray .int, 2) := by decide +kernel
theorem dX0_init_17 : decode cX0_init 17 = .ok (.putfield 15, 3) := by decide +kernel
theorem dX0_init_20 : decode cX0_init 20 = .ok (.aload_n 0, 1) := by decide +kernel
theorem dX0_init_21 : decode cX0_init 21 = .ok (.bipush 16, 2) := by decide +kernel
theorem dX0_init_23 : decode cX0_init 23 = .ok (.newarray .int, 2) := by decide +kernel
theorem dX0_init_25 : decode cX0_init 25 = .ok (.putfield 19, 3) := by decide +kernel
theorem dX0_init_28 : decode cX0_init 28 = .ok (.aload_n 0, 1) := by decide +kernel
theorem dX0_init_29 : decode cX0_init 29 = .ok (.bipush 16, 2) := by decide +kernel
theorem dX0_init_31 : decode cX0_init 31 = .ok (.newarray .int, 2) := by decide +kernel
theorem dX0_init_33 : decode cX0_init 33 = .ok (.putfield 22, 3) := by decide +kernel
theorem dX0_init_36 : decode cX0_init 36 = .ok (.aload_n 0, 1) := by decide +kernel
theorem dX0_init_37 : decode cX0_init 37 = .ok (.bipush 16, 2) := by decide +kernel
theorem dX0_init_39 : decode cX0_init 39 = .ok (.newarray .boolean, 2) := by decide +kernel
theorem dX0_init_41 : decode cX0_init 41 = .ok (.putfield 25, 3) := by decide +kernel
theorem dX0_init_44 : decode cX0_init 44 = .ok (.aload_n 0, 1) := by decide +kernel
theorem dX0_init_45 : decode cX0_init 45 = .ok (.bipush 7, 2) := by decide +kernel
theorem dX0_init_47 : decode cX0_init 47 = .ok (.newarray .int, 2) := by decide +kernel
theorem dX0_init_49 : decode cX0_init 49 = .ok (.putfield 28, 3) := by decide +kernel
theorem dX0_init_52 : decode cX0_init 52 = .ok (.aload_n 0, 1) := by decide +kernel
theorem dX0_init_53 : decode cX0_init 53 = .ok (.aload_n 1, 1) := by decide +kernel
theorem dX0_init_54 : decode cX0_init 54 = .ok (.putfield 31, 3) := by decide +kernel
theorem dX0_init_57 : decode cX0_init 57 = .ok (.aload_n 0, 1) := by decide +kernel
theorem dX0_init_58 : decode cX0_init 58 = .ok (.aload_n 2, 1) := by decide +kernel
theorem dX0_init_59 : decode cX0_init 59 = .ok (.putfield 35, 3) := by decide +kernel
theorem dX0_init_62 : decode cX0_init 62 = .ok (.return_, 1) := by decide +kernel
theorem dX0_divide_0 : decode cX0_divide 0 = .ok (.aload_n 0, 1) := by decide +kernel
theorem dX0_divide_1 : decode cX0_divide 1 = .ok (.iconst 0, 1) := by decide +kernel
theorem dX0_divide_2 : decode cX0_divide 2 = .ok (.putfield 39, 3) := by decide +kernel
theorem dX0_divide_5 : decode cX0_divide 5 = .ok (.iconst 0, 1) := by decide +kernel
theorem dX0_divide_6 : decode cX0_divide 6 = .ok (.istore_n 2, 1) := by decide +kernel
theorem dX0_divide_7 : decode cX0_divide 7 = .ok (.iload_n 2, 1) := by decide +kernel
theorem dX0_divide_8 : decode cX0_divide 8 = .ok (.aload_n 0, 1) := by decide +kernel
theorem dX0_divide_9 : decode cX0_divide 9 = .ok (.getfield 31, 3) := by decide +kernel
theorem dX0_divide_12 : decode cX0_divide 12 = .ok (.getfield 43, 3) := by decide +kernel
theorem dX0_divide_15 : decode cX0_divide 15 = .ok (.if_icmp .ge 60, 3) := by decide +kernel
theorem dX0_divide_18 : decode cX0_divide 18 = .ok (.aload_n 0, 1) := by decide +kernel
theorem dX0_divide_19 : decode cX0_divide 19 = .ok (.getfield 9, 3) := by decide +kernel
theorem dX0_divide_22 : decode cX0_divide 22 = .ok (.iload_n 2, 1) := by decide +kernel
theorem dX0_divide_23 : decode cX0_divide 23 = .ok (.iload_n 2, 1) := by decide +kernel
theorem dX0_divide_24 : decode cX0_divide 24 = .ok (.ifCond .eq 16, 3) := by decide +kernel
theorem dX0_divide_27 : decode cX0_divide 27 = .ok (.aload_n 0, 1) := by decide +kernel
theorem dX0_divide_28 : decode cX0_divide 28 = .ok (.getfield 31, 3) := by decide +kernel
theorem dX0_divide_31 : decode cX0_divide 31 = .ok (.getfield 48, 3) := by decide +kernel
theorem dX0_divide_34 : decode cX0_divide 34 = .ok (.iload_n 2, 1) := by decide +kernel
theorem dX0_divide_35 : decode cX0_divide 35 = .ok (.iaload, 1) := by decide +kernel
theorem dX0_divide_36 : decode cX0_divide 36 = .ok (.iload_n 1, 1) := by decide +kernel
theorem dX0_divide_37 : decode cX0_divide 37 = .ok (.if_icmp .le 7, 3) := by decide +kernel
theorem dX0_divide_40 : decode cX0_divide 40 = .ok (.iconst 1, 1) := by decide +kernel
theorem dX0_divide_41 : decode cX0_divide 41 = .ok (.goto 4, 3) := by decide +kernel
theorem dX0_divide_44 : decode cX0_divide 44 = .ok (.iconst 0, 1) := by decide +kernel
theorem dX0_divide_45 : decode cX0_divide 45 = .ok (.bastore, 1) := by decide +kernel
theorem dX0_divide_46 : decode cX0_divide 46 = .ok (.aload_n 0, 1) := by decide +kernel
theorem dX0_divide_47 : decode cX0_divide 47 = .ok (.dup, 1) := by decide +kernel
theorem dX0_divide_48 : decode cX0_divide 48 = .ok (.getfield 39, 3) := by decide +kernel
theorem dX0_divide_51 : decode cX0_divide 51 = .ok (.aload_n 0, 1) := by decide +kernel
theorem dX0_divide_52 : decode cX0_divide 52 = .ok (.getfield 9, 3) := by decide +kernel
theorem dX0_divide_55 : decode cX0_divide 55 = .ok (.iload_n 2, 1) := by decide +kernel
theorem dX0_divide_56 : decode cX0_divide 56 = .ok (.baload, 1) := by decide +kernel
theorem dX0_divide_57 : decode cX0_divide 57 = .ok (.ifCond .eq 7, 3) := by decide +kernel
theorem dX0_divide_60 : decode cX0_divide 60 = .ok (.iconst 1, 1) := by decide +kernel
theorem dX0_divide_61 : decode cX0_divide 61 = .ok (.goto 4, 3) := by decide +kernel
theorem dX0_divide_64 : decode cX0_divide 64 = .ok (.iconst 0, 1) := by decide +kernel
theorem dX0_divide_65 : decode cX0_divide 65 = .ok (.iadd, 1) := by decide +kernel
theorem dX0_divide_66 : decode cX0_divide 66 = .ok (.putfield 39, 3) := by decide +kernel
theorem dX0_divide_69 : decode cX0_divide 69 = .ok (.iinc 2 1, 3) := by decide +kernel
theorem dX0_divide_72 : decode cX0_divide 72 = .ok (.goto (-65), 3) := by decide +kernel
theorem dX0_divide_75 : decode cX0_divide 75 = .ok (.return_, 1) := by decide +kernel
theorem dX0_makePlan_0 : decode cX0_makePlan 0 = .ok (.iload_n 1, 1) := by decide +kernel
theorem dX0_makePlan_1 : decode cX0_makePlan 1 = .ok (.iconst 2, 1) := by decide +kernel
theorem dX0_makePlan_2 : decode cX0_makePlan 2 = .ok (.if_icmp .ne 26, 3) := by decide +kernel
theorem dX0_makePlan_5 : decode cX0_makePlan 5 = .ok (.aload_n 0, 1) := by decide +kernel
theorem dX0_makePlan_6 : decode cX0_makePlan 6 = .ok (.ldc 51, 2) := by decide +kernel
theorem dX0_makePlan_8 : decode cX0_makePlan 8 = .ok (.putfield 52, 3) := by decide +kernel
theorem dX0_makePlan_11 : decode cX0_makePlan 11 = .ok (.aload_n 0, 1) := by decide +kernel
theorem dX0_makePlan_12 : decode cX0_makePlan 12 = .ok (.getfield 28, 3) := by decide +kernel
theorem dX0_makePlan_15 : decode cX0_makePlan 15 = .ok (.iconst 0, 1) := by decide +kernel
theorem dX0_makePlan_16 : decode cX0_makePlan 16 = .ok (.iconst 0, 1) := by decide +kernel
theorem dX0_makePlan_17 : decode cX0_makePlan 17 = .ok (.iastore, 1) := by decide +kernel
theorem dX0_makePlan_18 : decode cX0_makePlan 18 = .ok (.aload_n 0, 1) := by decide +kernel
theorem dX0_makePlan_19 : decode cX0_makePlan 19 = .ok (.iconst 1, 1) := by decide +kernel
theorem dX0_makePlan_20 : decode cX0_makePlan 20 = .ok (.iconst 1, 1) := by decide +kernel
theorem dX0_makePlan_21 : decode cX0_makePlan 21 = .ok (.iconst 0, 1) := by decide +kernel
theorem dX0_makePlan_22 : decode cX0_makePlan 22 = .ok (.invokevirtual 55, 3) := by decide +kernel
theorem dX0_makePlan_25 : decode cX0_makePlan 25 = .ok (.goto 20, 3) := by decide +kernel
theorem dX0_makePlan_28 : decode cX0_makePlan 28 = .ok (.aload_n 0, 1) := by decide +kernel
theorem dX0_makePlan_29 : decode cX0_makePlan 29 = .ok (.iload_n 1, 1) := by decide +kernel
theorem dX0_makePlan_30 : decode cX0_makePlan 30 = .ok (.ifCond .ne 7, 3) := by decide +kernel
theorem dX0_makePlan_33 : decode cX0_makePlan 33 = .ok (.iconst 1, 1) := by decide +kernel
theorem dX0_makePlan_34 : decode cX0_makePlan 34 = .ok (.goto 4, 3) := by decide +kernel
theorem dX0_makePlan_37 : decode cX0_makePlan 37 = .ok (.iconst 0, 1) := by decide +kernel
theorem dX0_makePlan_38 : decode cX0_makePlan 38 = .ok (.invokevirtual 59, 3) := by decide +kernel
theorem dX0_makePlan_41 : decode cX0_makePlan 41 = .ok (.aload_n 0, 1) := by decide +kernel
theorem dX0_makePlan_42 : decode cX0_makePlan 42 = .ok (.invokevirtual 63, 3) := by decide +kernel
theorem dX0_makePlan_45 : decode cX0_makePlan 45 = .ok (.aload_n 0, 1) := by decide +kernel
theorem dX0_makePlan_46 : decode cX0_makePlan 46 = .ok (.getfield 35, 3) := by decide +kernel
theorem dX0_makePlan_49 : decode cX0_makePlan 49 = .ok (.aload_n 0, 1) := by decide +kernel
theorem dX0_makePlan_50 : decode cX0_makePlan 50 = .ok (.getfield 39, 3) := by decide +kernel
theorem dX0_makePlan_53 : decode cX0_makePlan 53 = .ok (.putfield 66, 3) := by decide +kernel
theorem dX0_makePlan_56 : decode cX0_makePlan 56 = .ok (.aload_n 0, 1) := by decide +kernel
theorem dX0_makePlan_57 : decode cX0_makePlan 57 = .ok (.invokevirtual 71, 3) := by decide +kernel
theorem dX0_makePlan_60 : decode cX0_makePlan 60 = .ok (.return_, 1) := by decide +kernel
theorem dX0_placeCold_0 : decode cX0_placeCold 0 = .ok (.aload_n 0, 1) := by decide +kernel
theorem dX0_placeCold_1 : decode cX0_placeCold 1 = .ok (.getfield 39, 3) := by decide +kernel
theorem dX0_placeCold_4 : decode cX0_placeCold 4 = .ok (.istore_n 1, 1) := by decide +kernel
theorem dX0_placeCold_5 : decode cX0_placeCold 5 = .ok (.iconst 0, 1) := by decide +kernel
theorem dX0_placeCold_6 : decode cX0_placeCold 6 = .ok (.istore_n 2, 1) := by decide +kernel
theorem dX0_placeCold_7 : decode cX0_placeCold 7 = .ok (.iload_n 2, 1) := by decide +kernel
theorem dX0_placeCold_8 : decode cX0_placeCold 8 = .ok (.aload_n 0, 1) := by decide +kernel
theorem dX0_placeCold_9 : decode cX0_placeCold 9 = .ok (.getfield 31, 3) := by decide +kernel
theorem dX0_placeCold_12 : decode cX0_placeCold 12 = .ok (.getfield 43, 3) := by decide +kernel
theorem dX0_placeCold_15 : decode cX0_placeCold 15 = .ok (.if_icmp .ge 37, 3) := by decide +kernel
theorem dX0_placeCold_18 : decode cX0_placeCold 18 = .ok (.aload_n 0, 1) := by decide +kernel
theorem dX0_placeCold_19 : decode cX0_placeCold 19 = .ok (.getfield 9, 3) := by decide +kernel
theorem dX0_placeCold_22 : decode cX0_placeCold 22 = .ok (.iload_n 2, 1) := by decide +kernel
theorem dX0_placeCold_23 : decode cX0_placeCold 23 = .ok (.baload, 1) := by decide +kernel
theorem dX0_placeCold_24 : decode cX0_placeCold 24 = .ok (.ifCond .ne 22, 3) := by decide +kernel
theorem dX0_placeCold_27 : decode cX0_placeCold 27 = .ok (.iload_n 1, 1) := by decide +kernel
theorem dX0_placeCold_28 : decode cX0_placeCold 28 = .ok (.bipush 16, 2) := by decide +kernel
theorem dX0_placeCold_30 : decode cX0_placeCold 30 = .ok (.if_icmp .ge 16, 3) := by decide +kernel
theorem dX0_placeCold_33 : decode cX0_placeCold 33 = .ok (.aload_n 0, 1) := by decide +kernel
theorem dX0_placeCold_34 : decode cX0_placeCold 34 = .ok (.getfield 35, 3) := by decide +kernel
theorem dX0_placeCold_37 : decode cX0_placeCold 37 = .ok (.getfield 74, 3) := by decide +kernel
theorem dX0_placeCold_40 : decode cX0_placeCold 40 = .ok (.iload_n 1, 1) := by decide +kernel
theorem dX0_placeCold_41 : decode cX0_placeCold 41 = .ok (.iload_n 2, 1) := by decide +kernel
theorem dX0_placeCold_42 : decode cX0_placeCold 42 = .ok (.iastore, 1) := by decide +kernel
theorem dX0_placeCold_43 : decode cX0_placeCold 43 = .ok (.iinc 1 1, 3) := by decide +kernel
theorem dX0_placeCold_46 : decode cX0_placeCold 46 = .ok (.iinc 2 1, 3) := by decide +kernel
theorem dX0_placeCold_49 : decode cX0_placeCold 49 = .ok (.goto (-42), 3) := by decide +kernel
theorem dX0_placeCold_52 : decode cX0_placeCold 52 = .ok (.return_, 1) := by decide +kernel
theorem dX0_joinChains_0 : decode cX0_joinChains 0 = .ok (.iconst 0, 1) := by decide +kernel
theorem dX0_joinChains_1 : decode cX0_joinChains 1 = .ok (.istore_n 2, 1) := by decide +kernel
theorem dX0_joinChains_2 : decode cX0_joinChains 2 = .ok (.iload_n 2, 1) := by decide +kernel
theorem dX0_joinChains_3 : decode cX0_joinChains 3 = .ok (.aload_n 0, 1) := by decide +kernel
theorem dX0_joinChains_4 : decode cX0_joinChains 4 = .ok (.getfield 31, 3) := by decide +kernel
theorem dX0_joinChains_7 : decode cX0_joinChains 7 = .ok (.getfield 43, 3) := by decide +kernel
theorem dX0_joinChains_10 : decode cX0_joinChains 10 = .ok (.if_icmp .ge 23, 3) := by decide +kernel
theorem dX0_joinChains_13 : decode cX0_joinChains 13 = .ok (.aload_n 0, 1) := by decide +kernel
theorem dX0_joinChains_14 : decode cX0_joinChains 14 = .ok (.getfield 15, 3) := by decide +kernel
theorem dX0_joinChains_17 : decode cX0_joinChains 17 = .ok (.iload_n 2, 1) := by decide +kernel
theorem dX0_joinChains_18 : decode cX0_joinChains 18 = .ok (.iconst (-1), 1) := by decide +kernel
theorem dX0_joinChains_19 : decode cX0_joinChains 19 = .ok (.iastore, 1) := by decide +kernel
theorem dX0_joinChains_20 : decode cX0_joinChains 20 = .ok (.aload_n 0, 1) := by decide +kernel
theorem dX0_joinChains_21 : decode cX0_joinChains 21 = .ok (.getfield 19, 3) := by decide +kernel
theorem dX0_joinChains_24 : decode cX0_joinChains 24 = .ok (.iload_n 2, 1) := by decide +kernel
theorem dX0_joinChains_25 : decode cX0_joinChains 25 = .ok (.iload_n 2, 1) := by decide +kernel
theorem dX0_joinChains_26 : decode cX0_joinChains 26 = .ok (.iastore, 1) := by decide +kernel
theorem dX0_joinChains_27 : decode cX0_joinChains 27 = .ok (.iinc 2 1, 3) := by decide +kernel
theorem dX0_joinChains_30 : decode cX0_joinChains 30 = .ok (.goto (-28), 3) := by decide +kernel
theorem dX0_joinChains_33 : decode cX0_joinChains 33 = .ok (.iconst 1, 1) := by decide +kernel
theorem dX0_joinChains_34 : decode cX0_joinChains 34 = .ok (.istore_n 2, 1) := by decide +kernel
theorem dX0_joinChains_35 : decode cX0_joinChains 35 = .ok (.iconst 0, 1) := by decide +kernel
theorem dX0_joinChains_36 : decode cX0_joinChains 36 = .ok (.istore_n 3, 1) := by decide +kernel
theorem dX0_joinChains_37 : decode cX0_joinChains 37 = .ok (.iload_n 3, 1) := by decide +kernel
theorem dX0_joinChains_38 : decode cX0_joinChains 38 = .ok (.bipush 16, 2) := by decide +kernel
theorem dX0_joinChains_40 : decode cX0_joinChains 40 = .ok (.if_icmp .ge 19, 3) := by decide +kernel
theorem dX0_joinChains_43 : decode cX0_joinChains 43 = .ok (.iload_n 2, 1) := by decide +kernel
theorem dX0_joinChains_44 : decode cX0_joinChains 44 = .ok (.ifCond .eq 15, 3) := by decide +kernel
theorem dX0_joinChains_47 : decode cX0_joinChains 47 = .ok (.aload_n 0, 1) := by decide +kernel
theorem dX0_joinChains_48 : decode cX0_joinChains 48 = .ok (.iload_n 1, 1) := by decide +kernel
theorem dX0_joinChains_49 : decode cX0_joinChains 49 = .ok (.invokevirtual 77, 3) := by decide +kernel
theorem dX0_joinChains_52 : decode cX0_joinChains 52 = .ok (.istore_n 2, 1) := by decide +kernel
theorem dX0_joinChains_53 : decode cX0_joinChains 53 = .ok (.iinc 3 1, 3) := by decide +kernel
theorem dX0_joinChains_56 : decode cX0_joinChains 56 = .ok (.goto (-19), 3) := by decide +kernel
theorem dX0_joinChains_59 : decode cX0_joinChains 59 = .ok (.return_, 1) := by decide +kernel
theorem dX0_joinBest_0 : decode cX0_joinBest 0 = .ok (.aload_n 0, 1) := by decide +kernel
theorem dX0_joinBest_1 : decode cX0_joinBest 1 = .ok (.iconst 0, 1) := by decide +kernel
theorem dX0_joinBest_2 : decode cX0_joinBest 2 = .ok (.putfield 81, 3) := by decide +kernel
theorem dX0_joinBest_5 : decode cX0_joinBest 5 = .ok (.iconst 0, 1) := by decide +kernel
theorem dX0_joinBest_6 : decode cX0_joinBest 6 = .ok (.istore_n 2, 1) := by decide +kernel
theorem dX0_joinBest_7 : decode cX0_joinBest 7 = .ok (.iload_n 2, 1) := by decide +kernel
theorem dX0_joinBest_8 : decode cX0_joinBest 8 = .ok (.aload_n 0, 1) := by decide +kernel
theorem dX0_joinBest_9 : decode cX0_joinBest 9 = .ok (.getfield 31, 3) := by decide +kernel
theorem dX0_joinBest_12 : decode cX0_joinBest 12 = .ok (.getfield 43, 3) := by decide +kernel
theorem dX0_joinBest_15 : decode cX0_joinBest 15 = .ok (.if_icmp .ge 81, 3) := by decide +kernel
theorem dX0_joinBest_18 : decode cX0_joinBest 18 = .ok (.aload_n 0, 1) := by decide +kernel
theorem dX0_joinBest_19 : decode cX0_joinBest 19 = .ok (.getfield 31, 3) := by decide +kernel
theorem dX0_joinBest_22 : decode cX0_joinBest 22 = .ok (.getfield 84, 3) := by decide +kernel
theorem dX0_joinBest_25 : decode cX0_joinBest 25 = .ok (.iload_n 2, 1) := by decide +kernel
theorem dX0_joinBest_26 : decode cX0_joinBest 26 = .ok (.iaload, 1) := by decide +kernel
theorem dX0_joinBest_27 : decode cX0_joinBest 27 = .ok (.istore_n 3, 1) := by decide +kernel
theorem dX0_joinBest_28 : decode cX0_joinBest 28 = .ok (.aload_n 0, 1) := by decide +kernel
theorem dX0_joinBest_29 : decode cX0_joinBest 29 = .ok (.getfield 31, 3) := by decide +kernel
theorem dX0_joinBest_32 : decode cX0_joinBest 32 = .ok (.getfield 87, 3) := by decide +kernel
theorem dX0_joinBest_35 : decode cX0_joinBest 35 = .ok (.iload_n 2, 1) := by decide +kernel
theorem dX0_joinBest_36 : decode cX0_joinBest 36 = .ok (.iaload, 1) := by decide +kernel
theorem dX0_joinBest_37 : decode cX0_joinBest 37 = .ok (.istore 4, 2) := by decide +kernel
theorem dX0_joinBest_39 : decode cX0_joinBest 39 = .ok (.iload_n 1, 1) := by decide +kernel
theorem dX0_joinBest_40 : decode cX0_joinBest 40 = .ok (.ifCond .ne 9, 3) := by decide +kernel
theorem dX0_joinBest_43 : decode cX0_joinBest 43 = .ok (.iload_n 3, 1) := by decide +kernel
theorem dX0_joinBest_44 : decode cX0_joinBest 44 = .ok (.iload 4, 2) := by decide +kernel
theorem dX0_joinBest_46 : decode cX0_joinBest 46 = .ok (.if_icmp .ge 7, 3) := by decide +kernel
theorem dX0_joinBest_49 : decode cX0_joinBest 49 = .ok (.iconst 1, 1) := by decide +kernel
theorem dX0_joinBest_50 : decode cX0_joinBest 50 = .ok (.goto 4, 3) := by decide +kernel
theorem dX0_joinBest_53 : decode cX0_joinBest 53 = .ok (.iconst 0, 1) := by decide +kernel
theorem dX0_joinBest_54 : decode cX0_joinBest 54 = .ok (.istore 5, 2) := by decide +kernel
theorem dX0_joinBest_56 : decode cX0_joinBest 56 = .ok (.aload_n 0, 1) := by decide +kernel
theorem dX0_joinBest_57 : decode cX0_joinBest 57 = .ok (.iload_n 2, 1) := by decide +kernel
theorem dX0_joinBest_58 : decode cX0_joinBest 58 = .ok (.iload 5, 2) := by decide +kernel
theorem dX0_joinBest_60 : decode cX0_joinBest 60 = .ok (.ifCond .eq 7, 3) := by decide +kernel
theorem dX0_joinBest_63 : decode cX0_joinBest 63 = .ok (.iload_n 3, 1) := by decide +kernel
theorem dX0_joinBest_64 : decode cX0_joinBest 64 = .ok (.goto 5, 3) := by decide +kernel
theorem dX0_joinBest_67 : decode cX0_joinBest 67 = .ok (.iload 4, 2) := by decide +kernel
theorem dX0_joinBest_69 : decode cX0_joinBest 69 = .ok (.iload_n 1, 1) := by decide +kernel
theorem dX0_joinBest_70 : decode cX0_joinBest 70 = .ok (.invokevirtual 90, 3) := by decide +kernel
theorem dX0_joinBest_73 : decode cX0_joinBest 73 = .ok (.aload_n 0, 1) := by decide +kernel
theorem dX0_joinBest_74 : decode cX0_joinBest 74 = .ok (.iload_n 2, 1) := by decide +kernel
theorem dX0_joinBest_75 : decode cX0_joinBest 75 = .ok (.iload 5, 2) := by decide +kernel
theorem dX0_joinBest_77 : decode cX0_joinBest 77 = .ok (.ifCond .eq 8, 3) := by decide +kernel
theorem dX0_joinBest_80 : decode cX0_joinBest 80 = .ok (.iload 4, 2) := by decide +kernel
theorem dX0_joinBest_82 : decode cX0_joinBest 82 = .ok (.goto 4, 3) := by decide +kernel
theorem dX0_joinBest_85 : decode cX0_joinBest 85 = .ok (.iload_n 3, 1) := by decide +kernel
theorem dX0_joinBest_86 : decode cX0_joinBest 86 = .ok (.iload_n 1, 1) := by decide +kernel
theorem dX0_joinBest_87 : decode cX0_joinBest 87 = .ok (.invokevirtual 90, 3) := by decide +kernel
theorem dX0_joinBest_90 : decode cX0_joinBest 90 = .ok (.iinc 2 1, 3) := by decide +kernel
theorem dX0_joinBest_93 : decode cX0_joinBest 93 = .ok (.goto (-86), 3) := by decide +kernel
theorem dX0_joinBest_96 : decode cX0_joinBest 96 = .ok (.aload_n 0, 1) := by decide +kernel
theorem dX0_joinBest_97 : decode cX0_joinBest 97 = .ok (.getfield 81, 3) := by decide +kernel
theorem dX0_joinBest_100 : decode cX0_joinBest 100 = .ok (.ifCond .le 15, 3) := by decide +kernel
theorem dX0_joinBest_103 : decode cX0_joinBest 103 = .ok (.aload_n 0, 1) := by decide +kernel
theorem dX0_joinBest_104 : decode cX0_joinBest 104 = .ok (.aload_n 0, 1) := by decide +kernel
theorem dX0_joinBest_105 : decode cX0_joinBest 105 = .ok (.getfield 94, 3) := by decide +kernel
theorem dX0_joinBest_108 : decode cX0_joinBest 108 = .ok (.aload_n 0, 1) := by decide +kernel
theorem dX0_joinBest_109 : decode cX0_joinBest 109 = .ok (.getfield 97, 3) := by decide +kernel
theorem dX0_joinBest_112 : decode cX0_joinBest 112 = .ok (.invokevirtual 100, 3) := by decide +kernel
theorem dX0_joinBest_115 : decode cX0_joinBest 115 = .ok (.aload_n 0, 1) := by decide +kernel
theorem dX0_joinBest_116 : decode cX0_joinBest 116 = .ok (.getfield 81, 3) := by decide +kernel
theorem dX0_joinBest_119 : decode cX0_joinBest 119 = .ok (.ifCond .le 7, 3) := by decide +kernel
theorem dX0_joinBest_122 : decode cX0_joinBest 122 = .ok (.iconst 1, 1) := by decide +kernel
theorem dX0_joinBest_123 : decode cX0_joinBest 123 = .ok (.goto 4, 3) := by decide +kernel
theorem dX0_joinBest_126 : decode cX0_joinBest 126 = .ok (.iconst 0, 1) := by decide +kernel
theorem dX0_joinBest_127 : decode cX0_joinBest 127 = .ok (.ireturn, 1) := by decide +kernel
theorem dX0_weigh_0 : decode cX0_weigh 0 = .ok (.aload_n 0, 1) := by decide +kernel
theorem dX0_weigh_1 : decode cX0_weigh 1 = .ok (.iload_n 1, 1) := by decide +kernel
theorem dX0_weigh_2 : decode cX0_weigh 2 = .ok (.iload_n 2, 1) := by decide +kernel
theorem dX0_weigh_3 : decode cX0_weigh 3 = .ok (.invokevirtual 104, 3) := by decide +kernel
theorem dX0_weigh_6 : decode cX0_weigh 6 = .ok (.ifCond .ne 4, 3) := by decide +kernel
theorem dX0_weigh_9 : decode cX0_weigh 9 = .ok (.return_, 1) := by decide +kernel
theorem dX0_weigh_10 : decode cX0_weigh 10 = .ok (.iload_n 3, 1) := by decide +kernel
theorem dX0_weigh_11 : decode cX0_weigh 11 = .ok (.ifCond .eq 15, 3) := by decide +kernel
theorem dX0_weigh_14 : decode cX0_weigh 14 = .ok (.aload_n 0, 1) := by decide +kernel
theorem dX0_weigh_15 : decode cX0_weigh 15 = .ok (.getfield 31, 3) := by decide +kernel
theorem dX0_weigh_18 : decode cX0_weigh 18 = .ok (.iload_n 1, 1) := by decide +kernel
theorem dX0_weigh_19 : decode cX0_weigh 19 = .ok (.iload_n 2, 1) := by decide +kernel
theorem dX0_weigh_20 : decode cX0_weigh 20 = .ok (.invokevirtual 108, 3) := by decide +kernel
theorem dX0_weigh_23 : decode cX0_weigh 23 = .ok (.goto 22, 3) := by decide +kernel
theorem dX0_weigh_26 : decode cX0_weigh 26 = .ok (.aload_n 0, 1) := by decide +kernel
theorem dX0_weigh_27 : decode cX0_weigh 27 = .ok (.getfield 31, 3) := by decide +kernel
theorem dX0_weigh_30 : decode cX0_weigh 30 = .ok (.iload_n 1, 1) := by decide +kernel
theorem dX0_weigh_31 : decode cX0_weigh 31 = .ok (.iconst (-1), 1) := by decide +kernel
theorem dX0_weigh_32 : decode cX0_weigh 32 = .ok (.invokevirtual 112, 3) := by decide +kernel
theorem dX0_weigh_35 : decode cX0_weigh 35 = .ok (.aload_n 0, 1) := by decide +kernel
theorem dX0_weigh_36 : decode cX0_weigh 36 = .ok (.getfield 31, 3) := by decide +kernel
theorem dX0_weigh_39 : decode cX0_weigh 39 = .ok (.iload_n 1, 1) := by decide +kernel
theorem dX0_weigh_40 : decode cX0_weigh 40 = .ok (.iload_n 2, 1) := by decide +kernel
theorem dX0_weigh_41 : decode cX0_weigh 41 = .ok (.invokevirtual 112, 3) := by decide +kernel
theorem dX0_weigh_44 : decode cX0_weigh 44 = .ok (.isub, 1) := by decide +kernel
theorem dX0_weigh_45 : decode cX0_weigh 45 = .ok (.istore 4, 2) := by decide +kernel
theorem dX0_weigh_47 : decode cX0_weigh 47 = .ok (.iload 4, 2) := by decide +kernel
theorem dX0_weigh_49 : decode cX0_weigh 49 = .ok (.aload_n 0, 1) := by decide +kernel
theorem dX0_weigh_50 : decode cX0_weigh 50 = .ok (.getfield 81, 3) := by decide +kernel
theorem dX0_weigh_53 : decode cX0_weigh 53 = .ok (.if_icmp .le 19, 3) := by decide +kernel
theorem dX0_weigh_56 : decode cX0_weigh 56 = .ok (.aload_n 0, 1) := by decide +kernel
theorem dX0_weigh_57 : decode cX0_weigh 57 = .ok (.iload 4, 2) := by decide +kernel
theorem dX0_weigh_59 : decode cX0_weigh 59 = .ok (.putfield 81, 3) := by decide +kernel
theorem dX0_weigh_62 : decode cX0_weigh 62 = .ok (.aload_n 0, 1) := by decide +kernel
theorem dX0_weigh_63 : decode cX0_weigh 63 = .ok (.iload_n 1, 1) := by decide +kernel
theorem dX0_weigh_64 : decode cX0_weigh 64 = .ok (.putfield 94, 3) := by decide +kernel
theorem dX0_weigh_67 : decode cX0_weigh 67 = .ok (.aload_n 0, 1) := by decide +kernel
theorem dX0_weigh_68 : decode cX0_weigh 68 = .ok (.iload_n 2, 1) := by decide +kernel
theorem dX0_weigh_69 : decode cX0_weigh 69 = .ok (.putfield 97, 3) := by decide +kernel
theorem dX0_weigh_72 : decode cX0_weigh 72 = .ok (.return_, 1) := by decide +kernel
theorem dX0_canJoin_0 : decode cX0_canJoin 0 = .ok (.iload_n 2, 1) := by decide +kernel
theorem dX0_canJoin_1 : decode cX0_canJoin 1 = .ok (.ifCond .le 32, 3) := by decide +kernel
theorem dX0_canJoin_4 : decode cX0_canJoin 4 = .ok (.aload_n 0, 1) := by decide +kernel
theorem dX0_canJoin_5 : decode cX0_canJoin 5 = .ok (.getfield 31, 3) := by decide +kernel
theorem dX0_canJoin_8 : decode cX0_canJoin 8 = .ok (.iload_n 2, 1) := by decide +kernel
theorem dX0_canJoin_9 : decode cX0_canJoin 9 = .ok (.invokevirtual 115, 3) := by decide +kernel
theorem dX0_canJoin_12 : decode cX0_canJoin 12 = .ok (.ifCond .eq 21, 3) := by decide +kernel
theorem dX0_canJoin_15 : decode cX0_canJoin 15 = .ok (.aload_n 0, 1) := by decide +kernel
theorem dX0_canJoin_16 : decode cX0_canJoin 16 = .ok (.getfield 9, 3) := by decide +kernel
theorem dX0_canJoin_19 : decode cX0_canJoin 19 = .ok (.iload_n 1, 1) := by decide +kernel
theorem dX0_canJoin_20 : decode cX0_canJoin 20 = .ok (.baload, 1) := by decide +kernel
theorem dX0_canJoin_21 : decode cX0_canJoin 21 = .ok (.ifCond .eq 12, 3) := by decide +kernel
theorem dX0_canJoin_24 : decode cX0_canJoin 24 = .ok (.aload_n 0, 1) := by decide +kernel
theorem dX0_canJoin_25 : decode cX0_canJoin 25 = .ok (.getfield 9, 3) := by decide +kernel
theorem dX0_canJoin_28 : decode cX0_canJoin 28 = .ok (.iload_n 2, 1) := by decide +kernel
theorem dX0_canJoin_29 : decode cX0_canJoin 29 = .ok (.baload, 1) := by decide +kernel
theorem dX0_canJoin_30 : decode cX0_canJoin 30 = .ok (.ifCond .ne 5, 3) := by decide +kernel
theorem dX0_canJoin_33 : decode cX0_canJoin 33 = .ok (.iconst 0, 1) := by decide +kernel
theorem dX0_canJoin_34 : decode cX0_canJoin 34 = .ok (.ireturn, 1) := by decide +kernel
theorem dX0_canJoin_35 : decode cX0_canJoin 35 = .ok (.aload_n 0, 1) := by decide +kernel
theorem dX0_canJoin_36 : decode cX0_canJoin 36 = .ok (.getfield 15, 3) := by decide +kernel
theorem dX0_canJoin_39 : decode cX0_canJoin 39 = .ok (.iload_n 1, 1) := by decide +kernel
theorem dX0_canJoin_40 : decode cX0_canJoin 40 = .ok (.iaload, 1) := by decide +kernel
theorem dX0_canJoin_41 : decode cX0_canJoin 41 = .ok (.iconst (-1), 1) := by decide +kernel
theorem dX0_canJoin_42 : decode cX0_canJoin 42 = .ok (.if_icmp .ne 27, 3) := by decide +kernel
theorem dX0_canJoin_45 : decode cX0_canJoin 45 = .ok (.aload_n 0, 1) := by decide +kernel
theorem dX0_canJoin_46 : decode cX0_canJoin 46 = .ok (.getfield 19, 3) := by decide +kernel
theorem dX0_canJoin_49 : decode cX0_canJoin 49 = .ok (.iload_n 2, 1) := by decide +kernel
theorem dX0_canJoin_50 : decode cX0_canJoin 50 = .ok (.iaload, 1) := by decide +kernel
theorem dX0_canJoin_51 : decode cX0_canJoin 51 = .ok (.iload_n 2, 1) := by decide +kernel
theorem dX0_canJoin_52 : decode cX0_canJoin 52 = .ok (.if_icmp .ne 17, 3) := by decide +kernel
theorem dX0_canJoin_55 : decode cX0_canJoin 55 = .ok (.aload_n 0, 1) := by decide +kernel
theorem dX0_canJoin_56 : decode cX0_canJoin 56 = .ok (.getfield 19, 3) := by decide +kernel
theorem dX0_canJoin_59 : decode cX0_canJoin 59 = .ok (.iload_n 1, 1) := by decide +kernel
theorem dX0_canJoin_60 : decode cX0_canJoin 60 = .ok (.iaload, 1) := by decide +kernel
theorem dX0_canJoin_61 : decode cX0_canJoin 61 = .ok (.iload_n 2, 1) := by decide +kernel
theorem dX0_canJoin_62 : decode cX0_canJoin 62 = .ok (.if_icmp .eq 7, 3) := by decide +kernel
theorem dX0_canJoin_65 : decode cX0_canJoin 65 = .ok (.iconst 1, 1) := by decide +kernel
theorem dX0_canJoin_66 : decode cX0_canJoin 66 = .ok (.goto 4, 3) := by decide +kernel
theorem dX0_canJoin_69 : decode cX0_canJoin 69 = .ok (.iconst 0, 1) := by decide +kernel
theorem dX0_canJoin_70 : decode cX0_canJoin 70 = .ok (.ireturn, 1) := by decide +kernel
theorem dX0_append_0 : decode cX0_append 0 = .ok (.aload_n 0, 1) := by decide +kernel
theorem dX0_append_1 : decode cX0_append 1 = .ok (.getfield 15, 3) := by decide +kernel
theorem dX0_append_4 : decode cX0_append 4 = .ok (.iload_n 1, 1) := by decide +kernel
theorem dX0_append_5 : decode cX0_append 5 = .ok (.iload_n 2, 1) := by decide +kernel
theorem dX0_append_6 : decode cX0_append 6 = .ok (.iastore, 1) := by decide +kernel
theorem dX0_append_7 : decode cX0_append 7 = .ok (.iconst 0, 1) := by decide +kernel
theorem dX0_append_8 : decode cX0_append 8 = .ok (.istore_n 3, 1) := by decide +kernel
theorem dX0_append_9 : decode cX0_append 9 = .ok (.iload_n 3, 1) := by decide +kernel
theorem dX0_append_10 : decode cX0_append 10 = .ok (.aload_n 0, 1) := by decide +kernel
theorem dX0_append_11 : decode cX0_append 11 = .ok (.getfield 31, 3) := by decide +kernel
theorem dX0_append_14 : decode cX0_append 14 = .ok (.getfield 43, 3) := by decide +kernel
theorem dX0_append_17 : decode cX0_append 17 = .ok (.if_icmp .ge 31, 3) := by decide +kernel
theorem dX0_append_20 : decode cX0_append 20 = .ok (.aload_n 0, 1) := by decide +kernel
theorem dX0_append_21 : decode cX0_append 21 = .ok (.getfield 19, 3) := by decide +kernel
theorem dX0_append_24 : decode cX0_append 24 = .ok (.iload_n 3, 1) := by decide +kernel
theorem dX0_append_25 : decode cX0_append 25 = .ok (.iaload, 1) := by decide +kernel
theorem dX0_append_26 : decode cX0_append 26 = .ok (.iload_n 2, 1) := by decide +kernel
theorem dX0_append_27 : decode cX0_append 27 = .ok (.if_icmp .ne 15, 3) := by decide +kernel
theorem dX0_append_30 : decode cX0_append 30 = .ok (.aload_n 0, 1) := by decide +kernel
theorem dX0_append_31 : decode cX0_append 31 = .ok (.getfield 19, 3) := by decide +kernel
theorem dX0_append_34 : decode cX0_append 34 = .ok (.iload_n 3, 1) := by decide +kernel
theorem dX0_append_35 : decode cX0_append 35 = .ok (.aload_n 0, 1) := by decide +kernel
theorem dX0_append_36 : decode cX0_append 36 = .ok (.getfield 19, 3) := by decide +kernel
theorem dX0_append_39 : decode cX0_append 39 = .ok (.iload_n 1, 1) := by decide +kernel
theorem dX0_append_40 : decode cX0_append 40 = .ok (.iaload, 1) := by decide +kernel
theorem dX0_append_41 : decode cX0_append 41 = .ok (.iastore, 1) := by decide +kernel
theorem dX0_append_42 : decode cX0_append 42 = .ok (.iinc 3 1, 3) := by decide +kernel
theorem dX0_append_45 : decode cX0_append 45 = .ok (.goto (-36), 3) := by decide +kernel
theorem dX0_append_48 : decode cX0_append 48 = .ok (.return_, 1) := by decide +kernel
theorem dX0_placeChains_0 : decode cX0_placeChains 0 = .ok (.iconst 0, 1) := by decide +kernel
theorem dX0_placeChains_1 : decode cX0_placeChains 1 = .ok (.istore_n 1, 1) := by decide +kernel
theorem dX0_placeChains_2 : decode cX0_placeChains 2 = .ok (.iload_n 1, 1) := by decide +kernel
theorem dX0_placeChains_3 : decode cX0_placeChains 3 = .ok (.aload_n 0, 1) := by decide +kernel
theorem dX0_placeChains_4 : decode cX0_placeChains 4 = .ok (.getfield 31, 3) := by decide +kernel
theorem dX0_placeChains_7 : decode cX0_placeChains 7 = .ok (.getfield 43, 3) := by decide +kernel
theorem dX0_placeChains_10 : decode cX0_placeChains 10 = .ok (.if_icmp .ge 23, 3) := by decide +kernel
theorem dX0_placeChains_13 : decode cX0_placeChains 13 = .ok (.aload_n 0, 1) := by decide +kernel
theorem dX0_placeChains_14 : decode cX0_placeChains 14 = .ok (.getfield 22, 3) := by decide +kernel
theorem dX0_placeChains_17 : decode cX0_placeChains 17 = .ok (.iload_n 1, 1) := by decide +kernel
theorem dX0_placeChains_18 : decode cX0_placeChains 18 = .ok (.iconst 0, 1) := by decide +kernel
theorem dX0_placeChains_19 : decode cX0_placeChains 19 = .ok (.iastore, 1) := by decide +kernel
theorem dX0_placeChains_20 : decode cX0_placeChains 20 = .ok (.aload_n 0, 1) := by decide +kernel
theorem dX0_placeChains_21 : decode cX0_placeChains 21 = .ok (.getfield 25, 3) := by decide +kernel
theorem dX0_placeChains_24 : decode cX0_placeChains 24 = .ok (.iload_n 1, 1) := by decide +kernel
theorem dX0_placeChains_25 : decode cX0_placeChains 25 = .ok (.iconst 0, 1) := by decide +kernel
theorem dX0_placeChains_26 : decode cX0_placeChains 26 = .ok (.bastore, 1) := by decide +kernel
theorem dX0_placeChains_27 : decode cX0_placeChains 27 = .ok (.iinc 1 1, 3) := by decide +kernel
theorem dX0_placeChains_30 : decode cX0_placeChains 30 = .ok (.goto (-28), 3) := by decide +kernel
theorem dX0_placeChains_33 : decode cX0_placeChains 33 = .ok (.aload_n 0, 1) := by decide +kernel
theorem dX0_placeChains_34 : decode cX0_placeChains 34 = .ok (.iconst 0, 1) := by decide +kernel
theorem dX0_placeChains_35 : decode cX0_placeChains 35 = .ok (.iconst 0, 1) := by decide +kernel
theorem dX0_placeChains_36 : decode cX0_placeChains 36 = .ok (.invokevirtual 119, 3) := by decide +kernel
theorem dX0_placeChains_39 : decode cX0_placeChains 39 = .ok (.istore_n 1, 1) := by decide +kernel
theorem dX0_placeChains_40 : decode cX0_placeChains 40 = .ok (.iconst 0, 1) := by decide +kernel
theorem dX0_placeChains_41 : decode cX0_placeChains 41 = .ok (.istore_n 2, 1) := by decide +kernel
theorem dX0_placeChains_42 : decode cX0_placeChains 42 = .ok (.iload_n 2, 1) := by decide +kernel
theorem dX0_placeChains_43 : decode cX0_placeChains 43 = .ok (.bipush 16, 2) := by decide +kernel
theorem dX0_placeChains_45 : decode cX0_placeChains 45 = .ok (.if_icmp .ge 27, 3) := by decide +kernel
theorem dX0_placeChains_48 : decode cX0_placeChains 48 = .ok (.iload_n 1, 1) := by decide +kernel
theorem dX0_placeChains_49 : decode cX0_placeChains 49 = .ok (.aload_n 0, 1) := by decide +kernel
theorem dX0_placeChains_50 : decode cX0_placeChains 50 = .ok (.getfield 39, 3) := by decide +kernel
theorem dX0_placeChains_53 : decode cX0_placeChains 53 = .ok (.if_icmp .ge 19, 3) := by decide +kernel
theorem dX0_placeChains_56 : decode cX0_placeChains 56 = .ok (.aload_n 0, 1) := by decide +kernel
theorem dX0_placeChains_57 : decode cX0_placeChains 57 = .ok (.aload_n 0, 1) := by decide +kernel
theorem dX0_placeChains_58 : decode cX0_placeChains 58 = .ok (.invokevirtual 122, 3) := by decide +kernel
theorem dX0_placeChains_61 : decode cX0_placeChains 61 = .ok (.iload_n 1, 1) := by decide +kernel
theorem dX0_placeChains_62 : decode cX0_placeChains 62 = .ok (.invokevirtual 119, 3) := by decide +kernel
theorem dX0_placeChains_65 : decode cX0_placeChains 65 = .ok (.istore_n 1, 1) := by decide +kernel
theorem dX0_placeChains_66 : decode cX0_placeChains 66 = .ok (.iinc 2 1, 3) := by decide +kernel
theorem dX0_placeChains_69 : decode cX0_placeChains 69 = .ok (.goto (-27), 3) := by decide +kernel
theorem dX0_placeChains_72 : decode cX0_placeChains 72 = .ok (.return_, 1) := by decide +kernel
theorem dX0_placeChain_0 : decode cX0_placeChain 0 = .ok (.iload_n 2, 1) := by decide +kernel
theorem dX0_placeChain_1 : decode cX0_placeChain 1 = .ok (.istore_n 3, 1) := by decide +kernel
theorem dX0_placeChain_2 : decode cX0_placeChain 2 = .ok (.iload_n 1, 1) := by decide +kernel
theorem dX0_placeChain_3 : decode cX0_placeChain 3 = .ok (.istore 4, 2) := by decide +kernel
theorem dX0_placeChain_5 : decode cX0_placeChain 5 = .ok (.aload_n 0, 1) := by decide +kernel
theorem dX0_placeChain_6 : decode cX0_placeChain 6 = .ok (.getfield 31, 3) := by decide +kernel
theorem dX0_placeChain_9 : decode cX0_placeChain 9 = .ok (.iload 4, 2) := by decide +kernel
theorem dX0_placeChain_11 : decode cX0_placeChain 11 = .ok (.invokevirtual 115, 3) := by decide +kernel
theorem dX0_placeChain_14 : decode cX0_placeChain 14 = .ok (.ifCond .eq 93, 3) := by decide +kernel
theorem dX0_placeChain_17 : decode cX0_placeChain 17 = .ok (.iload_n 3, 1) := by decide +kernel
theorem dX0_placeChain_18 : decode cX0_placeChain 18 = .ok (.aload_n 0, 1) := by decide +kernel
theorem dX0_placeChain_19 : decode cX0_placeChain 19 = .ok (.getfield 39, 3) := by decide +kernel
theorem dX0_placeChain_22 : decode cX0_placeChain 22 = .ok (.if_icmp .ge 85, 3) := by decide +kernel
theorem dX0_placeChain_25 : decode cX0_placeChain 25 = .ok (.aload_n 0, 1) := by decide +kernel
theorem dX0_placeChain_26 : decode cX0_placeChain 26 = .ok (.getfield 35, 3) := by decide +kernel
theorem dX0_placeChain_29 : decode cX0_placeChain 29 = .ok (.getfield 74, 3) := by decide +kernel
theorem dX0_placeChain_32 : decode cX0_placeChain 32 = .ok (.iload_n 3, 1) := by decide +kernel
theorem dX0_placeChain_33 : decode cX0_placeChain 33 = .ok (.iload 4, 2) := by decide +kernel
theorem dX0_placeChain_35 : decode cX0_placeChain 35 = .ok (.iastore, 1) := by decide +kernel
theorem dX0_placeChain_36 : decode cX0_placeChain 36 = .ok (.aload_n 0, 1) := by decide +kernel
theorem dX0_placeChain_37 : decode cX0_placeChain 37 = .ok (.getfield 25, 3) := by decide +kernel
theorem dX0_placeChain_40 : decode cX0_placeChain 40 = .ok (.iload 4, 2) := by decide +kernel
theorem dX0_placeChain_42 : decode cX0_placeChain 42 = .ok (.iconst 1, 1) := by decide +kernel
theorem dX0_placeChain_43 : decode cX0_placeChain 43 = .ok (.bastore, 1) := by decide +kernel
theorem dX0_placeChain_44 : decode cX0_placeChain 44 = .ok (.aload_n 0, 1) := by decide +kernel
theorem dX0_placeChain_45 : decode cX0_placeChain 45 = .ok (.aload_n 0, 1) := by decide +kernel
theorem dX0_placeChain_46 : decode cX0_placeChain 46 = .ok (.getfield 31, 3) := by decide +kernel
theorem dX0_placeChain_49 : decode cX0_placeChain 49 = .ok (.getfield 84, 3) := by decide +kernel
theorem dX0_placeChain_52 : decode cX0_placeChain 52 = .ok (.iload 4, 2) := by decide +kernel
theorem dX0_placeChain_54 : decode cX0_placeChain 54 = .ok (.iaload, 1) := by decide +kernel
theorem dX0_placeChain_55 : decode cX0_placeChain 55 = .ok (.aload_n 0, 1) := by decide +kernel
theorem dX0_placeChain_56 : decode cX0_placeChain 56 = .ok (.getfield 31, 3) := by decide +kernel
theorem dX0_placeChain_59 : decode cX0_placeChain 59 = .ok (.getfield 126, 3) := by decide +kernel
theorem dX0_placeChain_62 : decode cX0_placeChain 62 = .ok (.iload 4, 2) := by decide +kernel
theorem dX0_placeChain_64 : decode cX0_placeChain 64 = .ok (.iaload, 1) := by decide +kernel
theorem dX0_placeChain_65 : decode cX0_placeChain 65 = .ok (.invokevirtual 129, 3) := by decide +kernel
theorem dX0_placeChain_68 : decode cX0_placeChain 68 = .ok (.aload_n 0, 1) := by decide +kernel
theorem dX0_placeChain_69 : decode cX0_placeChain 69 = .ok (.aload_n 0, 1) := by decide +kernel
theorem dX0_placeChain_70 : decode cX0_placeChain 70 = .ok (.getfield 31, 3) := by decide +kernel
theorem dX0_placeChain_73 : decode cX0_placeChain 73 = .ok (.getfield 87, 3) := by decide +kernel
theorem dX0_placeChain_76 : decode cX0_placeChain 76 = .ok (.iload 4, 2) := by decide +kernel
theorem dX0_placeChain_78 : decode cX0_placeChain 78 = .ok (.iaload, 1) := by decide +kernel
theorem dX0_placeChain_79 : decode cX0_placeChain 79 = .ok (.aload_n 0, 1) := by decide +kernel
theorem dX0_placeChain_80 : decode cX0_placeChain 80 = .ok (.getfield 31, 3) := by decide +kernel
theorem dX0_placeChain_83 : decode cX0_placeChain 83 = .ok (.getfield 132, 3) := by decide +kernel
theorem dX0_placeChain_86 : decode cX0_placeChain 86 = .ok (.iload 4, 2) := by decide +kernel
theorem dX0_placeChain_88 : decode cX0_placeChain 88 = .ok (.iaload, 1) := by decide +kernel
theorem dX0_placeChain_89 : decode cX0_placeChain 89 = .ok (.invokevirtual 129, 3) := by decide +kernel
theorem dX0_placeChain_92 : decode cX0_placeChain 92 = .ok (.aload_n 0, 1) := by decide +kernel
theorem dX0_placeChain_93 : decode cX0_placeChain 93 = .ok (.getfield 15, 3) := by decide +kernel
theorem dX0_placeChain_96 : decode cX0_placeChain 96 = .ok (.iload 4, 2) := by decide +kernel
theorem dX0_placeChain_98 : decode cX0_placeChain 98 = .ok (.iaload, 1) := by decide +kernel
theorem dX0_placeChain_99 : decode cX0_placeChain 99 = .ok (.istore 4, 2) := by decide +kernel
theorem dX0_placeChain_101 : decode cX0_placeChain 101 = .ok (.iinc 3 1, 3) := by decide +kernel
theorem dX0_placeChain_104 : decode cX0_placeChain 104 = .ok (.goto (-99), 3) := by decide +kernel
theorem dX0_placeChain_107 : decode cX0_placeChain 107 = .ok (.iload_n 3, 1) := by decide +kernel
theorem dX0_placeChain_108 : decode cX0_placeChain 108 = .ok (.ireturn, 1) := by decide +kernel
theorem dX0_pullFor_0 : decode cX0_pullFor 0 = .ok (.aload_n 0, 1) := by decide +kernel
theorem dX0_pullFor_1 : decode cX0_pullFor 1 = .ok (.getfield 31, 3) := by decide +kernel
theorem dX0_pullFor_4 : decode cX0_pullFor 4 = .ok (.iload_n 1, 1) := by decide +kernel
theorem dX0_pullFor_5 : decode cX0_pullFor 5 = .ok (.invokevirtual 115, 3) := by decide +kernel
theorem dX0_pullFor_8 : decode cX0_pullFor 8 = .ok (.ifCond .eq 18, 3) := by decide +kernel
theorem dX0_pullFor_11 : decode cX0_pullFor 11 = .ok (.aload_n 0, 1) := by decide +kernel
theorem dX0_pullFor_12 : decode cX0_pullFor 12 = .ok (.getfield 22, 3) := by decide +kernel
theorem dX0_pullFor_15 : decode cX0_pullFor 15 = .ok (.aload_n 0, 1) := by decide +kernel
theorem dX0_pullFor_16 : decode cX0_pullFor 16 = .ok (.getfield 19, 3) := by decide +kernel
theorem dX0_pullFor_19 : decode cX0_pullFor 19 = .ok (.iload_n 1, 1) := by decide +kernel
theorem dX0_pullFor_20 : decode cX0_pullFor 20 = .ok (.iaload, 1) := by decide +kernel
theorem dX0_pullFor_21 : decode cX0_pullFor 21 = .ok (.dup2, 1) := by decide +kernel
theorem dX0_pullFor_22 : decode cX0_pullFor 22 = .ok (.iaload, 1) := by decide +kernel
theorem dX0_pullFor_23 : decode cX0_pullFor 23 = .ok (.iload_n 2, 1) := by decide +kernel
theorem dX0_pullFor_24 : decode cX0_pullFor 24 = .ok (.iadd, 1) := by decide +kernel
theorem dX0_pullFor_25 : decode cX0_pullFor 25 = .ok (.iastore, 1) := by decide +kernel
theorem dX0_pullFor_26 : decode cX0_pullFor 26 = .ok (.return_, 1) := by decide +kernel
theorem dX0_strongestChain_0 : decode cX0_strongestChain 0 = .ok (.iconst (-1), 1) := by decide +kernel
theorem dX0_strongestChain_1 : decode cX0_strongestChain 1 = .ok (.istore_n 1, 1) := by decide +kernel
theorem dX0_strongestChain_2 : decode cX0_strongestChain 2 = .ok (.iconst 0, 1) := by decide +kernel
theorem dX0_strongestChain_3 : decode cX0_strongestChain 3 = .ok (.istore_n 2, 1) := by decide +kernel
theorem dX0_strongestChain_4 : decode cX0_strongestChain 4 = .ok (.iload_n 2, 1) := by decide +kernel
theorem dX0_strongestChain_5 : decode cX0_strongestChain 5 = .ok (.aload_n 0, 1) := by decide +kernel
theorem dX0_strongestChain_6 : decode cX0_strongestChain 6 = .ok (.getfield 31, 3) := by decide +kernel
theorem dX0_strongestChain_9 : decode cX0_strongestChain 9 = .ok (.getfield 43, 3) := by decide +kernel
theorem dX0_strongestChain_12 : decode cX0_strongestChain 12 = .ok (.if_icmp .ge 69, 3) := by decide +kernel
theorem dX0_strongestChain_15 : decode cX0_strongestChain 15 = .ok (.aload_n 0, 1) := by decide +kernel
theorem dX0_strongestChain_16 : decode cX0_strongestChain 16 = .ok (.getfield 9, 3) := by decide +kernel
theorem dX0_strongestChain_19 : decode cX0_strongestChain 19 = .ok (.iload_n 2, 1) := by decide +kernel
theorem dX0_strongestChain_20 : decode cX0_strongestChain 20 = .ok (.baload, 1) := by decide +kernel
theorem dX0_strongestChain_21 : decode cX0_strongestChain 21 = .ok (.ifCond .eq 26, 3) := by decide +kernel
theorem dX0_strongestChain_24 : decode cX0_strongestChain 24 = .ok (.aload_n 0, 1) := by decide +kernel
theorem dX0_strongestChain_25 : decode cX0_strongestChain 25 = .ok (.getfield 19, 3) := by decide +kernel
theorem dX0_strongestChain_28 : decode cX0_strongestChain 28 = .ok (.iload_n 2, 1) := by decide +kernel
theorem dX0_strongestChain_29 : decode cX0_strongestChain 29 = .ok (.iaload, 1) := by decide +kernel
theorem dX0_strongestChain_30 : decode cX0_strongestChain 30 = .ok (.iload_n 2, 1) := by decide +kernel
theorem dX0_strongestChain_31 : decode cX0_strongestChain 31 = .ok (.if_icmp .ne 16, 3) := by decide +kernel
theorem dX0_strongestChain_34 : decode cX0_strongestChain 34 = .ok (.aload_n 0, 1) := by decide +kernel
theorem dX0_strongestChain_35 : decode cX0_strongestChain 35 = .ok (.getfield 25, 3) := by decide +kernel
theorem dX0_strongestChain_38 : decode cX0_strongestChain 38 = .ok (.iload_n 2, 1) := by decide +kernel
theorem dX0_strongestChain_39 : decode cX0_strongestChain 39 = .ok (.baload, 1) := by decide +kernel
theorem dX0_strongestChain_40 : decode cX0_strongestChain 40 = .ok (.ifCond .ne 7, 3) := by decide +kernel
theorem dX0_strongestChain_43 : decode cX0_strongestChain 43 = .ok (.iconst 1, 1) := by decide +kernel
theorem dX0_strongestChain_44 : decode cX0_strongestChain 44 = .ok (.goto 4, 3) := by decide +kernel
theorem dX0_strongestChain_47 : decode cX0_strongestChain 47 = .ok (.iconst 0, 1) := by decide +kernel
theorem dX0_strongestChain_48 : decode cX0_strongestChain 48 = .ok (.istore_n 3, 1) := by decide +kernel
theorem dX0_strongestChain_49 : decode cX0_strongestChain 49 = .ok (.iload_n 3, 1) := by decide +kernel
theorem dX0_strongestChain_50 : decode cX0_strongestChain 50 = .ok (.ifCond .eq 25, 3) := by decide +kernel
theorem dX0_strongestChain_53 : decode cX0_strongestChain 53 = .ok (.iload_n 1, 1) := by decide +kernel
theorem dX0_strongestChain_54 : decode cX0_strongestChain 54 = .ok (.iconst (-1), 1) := by decide +kernel
theorem dX0_strongestChain_55 : decode cX0_strongestChain 55 = .ok (.if_icmp .eq 18, 3) := by decide +kernel
theorem dX0_strongestChain_58 : decode cX0_strongestChain 58 = .ok (.aload_n 0, 1) := by decide +kernel
theorem dX0_strongestChain_59 : decode cX0_strongestChain 59 = .ok (.getfield 22, 3) := by decide +kernel
theorem dX0_strongestChain_62 : decode cX0_strongestChain 62 = .ok (.iload_n 2, 1) := by decide +kernel
theorem dX0_strongestChain_63 : decode cX0_strongestChain 63 = .ok (.iaload, 1) := by decide +kernel
theorem dX0_strongestChain_64 : decode cX0_strongestChain 64 = .ok (.aload_n 0, 1) := by decide +kernel
theorem dX0_strongestChain_65 : decode cX0_strongestChain 65 = .ok (.getfield 22, 3) := by decide +kernel
theorem dX0_strongestChain_68 : decode cX0_strongestChain 68 = .ok (.iload_n 1, 1) := by decide +kernel
theorem dX0_strongestChain_69 : decode cX0_strongestChain 69 = .ok (.iaload, 1) := by decide +kernel
theorem dX0_strongestChain_70 : decode cX0_strongestChain 70 = .ok (.if_icmp .le 5, 3) := by decide +kernel
theorem dX0_strongestChain_73 : decode cX0_strongestChain 73 = .ok (.iload_n 2, 1) := by decide +kernel
theorem dX0_strongestChain_74 : decode cX0_strongestChain 74 = .ok (.istore_n 1, 1) := by decide +kernel
theorem dX0_strongestChain_75 : decode cX0_strongestChain 75 = .ok (.iinc 2 1, 3) := by decide +kernel
theorem dX0_strongestChain_78 : decode cX0_strongestChain 78 = .ok (.goto (-74), 3) := by decide +kernel
theorem dX0_strongestChain_81 : decode cX0_strongestChain 81 = .ok (.iload_n 1, 1) := by decide +kernel
theorem dX0_strongestChain_82 : decode cX0_strongestChain 82 = .ok (.ireturn, 1) := by decide +kernel
theorem dX0_search_0 : decode cX0_search 0 = .ok (.iload_n 1, 1) := by decide +kernel
theorem dX0_search_1 : decode cX0_search 1 = .ok (.iconst 1, 1) := by decide +kernel
theorem dX0_search_2 : decode cX0_search 2 = .ok (.if_icmp .lt 17, 3) := by decide +kernel
theorem dX0_search_5 : decode cX0_search 5 = .ok (.iload_n 1, 1) := by decide +kernel
theorem dX0_search_6 : decode cX0_search 6 = .ok (.bipush 7, 2) := by decide +kernel
theorem dX0_search_8 : decode cX0_search 8 = .ok (.if_icmp .gt 11, 3) := by decide +kernel
theorem dX0_search_11 : decode cX0_search 11 = .ok (.iload_n 3, 1) := by decide +kernel
theorem dX0_search_12 : decode cX0_search 12 = .ok (.aload_n 0, 1) := by decide +kernel
theorem dX0_search_13 : decode cX0_search 13 = .ok (.getfield 52, 3) := by decide +kernel
theorem dX0_search_16 : decode cX0_search 16 = .ok (.if_icmp .lt 4, 3) := by decide +kernel
theorem dX0_search_19 : decode cX0_search 19 = .ok (.return_, 1) := by decide +kernel
theorem dX0_search_20 : decode cX0_search 20 = .ok (.aload_n 0, 1) := by decide +kernel
theorem dX0_search_21 : decode cX0_search 21 = .ok (.getfield 28, 3) := by decide +kernel
theorem dX0_search_24 : decode cX0_search 24 = .ok (.iload_n 1, 1) := by decide +kernel
theorem dX0_search_25 : decode cX0_search 25 = .ok (.iconst 1, 1) := by decide +kernel
theorem dX0_search_26 : decode cX0_search 26 = .ok (.isub, 1) := by decide +kernel
theorem dX0_search_27 : decode cX0_search 27 = .ok (.iaload, 1) := by decide +kernel
theorem dX0_search_28 : decode cX0_search 28 = .ok (.istore 4, 2) := by decide +kernel
theorem dX0_search_30 : decode cX0_search 30 = .ok (.iload_n 1, 1) := by decide +kernel
theorem dX0_search_31 : decode cX0_search 31 = .ok (.aload_n 0, 1) := by decide +kernel
theorem dX0_search_32 : decode cX0_search 32 = .ok (.getfield 39, 3) := by decide +kernel
theorem dX0_search_35 : decode cX0_search 35 = .ok (.if_icmp .ge 9, 3) := by decide +kernel
theorem dX0_search_38 : decode cX0_search 38 = .ok (.iload_n 1, 1) := by decide +kernel
theorem dX0_search_39 : decode cX0_search 39 = .ok (.bipush 7, 2) := by decide +kernel
theorem dX0_search_41 : decode cX0_search 41 = .ok (.if_icmp .ne 21, 3) := by decide +kernel
theorem dX0_search_44 : decode cX0_search 44 = .ok (.aload_n 0, 1) := by decide +kernel
theorem dX0_search_45 : decode cX0_search 45 = .ok (.iload_n 1, 1) := by decide +kernel
theorem dX0_search_46 : decode cX0_search 46 = .ok (.iload_n 3, 1) := by decide +kernel
theorem dX0_search_47 : decode cX0_search 47 = .ok (.aload_n 0, 1) := by decide +kernel
theorem dX0_search_48 : decode cX0_search 48 = .ok (.getfield 31, 3) := by decide +kernel
theorem dX0_search_51 : decode cX0_search 51 = .ok (.iload 4, 2) := by decide +kernel
theorem dX0_search_53 : decode cX0_search 53 = .ok (.iconst (-1), 1) := by decide +kernel
theorem dX0_search_54 : decode cX0_search 54 = .ok (.invokevirtual 112, 3) := by decide +kernel
theorem dX0_search_57 : decode cX0_search 57 = .ok (.iadd, 1) := by decide +kernel
theorem dX0_search_58 : decode cX0_search 58 = .ok (.invokevirtual 135, 3) := by decide +kernel
theorem dX0_search_61 : decode cX0_search 61 = .ok (.return_, 1) := by decide +kernel
theorem dX0_search_62 : decode cX0_search 62 = .ok (.iconst 1, 1) := by decide +kernel
theorem dX0_search_63 : decode cX0_search 63 = .ok (.istore 5, 2) := by decide +kernel
theorem dX0_search_65 : decode cX0_search 65 = .ok (.iload 5, 2) := by decide +kernel
theorem dX0_search_67 : decode cX0_search 67 = .ok (.aload_n 0, 1) := by decide +kernel
theorem dX0_search_68 : decode cX0_search 68 = .ok (.getfield 31, 3) := by decide +kernel
theorem dX0_search_71 : decode cX0_search 71 = .ok (.getfield 43, 3) := by decide +kernel
theorem dX0_search_74 : decode cX0_search 74 = .ok (.if_icmp .ge 62, 3) := by decide +kernel
theorem dX0_search_77 : decode cX0_search 77 = .ok (.aload_n 0, 1) := by decide +kernel
theorem dX0_search_78 : decode cX0_search 78 = .ok (.getfield 9, 3) := by decide +kernel
theorem dX0_search_81 : decode cX0_search 81 = .ok (.iload 5, 2) := by decide +kernel
theorem dX0_search_83 : decode cX0_search 83 = .ok (.baload, 1) := by decide +kernel
theorem dX0_search_84 : decode cX0_search 84 = .ok (.ifCond .eq 46, 3) := by decide +kernel
theorem dX0_search_87 : decode cX0_search 87 = .ok (.iload_n 2, 1) := by decide +kernel
theorem dX0_search_88 : decode cX0_search 88 = .ok (.iload 5, 2) := by decide +kernel
theorem dX0_search_90 : decode cX0_search 90 = .ok (.ishr, 1) := by decide +kernel
theorem dX0_search_91 : decode cX0_search 91 = .ok (.iconst 1, 1) := by decide +kernel
theorem dX0_search_92 : decode cX0_search 92 = .ok (.iand, 1) := by decide +kernel
theorem dX0_search_93 : decode cX0_search 93 = .ok (.ifCond .ne 37, 3) := by decide +kernel
theorem dX0_search_96 : decode cX0_search 96 = .ok (.aload_n 0, 1) := by decide +kernel
theorem dX0_search_97 : decode cX0_search 97 = .ok (.getfield 28, 3) := by decide +kernel
theorem dX0_search_100 : decode cX0_search 100 = .ok (.iload_n 1, 1) := by decide +kernel
theorem dX0_search_101 : decode cX0_search 101 = .ok (.iload 5, 2) := by decide +kernel
theorem dX0_search_103 : decode cX0_search 103 = .ok (.iastore, 1) := by decide +kernel
theorem dX0_search_104 : decode cX0_search 104 = .ok (.aload_n 0, 1) := by decide +kernel
theorem dX0_search_105 : decode cX0_search 105 = .ok (.iload_n 1, 1) := by decide +kernel
theorem dX0_search_106 : decode cX0_search 106 = .ok (.iconst 1, 1) := by decide +kernel
theorem dX0_search_107 : decode cX0_search 107 = .ok (.iadd, 1) := by decide +kernel
theorem dX0_search_108 : decode cX0_search 108 = .ok (.iload_n 2, 1) := by decide +kernel
theorem dX0_search_109 : decode cX0_search 109 = .ok (.iconst 1, 1) := by decide +kernel
theorem dX0_search_110 : decode cX0_search 110 = .ok (.iload 5, 2) := by decide +kernel
theorem dX0_search_112 : decode cX0_search 112 = .ok (.ishl, 1) := by decide +kernel
theorem dX0_search_113 : decode cX0_search 113 = .ok (.ior, 1) := by decide +kernel
theorem dX0_search_114 : decode cX0_search 114 = .ok (.iload_n 3, 1) := by decide +kernel
theorem dX0_search_115 : decode cX0_search 115 = .ok (.aload_n 0, 1) := by decide +kernel
theorem dX0_search_116 : decode cX0_search 116 = .ok (.getfield 31, 3) := by decide +kernel
theorem dX0_search_119 : decode cX0_search 119 = .ok (.iload 4, 2) := by decide +kernel
theorem dX0_search_121 : decode cX0_search 121 = .ok (.iload 5, 2) := by decide +kernel
theorem dX0_search_123 : decode cX0_search 123 = .ok (.invokevirtual 112, 3) := by decide +kernel
theorem dX0_search_126 : decode cX0_search 126 = .ok (.iadd, 1) := by decide +kernel
theorem dX0_search_127 : decode cX0_search 127 = .ok (.invokevirtual 55, 3) := by decide +kernel
theorem dX0_search_130 : decode cX0_search 130 = .ok (.iinc 5 1, 3) := by decide +kernel
theorem dX0_search_133 : decode cX0_search 133 = .ok (.goto (-68), 3) := by decide +kernel
theorem dX0_search_136 : decode cX0_search 136 = .ok (.return_, 1) := by decide +kernel
theorem dX0_keepTrial_0 : decode cX0_keepTrial 0 = .ok (.iload_n 2, 1) := by decide +kernel
theorem dX0_keepTrial_1 : decode cX0_keepTrial 1 = .ok (.aload_n 0, 1) := by decide +kernel
theorem dX0_keepTrial_2 : decode cX0_keepTrial 2 = .ok (.getfield 52, 3) := by decide +kernel
theorem dX0_keepTrial_5 : decode cX0_keepTrial 5 = .ok (.if_icmp .ge 36, 3) := by decide +kernel
theorem dX0_keepTrial_8 : decode cX0_keepTrial 8 = .ok (.aload_n 0, 1) := by decide +kernel
theorem dX0_keepTrial_9 : decode cX0_keepTrial 9 = .ok (.iload_n 2, 1) := by decide +kernel
theorem dX0_keepTrial_10 : decode cX0_keepTrial 10 = .ok (.putfield 52, 3) := by decide +kernel
theorem dX0_keepTrial_13 : decode cX0_keepTrial 13 = .ok (.iconst 0, 1) := by decide +kernel
theorem dX0_keepTrial_14 : decode cX0_keepTrial 14 = .ok (.istore_n 3, 1) := by decide +kernel
theorem dX0_keepTrial_15 : decode cX0_keepTrial 15 = .ok (.iload_n 3, 1) := by decide +kernel
theorem dX0_keepTrial_16 : decode cX0_keepTrial 16 = .ok (.iload_n 1, 1) := by decide +kernel
theorem dX0_keepTrial_17 : decode cX0_keepTrial 17 = .ok (.if_icmp .ge 24, 3) := by decide +kernel
theorem dX0_keepTrial_20 : decode cX0_keepTrial 20 = .ok (.aload_n 0, 1) := by decide +kernel
theorem dX0_keepTrial_21 : decode cX0_keepTrial 21 = .ok (.getfield 35, 3) := by decide +kernel
theorem dX0_keepTrial_24 : decode cX0_keepTrial 24 = .ok (.getfield 74, 3) := by decide +kernel
theorem dX0_keepTrial_27 : decode cX0_keepTrial 27 = .ok (.iload_n 3, 1) := by decide +kernel
theorem dX0_keepTrial_28 : decode cX0_keepTrial 28 = .ok (.aload_n 0, 1) := by decide +kernel
theorem dX0_keepTrial_29 : decode cX0_keepTrial 29 = .ok (.getfield 28, 3) := by decide +kernel
theorem dX0_keepTrial_32 : decode cX0_keepTrial 32 = .ok (.iload_n 3, 1) := by decide +kernel
theorem dX0_keepTrial_33 : decode cX0_keepTrial 33 = .ok (.iaload, 1) := by decide +kernel
theorem dX0_keepTrial_34 : decode cX0_keepTrial 34 = .ok (.iastore, 1) := by decide +kernel
theorem dX0_keepTrial_35 : decode cX0_keepTrial 35 = .ok (.iinc 3 1, 3) := by decide +kernel
theorem dX0_keepTrial_38 : decode cX0_keepTrial 38 = .ok (.goto (-23), 3) := by decide +kernel
theorem dX0_keepTrial_41 : decode cX0_keepTrial 41 = .ok (.return_, 1) := by decide +kernel
theorem dX1_init_0 : decode cX1_init 0 = .ok (.aload_n 0, 1) := by decide +kernel
theorem dX1_init_1 : decode cX1_init 1 = .ok (.invokespecial 3, 3) := by decide +kernel
theorem dX1_init_4 : decode cX1_init 4 = .ok (.aload_n 0, 1) := by decide +kernel
theorem dX1_init_5 : decode cX1_init 5 = .ok (.sipush 160, 3) := by decide +kernel
theorem dX1_init_8 : decode cX1_init 8 = .ok (.newarray .int, 2) := by decide +kernel
theorem dX1_init_10 : decode cX1_init 10 = .ok (.putfield 9, 3) := by decide +kernel
theorem dX1_init_13 : decode cX1_init 13 = .ok (.aload_n 0, 1) := by decide +kernel
theorem dX1_init_14 : decode cX1_init 14 = .ok (.bipush 10, 2) := by decide +kernel
theorem dX1_init_16 : decode cX1_init 16 = .ok (.newarray .int, 2) := by decide +kernel
theorem dX1_init_18 : decode cX1_init 18 = .ok (.putfield 15, 3) := by decide +kernel
theorem dX1_init_21 : decode cX1_init 21 = .ok (.aload_n 0, 1) := by decide +kernel
theorem dX1_init_22 : decode cX1_init 22 = .ok (.bipush 10, 2) := by decide +kernel
theorem dX1_init_24 : decode cX1_init 24 = .ok (.newarray .int, 2) := by decide +kernel
theorem dX1_init_26 : decode cX1_init 26 = .ok (.putfield 18, 3) := by decide +kernel
theorem dX1_init_29 : decode cX1_init 29 = .ok (.return_, 1) := by decide +kernel
theorem dX1_forget_0 : decode cX1_forget 0 = .ok (.aload_n 0, 1) := by decide +kernel
theorem dX1_forget_1 : decode cX1_forget 1 = .ok (.iconst 0, 1) := by decide +kernel
theorem dX1_forget_2 : decode cX1_forget 2 = .ok (.putfield 21, 3) := by decide +kernel
theorem dX1_forget_5 : decode cX1_forget 5 = .ok (.return_, 1) := by decide +kernel
theorem dX1_remember_0 : decode cX1_remember 0 = .ok (.iconst 0, 1) := by decide +kernel
theorem dX1_remember_1 : decode cX1_remember 1 = .ok (.istore_n 2, 1) := by decide +kernel
theorem dX1_remember_2 : decode cX1_remember 2 = .ok (.iload_n 2, 1) := by decide +kernel
theorem dX1_remember_3 : decode cX1_remember 3 = .ok (.bipush 16, 2) := by decide +kernel
theorem dX1_remember_5 : decode cX1_remember 5 = .ok (.if_icmp .ge 29, 3) := by decide +kernel
theorem dX1_remember_8 : decode cX1_remember 8 = .ok (.aload_n 0, 1) := by decide +kernel
theorem dX1_remember_9 : decode cX1_remember 9 = .ok (.getfield 9, 3) := by decide +kernel
theorem dX1_remember_12 : decode cX1_remember 12 = .ok (.aload_n 0, 1) := by decide +kernel
theorem dX1_remember_13 : decode cX1_remember 13 = .ok (.getfield 25, 3) := by decide +kernel
theorem dX1_remember_16 : decode cX1_remember 16 = .ok (.bipush 16, 2) := by decide +kernel
theorem dX1_remember_18 : decode cX1_remember 18 = .ok (.imul, 1) := by decide +kernel
theorem dX1_remember_19 : decode cX1_remember 19 = .ok (.iload_n 2, 1) := by decide +kernel
theorem dX1_remember_20 : decode cX1_remember 20 = .ok (.iadd, 1) := by decide +kernel
theorem dX1_remember_21 : decode cX1_remember 21 = .ok (.aload_n 1, 1) := by decide +kernel
theorem dX1_remember_22 : decode cX1_remember 22 = .ok (.getfield 28, 3) := by decide +kernel
theorem dX1_remember_25 : decode cX1_remember 25 = .ok (.iload_n 2, 1) := by decide +kernel
theorem dX1_remember_26 : decode cX1_remember 26 = .ok (.iaload, 1) := by decide +kernel
theorem dX1_remember_27 : decode cX1_remember 27 = .ok (.iastore, 1) := by decide +kernel
theorem dX1_remember_28 : decode cX1_remember 28 = .ok (.iinc 2 1, 3) := by decide +kernel
theorem dX1_remember_31 : decode cX1_remember 31 = .ok (.goto (-29), 3) := by decide +kernel
theorem dX1_remember_34 : decode cX1_remember 34 = .ok (.aload_n 0, 1) := by decide +kernel
theorem dX1_remember_35 : decode cX1_remember 35 = .ok (.getfield 15, 3) := by decide +kernel
theorem dX1_remember_38 : decode cX1_remember 38 = .ok (.aload_n 0, 1) := by decide +kernel
theorem dX1_remember_39 : decode cX1_remember 39 = .ok (.getfield 25, 3) := by decide +kernel
theorem dX1_remember_42 : decode cX1_remember 42 = .ok (.aload_n 1, 1) := by decide +kernel
theorem dX1_remember_43 : decode cX1_remember 43 = .ok (.getfield 33, 3) := by decide +kernel
theorem dX1_remember_46 : decode cX1_remember 46 = .ok (.iastore, 1) := by decide +kernel
theorem dX1_remember_47 : decode cX1_remember 47 = .ok (.aload_n 0, 1) := by decide +kernel
theorem dX1_remember_48 : decode cX1_remember 48 = .ok (.getfield 18, 3) := by decide +kernel
theorem dX1_remember_51 : decode cX1_remember 51 = .ok (.aload_n 0, 1) := by decide +kernel
theorem dX1_remember_52 : decode cX1_remember 52 = .ok (.getfield 25, 3) := by decide +kernel
theorem dX1_remember_55 : decode cX1_remember 55 = .ok (.aload_n 1, 1) := by decide +kernel
theorem dX1_remember_56 : decode cX1_remember 56 = .ok (.getfield 36, 3) := by decide +kernel
theorem dX1_remember_59 : decode cX1_remember 59 = .ok (.iastore, 1) := by decide +kernel
theorem dX1_remember_60 : decode cX1_remember 60 = .ok (.aload_n 0, 1) := by decide +kernel
theorem dX1_remember_61 : decode cX1_remember 61 = .ok (.aload_n 0, 1) := by decide +kernel
theorem dX1_remember_62 : decode cX1_remember 62 = .ok (.getfield 25, 3) := by decide +kernel
theorem dX1_remember_65 : decode cX1_remember 65 = .ok (.iconst 1, 1) := by decide +kernel
theorem dX1_remember_66 : decode cX1_remember 66 = .ok (.iadd, 1) := by decide +kernel
theorem dX1_remember_67 : decode cX1_remember 67 = .ok (.bipush 10, 2) := by decide +kernel
theorem dX1_remember_69 : decode cX1_remember 69 = .ok (.if_icmp .ne 7, 3) := by decide +kernel
theorem dX1_remember_72 : decode cX1_remember 72 = .ok (.iconst 0, 1) := by decide +kernel
theorem dX1_remember_73 : decode cX1_remember 73 = .ok (.goto 9, 3) := by decide +kernel
theorem dX1_remember_76 : decode cX1_remember 76 = .ok (.aload_n 0, 1) := by decide +kernel
theorem dX1_remember_77 : decode cX1_remember 77 = .ok (.getfield 25, 3) := by decide +kernel
theorem dX1_remember_80 : decode cX1_remember 80 = .ok (.iconst 1, 1) := by decide +kernel
theorem dX1_remember_81 : decode cX1_remember 81 = .ok (.iadd, 1) := by decide +kernel
theorem dX1_remember_82 : decode cX1_remember 82 = .ok (.putfield 25, 3) := by decide +kernel
theorem dX1_remember_85 : decode cX1_remember 85 = .ok (.aload_n 0, 1) := by decide +kernel
theorem dX1_remember_86 : decode cX1_remember 86 = .ok (.aload_n 0, 1) := by decide +kernel
theorem dX1_remember_87 : decode cX1_remember 87 = .ok (.getfield 21, 3) := by decide +kernel
theorem dX1_remember_90 : decode cX1_remember 90 = .ok (.iconst 1, 1) := by decide +kernel
theorem dX1_remember_91 : decode cX1_remember 91 = .ok (.iadd, 1) := by decide +kernel
theorem dX1_remember_92 : decode cX1_remember 92 = .ok (.bipush 10, 2) := by decide +kernel
theorem dX1_remember_94 : decode cX1_remember 94 = .ok (.invokestatic 39, 3) := by decide +kernel
theorem dX1_remember_97 : decode cX1_remember 97 = .ok (.putfield 21, 3) := by decide +kernel
theorem dX1_remember_100 : decode cX1_remember 100 = .ok (.return_, 1) := by decide +kernel
theorem dX1_restore_0 : decode cX1_restore 0 = .ok (.aload_n 0, 1) := by decide +kernel
theorem dX1_restore_1 : decode cX1_restore 1 = .ok (.getfield 21, 3) := by decide +kernel
theorem dX1_restore_4 : decode cX1_restore 4 = .ok (.ifCond .ne 5, 3) := by decide +kernel
theorem dX1_restore_7 : decode cX1_restore 7 = .ok (.iconst 0, 1) := by decide +kernel
theorem dX1_restore_8 : decode cX1_restore 8 = .ok (.ireturn, 1) := by decide +kernel
theorem dX1_restore_9 : decode cX1_restore 9 = .ok (.aload_n 0, 1) := by decide +kernel
theorem dX1_restore_10 : decode cX1_restore 10 = .ok (.aload_n 0, 1) := by decide +kernel
theorem dX1_restore_11 : decode cX1_restore 11 = .ok (.getfield 25, 3) := by decide +kernel
theorem dX1_restore_14 : decode cX1_restore 14 = .ok (.ifCond .ne 8, 3) := by decide +kernel
theorem dX1_restore_17 : decode cX1_restore 17 = .ok (.bipush 9, 2) := by decide +kernel
theorem dX1_restore_19 : decode cX1_restore 19 = .ok (.goto 9, 3) := by decide +kernel
theorem dX1_restore_22 : decode cX1_restore 22 = .ok (.aload_n 0, 1) := by decide +kernel
theorem dX1_restore_23 : decode cX1_restore 23 = .ok (.getfield 25, 3) := by decide +kernel
theorem dX1_restore_26 : decode cX1_restore 26 = .ok (.iconst 1, 1) := by decide +kernel
theorem dX1_restore_27 : decode cX1_restore 27 = .ok (.isub, 1) := by decide +kernel
theorem dX1_restore_28 : decode cX1_restore 28 = .ok (.putfield 25, 3) := by decide +kernel
theorem dX1_restore_31 : decode cX1_restore 31 = .ok (.aload_n 0, 1) := by decide +kernel
theorem dX1_restore_32 : decode cX1_restore 32 = .ok (.dup, 1) := by decide +kernel
theorem dX1_restore_33 : decode cX1_restore 33 = .ok (.getfield 21, 3) := by decide +kernel
theorem dX1_restore_36 : decode cX1_restore 36 = .ok (.iconst 1, 1) := by decide +kernel
theorem dX1_restore_37 : decode cX1_restore 37 = .ok (.isub, 1) := by decide +kernel
theorem dX1_restore_38 : decode cX1_restore 38 = .ok (.putfield 21, 3) := by decide +kernel
theorem dX1_restore_41 : decode cX1_restore 41 = .ok (.iconst 0, 1) := by decide +kernel
theorem dX1_restore_42 : decode cX1_restore 42 = .ok (.istore_n 2, 1) := by decide +kernel
theorem dX1_restore_43 : decode cX1_restore 43 = .ok (.iload_n 2, 1) := by decide +kernel
theorem dX1_restore_44 : decode cX1_restore 44 = .ok (.bipush 16, 2) := by decide +kernel
theorem dX1_restore_46 : decode cX1_restore 46 = .ok (.if_icmp .ge 29, 3) := by decide +kernel
theorem dX1_restore_49 : decode cX1_restore 49 = .ok (.aload_n 1, 1) := by decide +kernel
theorem dX1_restore_50 : decode cX1_restore 50 = .ok (.getfield 28, 3) := by decide +kernel
theorem dX1_restore_53 : decode cX1_restore 53 = .ok (.iload_n 2, 1) := by decide +kernel
theorem dX1_restore_54 : decode cX1_restore 54 = .ok (.aload_n 0, 1) := by decide +kernel
theorem dX1_restore_55 : decode cX1_restore 55 = .ok (.getfield 9, 3) := by decide +kernel
theorem dX1_restore_58 : decode cX1_restore 58 = .ok (.aload_n 0, 1) := by decide +kernel
theorem dX1_restore_59 : decode cX1_restore 59 = .ok (.getfield 25, 3) := by decide +kernel
theorem dX1_restore_62 : decode cX1_restore 62 = .ok (.bipush 16, 2) := by decide +kernel
theorem dX1_restore_64 : decode cX1_restore 64 = .ok (.imul, 1) := by decide +kernel
theorem dX1_restore_65 : decode cX1_restore 65 = .ok (.iload_n 2, 1) := by decide +kernel
theorem dX1_restore_66 : decode cX1_restore 66 = .ok (.iadd, 1) := by decide +kernel
theorem dX1_restore_67 : decode cX1_restore 67 = .ok (.iaload, 1) := by decide +kernel
theorem dX1_restore_68 : decode cX1_restore 68 = .ok (.iastore, 1) := by decide +kernel
theorem dX1_restore_69 : decode cX1_restore 69 = .ok (.iinc 2 1, 3) := by decide +kernel
theorem dX1_restore_72 : decode cX1_restore 72 = .ok (.goto (-29), 3) := by decide +kernel
theorem dX1_restore_75 : decode cX1_restore 75 = .ok (.aload_n 1, 1) := by decide +kernel
theorem dX1_restore_76 : decode cX1_restore 76 = .ok (.aload_n 0, 1) := by decide +kernel
theorem dX1_restore_77 : decode cX1_restore 77 = .ok (.getfield 15, 3) := by decide +kernel
theorem dX1_restore_80 : decode cX1_restore 80 = .ok (.aload_n 0, 1) := by decide +kernel
theorem dX1_restore_81 : decode cX1_restore 81 = .ok (.getfield 25, 3) := by decide +kernel
theorem dX1_restore_84 : decode cX1_restore 84 = .ok (.iaload, 1) := by decide +kernel
theorem dX1_restore_85 : decode cX1_restore 85 = .ok (.putfield 33, 3) := by decide +kernel
theorem dX1_restore_88 : decode cX1_restore 88 = .ok (.aload_n 1, 1) := by decide +kernel
theorem dX1_restore_89 : decode cX1_restore 89 = .ok (.aload_n 0, 1) := by decide +kernel
theorem dX1_restore_90 : decode cX1_restore 90 = .ok (.getfield 18, 3) := by decide +kernel
theorem dX1_restore_93 : decode cX1_restore 93 = .ok (.aload_n 0, 1) := by decide +kernel
theorem dX1_restore_94 : decode cX1_restore 94 = .ok (.getfield 25, 3) := by decide +kernel
theorem dX1_restore_97 : decode cX1_restore 97 = .ok (.iaload, 1) := by decide +kernel
theorem dX1_restore_98 : decode cX1_restore 98 = .ok (.putfield 36, 3) := by decide +kernel
theorem dX1_restore_101 : decode cX1_restore 101 = .ok (.iconst 1, 1) := by decide +kernel
theorem dX1_restore_102 : decode cX1_restore 102 = .ok (.ireturn, 1) := by decide +kernel
theorem dX2_init_0 : decode cX2_init 0 = .ok (.aload_n 0, 1) := by decide +kernel
theorem dX2_init_1 : decode cX2_init 1 = .ok (.invokespecial 3, 3) := by decide +kernel
theorem dX2_init_4 : decode cX2_init 4 = .ok (.aload_n 0, 1) := by decide +kernel
theorem dX2_init_5 : decode cX2_init 5 = .ok (.bipush 60, 2) := by decide +kernel
theorem dX2_init_7 : decode cX2_init 7 = .ok (.newarray .char, 2) := by decide +kernel
theorem dX2_init_9 : decode cX2_init 9 = .ok (.putfield 9, 3) := by decide +kernel
theorem dX2_init_12 : decode cX2_init 12 = .ok (.return_, 1) := by decide +kernel
theorem dX2_append_0 : decode cX2_append 0 = .ok (.aload_n 0, 1) := by decide +kernel
theorem dX2_append_1 : decode cX2_append 1 = .ok (.getfield 15, 3) := by decide +kernel
theorem dX2_append_4 : decode cX2_append 4 = .ok (.bipush 60, 2) := by decide +kernel
theorem dX2_append_6 : decode cX2_append 6 = .ok (.if_icmp .lt 5, 3) := by decide +kernel
theorem dX2_append_9 : decode cX2_append 9 = .ok (.iconst 0, 1) := by decide +kernel
theorem dX2_append_10 : decode cX2_append 10 = .ok (.ireturn, 1) := by decide +kernel
theorem dX2_append_11 : decode cX2_append 11 = .ok (.aload_n 0, 1) := by decide +kernel
theorem dX2_append_12 : decode cX2_append 12 = .ok (.getfield 9, 3) := by decide +kernel
theorem dX2_append_15 : decode cX2_append 15 = .ok (.aload_n 0, 1) := by decide +kernel
theorem dX2_append_16 : decode cX2_append 16 = .ok (.getfield 15, 3) := by decide +kernel
theorem dX2_append_19 : decode cX2_append 19 = .ok (.iload_n 1, 1) := by decide +kernel
theorem dX2_append_20 : decode cX2_append 20 = .ok (.castore, 1) := by decide +kernel
theorem dX2_append_21 : decode cX2_append 21 = .ok (.aload_n 0, 1) := by decide +kernel
theorem dX2_append_22 : decode cX2_append 22 = .ok (.dup, 1) := by decide +kernel
theorem dX2_append_23 : decode cX2_append 23 = .ok (.getfield 15, 3) := by decide +kernel
theorem dX2_append_26 : decode cX2_append 26 = .ok (.iconst 1, 1) := by decide +kernel
theorem dX2_append_27 : decode cX2_append 27 = .ok (.iadd, 1) := by decide +kernel
theorem dX2_append_28 : decode cX2_append 28 = .ok (.putfield 15, 3) := by decide +kernel
theorem dX2_append_31 : decode cX2_append 31 = .ok (.iconst 1, 1) := by decide +kernel
theorem dX2_append_32 : decode cX2_append 32 = .ok (.ireturn, 1) := by decide +kernel
theorem dX2_parse_0 : decode cX2_parse 0 = .ok (.aload_n 0, 1) := by decide +kernel
theorem dX2_parse_1 : decode cX2_parse 1 = .ok (.iconst 0, 1) := by decide +kernel
theorem dX2_parse_2 : decode cX2_parse 2 = .ok (.putfield 19, 3) := by decide +kernel
theorem dX2_parse_5 : decode cX2_parse 5 = .ok (.aload_n 0, 1) := by decide +kernel
theorem dX2_parse_6 : decode cX2_parse 6 = .ok (.iconst (-1), 1) := by decide +kernel
theorem dX2_parse_7 : decode cX2_parse 7 = .ok (.putfield 22, 3) := by decide +kernel
theorem dX2_parse_10 : decode cX2_parse 10 = .ok (.aload_n 0, 1) := by decide +kernel
theorem dX2_parse_11 : decode cX2_parse 11 = .ok (.iconst (-1), 1) := by decide +kernel
theorem dX2_parse_12 : decode cX2_parse 12 = .ok (.putfield 25, 3) := by decide +kernel
theorem dX2_parse_15 : decode cX2_parse 15 = .ok (.aload_n 0, 1) := by decide +kernel
theorem dX2_parse_16 : decode cX2_parse 16 = .ok (.iconst 0, 1) := by decide +kernel
theorem dX2_parse_17 : decode cX2_parse 17 = .ok (.putfield 28, 3) := by decide +kernel
theorem dX2_parse_20 : decode cX2_parse 20 = .ok (.aload_n 0, 1) := by decide +kernel
theorem dX2_parse_21 : decode cX2_parse 21 = .ok (.iconst 2, 1) := by decide +kernel
theorem dX2_parse_22 : decode cX2_parse 22 = .ok (.invokevirtual 31, 3) := by decide +kernel
theorem dX2_parse_25 : decode cX2_parse 25 = .ok (.ifCond .ne 5, 3) := by decide +kernel
theorem dX2_parse_28 : decode cX2_parse 28 = .ok (.iconst 0, 1) := by decide +kernel
theorem dX2_parse_29 : decode cX2_parse 29 = .ok (.ireturn, 1) := by decide +kernel
theorem dX2_parse_30 : decode cX2_parse 30 = .ok (.aload_n 0, 1) := by decide +kernel
theorem dX2_parse_31 : decode cX2_parse 31 = .ok (.aload_n 0, 1) := by decide +kernel
theorem dX2_parse_32 : decode cX2_parse 32 = .ok (.getfield 35, 3) := by decide +kernel
theorem dX2_parse_35 : decode cX2_parse 35 = .ok (.putfield 38, 3) := by decide +kernel
theorem dX2_parse_38 : decode cX2_parse 38 = .ok (.aload_n 0, 1) := by decide +kernel
theorem dX2_parse_39 : decode cX2_parse 39 = .ok (.ldc 41, 2) := by decide +kernel
theorem dX2_parse_41 : decode cX2_parse 41 = .ok (.invokevirtual 43, 3) := by decide +kernel
theorem dX2_parse_44 : decode cX2_parse 44 = .ok (.ifCond .eq 25, 3) := by decide +kernel
theorem dX2_parse_47 : decode cX2_parse 47 = .ok (.aload_n 0, 1) := by decide +kernel
theorem dX2_parse_48 : decode cX2_parse 48 = .ok (.invokevirtual 47, 3) := by decide +kernel
theorem dX2_parse_51 : decode cX2_parse 51 = .ok (.ifCond .eq 18, 3) := by decide +kernel
theorem dX2_parse_54 : decode cX2_parse 54 = .ok (.aload_n 0, 1) := by decide +kernel
theorem dX2_parse_55 : decode cX2_parse 55 = .ok (.getfield 19, 3) := by decide +kernel
theorem dX2_parse_58 : decode cX2_parse 58 = .ok (.aload_n 0, 1) := by decide +kernel
theorem dX2_parse_59 : decode cX2_parse 59 = .ok (.getfield 15, 3) := by decide +kernel
theorem dX2_parse_62 : decode cX2_parse 62 = .ok (.if_icmp .ne 7, 3) := by decide +kernel
theorem dX2_parse_65 : decode cX2_parse 65 = .ok (.iconst 1, 1) := by decide +kernel
theorem dX2_parse_66 : decode cX2_parse 66 = .ok (.goto 4, 3) := by decide +kernel
theorem dX2_parse_69 : decode cX2_parse 69 = .ok (.iconst 0, 1) := by decide +kernel
theorem dX2_parse_70 : decode cX2_parse 70 = .ok (.ireturn, 1) := by decide +kernel
theorem dX2_takeEnd_0 : decode cX2_takeEnd 0 = .ok (.aload_n 0, 1) := by decide +kernel
theorem dX2_takeEnd_1 : decode cX2_takeEnd 1 = .ok (.bipush 115, 2) := by decide +kernel
theorem dX2_takeEnd_3 : decode cX2_takeEnd 3 = .ok (.invokevirtual 51, 3) := by decide +kernel
theorem dX2_takeEnd_6 : decode cX2_takeEnd 6 = .ok (.ifCond .eq 15, 3) := by decide +kernel
theorem dX2_takeEnd_9 : decode cX2_takeEnd 9 = .ok (.aload_n 0, 1) := by decide +kernel
theorem dX2_takeEnd_10 : decode cX2_takeEnd 10 = .ok (.iconst 2, 1) := by decide +kernel
theorem dX2_takeEnd_11 : decode cX2_takeEnd 11 = .ok (.putfield 55, 3) := by decide +kernel
theorem dX2_takeEnd_14 : decode cX2_takeEnd 14 = .ok (.aload_n 0, 1) := by decide +kernel
theorem dX2_takeEnd_15 : decode cX2_takeEnd 15 = .ok (.ldc 58, 2) := by decide +kernel
theorem dX2_takeEnd_17 : decode cX2_takeEnd 17 = .ok (.invokevirtual 43, 3) := by decide +kernel
theorem dX2_takeEnd_20 : decode cX2_takeEnd 20 = .ok (.ireturn, 1) := by decide +kernel
theorem dX2_takeEnd_21 : decode cX2_takeEnd 21 = .ok (.aload_n 0, 1) := by decide +kernel
theorem dX2_takeEnd_22 : decode cX2_takeEnd 22 = .ok (.bipush 103, 2) := by decide +kernel
theorem dX2_takeEnd_24 : decode cX2_takeEnd 24 = .ok (.invokevirtual 51, 3) := by decide +kernel
theorem dX2_takeEnd_27 : decode cX2_takeEnd 27 = .ok (.ifCond .eq 30, 3) := by decide +kernel
theorem dX2_takeEnd_30 : decode cX2_takeEnd 30 = .ok (.aload_n 0, 1) := by decide +kernel
theorem dX2_takeEnd_31 : decode cX2_takeEnd 31 = .ok (.iconst 0, 1) := by decide +kernel
theorem dX2_takeEnd_32 : decode cX2_takeEnd 32 = .ok (.putfield 55, 3) := by decide +kernel
theorem dX2_takeEnd_35 : decode cX2_takeEnd 35 = .ok (.aload_n 0, 1) := by decide +kernel
theorem dX2_takeEnd_36 : decode cX2_takeEnd 36 = .ok (.ldc 60, 2) := by decide +kernel
theorem dX2_takeEnd_38 : decode cX2_takeEnd 38 = .ok (.invokevirtual 43, 3) := by decide +kernel
theorem dX2_takeEnd_41 : decode cX2_takeEnd 41 = .ok (.ifCond .eq 14, 3) := by decide +kernel
theorem dX2_takeEnd_44 : decode cX2_takeEnd 44 = .ok (.aload_n 0, 1) := by decide +kernel
theorem dX2_takeEnd_45 : decode cX2_takeEnd 45 = .ok (.invokevirtual 62, 3) := by decide +kernel
theorem dX2_takeEnd_48 : decode cX2_takeEnd 48 = .ok (.ifCond .eq 7, 3) := by decide +kernel
theorem dX2_takeEnd_51 : decode cX2_takeEnd 51 = .ok (.iconst 1, 1) := by decide +kernel
theorem dX2_takeEnd_52 : decode cX2_takeEnd 52 = .ok (.goto 4, 3) := by decide +kernel
theorem dX2_takeEnd_55 : decode cX2_takeEnd 55 = .ok (.iconst 0, 1) := by decide +kernel
theorem dX2_takeEnd_56 : decode cX2_takeEnd 56 = .ok (.ireturn, 1) := by decide +kernel
theorem dX2_takeEnd_57 : decode cX2_takeEnd 57 = .ok (.aload_n 0, 1) := by decide +kernel
theorem dX2_takeEnd_58 : decode cX2_takeEnd 58 = .ok (.iconst 1, 1) := by decide +kernel
theorem dX2_takeEnd_59 : decode cX2_takeEnd 59 = .ok (.putfield 55, 3) := by decide +kernel
theorem dX2_takeEnd_62 : decode cX2_takeEnd 62 = .ok (.aload_n 0, 1) := by decide +kernel
theorem dX2_takeEnd_63 : decode cX2_takeEnd 63 = .ok (.ldc 65, 2) := by decide +kernel
theorem dX2_takeEnd_65 : decode cX2_takeEnd 65 = .ok (.invokevirtual 43, 3) := by decide +kernel
theorem dX2_takeEnd_68 : decode cX2_takeEnd 68 = .ok (.ifCond .eq 46, 3) := by decide +kernel
theorem dX2_takeEnd_71 : decode cX2_takeEnd 71 = .ok (.aload_n 0, 1) := by decide +kernel
theorem dX2_takeEnd_72 : decode cX2_takeEnd 72 = .ok (.invokevirtual 62, 3) := by decide +kernel
theorem dX2_takeEnd_75 : decode cX2_takeEnd 75 = .ok (.ifCond .eq 39, 3) := by decide +kernel
theorem dX2_takeEnd_78 : decode cX2_takeEnd 78 = .ok (.aload_n 0, 1) := by decide +kernel
theorem dX2_takeEnd_79 : decode cX2_takeEnd 79 = .ok (.ldc 41, 2) := by decide +kernel
theorem dX2_takeEnd_81 : decode cX2_takeEnd 81 = .ok (.invokevirtual 43, 3) := by decide +kernel
theorem dX2_takeEnd_84 : decode cX2_takeEnd 84 = .ok (.ifCond .eq 30, 3) := by decide +kernel
theorem dX2_takeEnd_87 : decode cX2_takeEnd 87 = .ok (.aload_n 0, 1) := by decide +kernel
theorem dX2_takeEnd_88 : decode cX2_takeEnd 88 = .ok (.invokevirtual 67, 3) := by decide +kernel
theorem dX2_takeEnd_91 : decode cX2_takeEnd 91 = .ok (.ifCond .eq 23, 3) := by decide +kernel
theorem dX2_takeEnd_94 : decode cX2_takeEnd 94 = .ok (.aload_n 0, 1) := by decide +kernel
theorem dX2_takeEnd_95 : decode cX2_takeEnd 95 = .ok (.ldc 41, 2) := by decide +kernel
theorem dX2_takeEnd_97 : decode cX2_takeEnd 97 = .ok (.invokevirtual 43, 3) := by decide +kernel
theorem dX2_takeEnd_100 : decode cX2_takeEnd 100 = .ok (.ifCond .eq 14, 3) := by decide +kernel
theorem dX2_takeEnd_103 : decode cX2_takeEnd 103 = .ok (.aload_n 0, 1) := by decide +kernel
theorem dX2_takeEnd_104 : decode cX2_takeEnd 104 = .ok (.invokevirtual 70, 3) := by decide +kernel
theorem dX2_takeEnd_107 : decode cX2_takeEnd 107 = .ok (.ifCond .eq 7, 3) := by decide +kernel
theorem dX2_takeEnd_110 : decode cX2_takeEnd 110 = .ok (.iconst 1, 1) := by decide +kernel
theorem dX2_takeEnd_111 : decode cX2_takeEnd 111 = .ok (.goto 4, 3) := by decide +kernel
theorem dX2_takeEnd_114 : decode cX2_takeEnd 114 = .ok (.iconst 0, 1) := by decide +kernel
theorem dX2_takeEnd_115 : decode cX2_takeEnd 115 = .ok (.ireturn, 1) := by decide +kernel
theorem dX2_takeFirst_0 : decode cX2_takeFirst 0 = .ok (.aload_n 0, 1) := by decide +kernel
theorem dX2_takeFirst_1 : decode cX2_takeFirst 1 = .ok (.iconst 2, 1) := by decide +kernel
theorem dX2_takeFirst_2 : decode cX2_takeFirst 2 = .ok (.invokevirtual 31, 3) := by decide +kernel
theorem dX2_takeFirst_5 : decode cX2_takeFirst 5 = .ok (.istore_n 1, 1) := by decide +kernel
theorem dX2_takeFirst_6 : decode cX2_takeFirst 6 = .ok (.aload_n 0, 1) := by decide +kernel
theorem dX2_takeFirst_7 : decode cX2_takeFirst 7 = .ok (.aload_n 0, 1) := by decide +kernel
theorem dX2_takeFirst_8 : decode cX2_takeFirst 8 = .ok (.getfield 35, 3) := by decide +kernel
theorem dX2_takeFirst_11 : decode cX2_takeFirst 11 = .ok (.putfield 22, 3) := by decide +kernel
theorem dX2_takeFirst_14 : decode cX2_takeFirst 14 = .ok (.iload_n 1, 1) := by decide +kernel
theorem dX2_takeFirst_15 : decode cX2_takeFirst 15 = .ok (.ireturn, 1) := by decide +kernel
theorem dX2_takeSecond_0 : decode cX2_takeSecond 0 = .ok (.aload_n 0, 1) := by decide +kernel
theorem dX2_takeSecond_1 : decode cX2_takeSecond 1 = .ok (.iconst 2, 1) := by decide +kernel
theorem dX2_takeSecond_2 : decode cX2_takeSecond 2 = .ok (.invokevirtual 31, 3) := by decide +kernel
theorem dX2_takeSecond_5 : decode cX2_takeSecond 5 = .ok (.istore_n 1, 1) := by decide +kernel
theorem dX2_takeSecond_6 : decode cX2_takeSecond 6 = .ok (.aload_n 0, 1) := by decide +kernel
theorem dX2_takeSecond_7 : decode cX2_takeSecond 7 = .ok (.aload_n 0, 1) := by decide +kernel
theorem dX2_takeSecond_8 : decode cX2_takeSecond 8 = .ok (.getfield 35, 3) := by decide +kernel
theorem dX2_takeSecond_11 : decode cX2_takeSecond 11 = .ok (.putfield 25, 3) := by decide +kernel
theorem dX2_takeSecond_14 : decode cX2_takeSecond 14 = .ok (.iload_n 1, 1) := by decide +kernel
theorem dX2_takeSecond_15 : decode cX2_takeSecond 15 = .ok (.ireturn, 1) := by decide +kernel
theorem dX2_takePattern_0 : decode cX2_takePattern 0 = .ok (.aload_n 0, 1) := by decide +kernel
theorem dX2_takePattern_1 : decode cX2_takePattern 1 = .ok (.bipush 45, 2) := by decide +kernel
theorem dX2_takePattern_3 : decode cX2_takePattern 3 = .ok (.invokevirtual 51, 3) := by decide +kernel
theorem dX2_takePattern_6 : decode cX2_takePattern 6 = .ok (.istore_n 1, 1) := by decide +kernel
theorem dX2_takePattern_7 : decode cX2_takePattern 7 = .ok (.iload_n 1, 1) := by decide +kernel
theorem dX2_takePattern_8 : decode cX2_takePattern 8 = .ok (.ifCond .eq 13, 3) := by decide +kernel
theorem dX2_takePattern_11 : decode cX2_takePattern 11 = .ok (.aload_n 0, 1) := by decide +kernel
theorem dX2_takePattern_12 : decode cX2_takePattern 12 = .ok (.dup, 1) := by decide +kernel
theorem dX2_takePattern_13 : decode cX2_takePattern 13 = .ok (.getfield 19, 3) := by decide +kernel
theorem dX2_takePattern_16 : decode cX2_takePattern 16 = .ok (.iconst 1, 1) := by decide +kernel
theorem dX2_takePattern_17 : decode cX2_takePattern 17 = .ok (.iadd, 1) := by decide +kernel
theorem dX2_takePattern_18 : decode cX2_takePattern 18 = .ok (.putfield 19, 3) := by decide +kernel
theorem dX2_takePattern_21 : decode cX2_takePattern 21 = .ok (.aload_n 0, 1) := by decide +kernel
theorem dX2_takePattern_22 : decode cX2_takePattern 22 = .ok (.bipush 6, 2) := by decide +kernel
theorem dX2_takePattern_24 : decode cX2_takePattern 24 = .ok (.invokevirtual 31, 3) := by decide +kernel
theorem dX2_takePattern_27 : decode cX2_takePattern 27 = .ok (.istore_n 2, 1) := by decide +kernel
theorem dX2_takePattern_28 : decode cX2_takePattern 28 = .ok (.aload_n 0, 1) := by decide +kernel
theorem dX2_takePattern_29 : decode cX2_takePattern 29 = .ok (.iload_n 1, 1) := by decide +kernel
theorem dX2_takePattern_30 : decode cX2_takePattern 30 = .ok (.ifCond .eq 11, 3) := by decide +kernel
theorem dX2_takePattern_33 : decode cX2_takePattern 33 = .ok (.aload_n 0, 1) := by decide +kernel
theorem dX2_takePattern_34 : decode cX2_takePattern 34 = .ok (.getfield 35, 3) := by decide +kernel
theorem dX2_takePattern_37 : decode cX2_takePattern 37 = .ok (.ineg, 1) := by decide +kernel
theorem dX2_takePattern_38 : decode cX2_takePattern 38 = .ok (.goto 7, 3) := by decide +kernel
theorem dX2_takePattern_41 : decode cX2_takePattern 41 = .ok (.aload_n 0, 1) := by decide +kernel
theorem dX2_takePattern_42 : decode cX2_takePattern 42 = .ok (.getfield 35, 3) := by decide +kernel
theorem dX2_takePattern_45 : decode cX2_takePattern 45 = .ok (.putfield 28, 3) := by decide +kernel
theorem dX2_takePattern_48 : decode cX2_takePattern 48 = .ok (.iload_n 2, 1) := by decide +kernel
theorem dX2_takePattern_49 : decode cX2_takePattern 49 = .ok (.ireturn, 1) := by decide +kernel
theorem dX2_takeNumber_0 : decode cX2_takeNumber 0 = .ok (.aload_n 0, 1) := by decide +kernel
theorem dX2_takeNumber_1 : decode cX2_takeNumber 1 = .ok (.iconst 0, 1) := by decide +kernel
theorem dX2_takeNumber_2 : decode cX2_takeNumber 2 = .ok (.putfield 35, 3) := by decide +kernel
theorem dX2_takeNumber_5 : decode cX2_takeNumber 5 = .ok (.iconst 0, 1) := by decide +kernel
theorem dX2_takeNumber_6 : decode cX2_takeNumber 6 = .ok (.istore_n 2, 1) := by decide +kernel
theorem dX2_takeNumber_7 : decode cX2_takeNumber 7 = .ok (.iload_n 2, 1) := by decide +kernel
theorem dX2_takeNumber_8 : decode cX2_takeNumber 8 = .ok (.iload_n 1, 1) := by decide +kernel
theorem dX2_takeNumber_9 : decode cX2_takeNumber 9 = .ok (.if_icmp .ge 50, 3) := by decide +kernel
theorem dX2_takeNumber_12 : decode cX2_takeNumber 12 = .ok (.aload_n 0, 1) := by decide +kernel
theorem dX2_takeNumber_13 : decode cX2_takeNumber 13 = .ok (.invokevirtual 73, 3) := by decide +kernel
theorem dX2_takeNumber_16 : decode cX2_takeNumber 16 = .ok (.ifCond .eq 43, 3) := by decide +kernel
theorem dX2_takeNumber_19 : decode cX2_takeNumber 19 = .ok (.aload_n 0, 1) := by decide +kernel
theorem dX2_takeNumber_20 : decode cX2_takeNumber 20 = .ok (.aload_n 0, 1) := by decide +kernel
theorem dX2_takeNumber_21 : decode cX2_takeNumber 21 = .ok (.getfield 35, 3) := by decide +kernel
theorem dX2_takeNumber_24 : decode cX2_takeNumber 24 = .ok (.bipush 10, 2) := by decide +kernel
theorem dX2_takeNumber_26 : decode cX2_takeNumber 26 = .ok (.imul, 1) := by decide +kernel
theorem dX2_takeNumber_27 : decode cX2_takeNumber 27 = .ok (.aload_n 0, 1) := by decide +kernel
theorem dX2_takeNumber_28 : decode cX2_takeNumber 28 = .ok (.getfield 9, 3) := by decide +kernel
theorem dX2_takeNumber_31 : decode cX2_takeNumber 31 = .ok (.aload_n 0, 1) := by decide +kernel
theorem dX2_takeNumber_32 : decode cX2_takeNumber 32 = .ok (.getfield 19, 3) := by decide +kernel
theorem dX2_takeNumber_35 : decode cX2_takeNumber 35 = .ok (.caload, 1) := by decide +kernel
theorem dX2_takeNumber_36 : decode cX2_takeNumber 36 = .ok (.bipush 48, 2) := by decide +kernel
theorem dX2_takeNumber_38 : decode cX2_takeNumber 38 = .ok (.isub, 1) := by decide +kernel
theorem dX2_takeNumber_39 : decode cX2_takeNumber 39 = .ok (.iadd, 1) := by decide +kernel
theorem dX2_takeNumber_40 : decode cX2_takeNumber 40 = .ok (.putfield 35, 3) := by decide +kernel
theorem dX2_takeNumber_43 : decode cX2_takeNumber 43 = .ok (.aload_n 0, 1) := by decide +kernel
theorem dX2_takeNumber_44 : decode cX2_takeNumber 44 = .ok (.dup, 1) := by decide +kernel
theorem dX2_takeNumber_45 : decode cX2_takeNumber 45 = .ok (.getfield 19, 3) := by decide +kernel
theorem dX2_takeNumber_48 : decode cX2_takeNumber 48 = .ok (.iconst 1, 1) := by decide +kernel
theorem dX2_takeNumber_49 : decode cX2_takeNumber 49 = .ok (.iadd, 1) := by decide +kernel
theorem dX2_takeNumber_50 : decode cX2_takeNumber 50 = .ok (.putfield 19, 3) := by decide +kernel
theorem dX2_takeNumber_53 : decode cX2_takeNumber 53 = .ok (.iinc 2 1, 3) := by decide +kernel
theorem dX2_takeNumber_56 : decode cX2_takeNumber 56 = .ok (.goto (-49), 3) := by decide +kernel
theorem dX2_takeNumber_59 : decode cX2_takeNumber 59 = .ok (.iload_n 2, 1) := by decide +kernel
theorem dX2_takeNumber_60 : decode cX2_takeNumber 60 = .ok (.ifCond .le 7, 3) := by decide +kernel
theorem dX2_takeNumber_63 : decode cX2_takeNumber 63 = .ok (.iconst 1, 1) := by decide +kernel
theorem dX2_takeNumber_64 : decode cX2_takeNumber 64 = .ok (.goto 4, 3) := by decide +kernel
theorem dX2_takeNumber_67 : decode cX2_takeNumber 67 = .ok (.iconst 0, 1) := by decide +kernel
theorem dX2_takeNumber_68 : decode cX2_takeNumber 68 = .ok (.ireturn, 1) := by decide +kernel
theorem dX2_takeWord_0 : decode cX2_takeWord 0 = .ok (.iconst 0, 1) := by decide +kernel
theorem dX2_takeWord_1 : decode cX2_takeWord 1 = .ok (.istore_n 2, 1) := by decide +kernel
theorem dX2_takeWord_2 : decode cX2_takeWord 2 = .ok (.iload_n 2, 1) := by decide +kernel
theorem dX2_takeWord_3 : decode cX2_takeWord 3 = .ok (.aload_n 1, 1) := by decide +kernel
theorem dX2_takeWord_4 : decode cX2_takeWord 4 = .ok (.invokevirtual 76, 3) := by decide +kernel
theorem dX2_takeWord_7 : decode cX2_takeWord 7 = .ok (.if_icmp .ge 33, 3) := by decide +kernel
theorem dX2_takeWord_10 : decode cX2_takeWord 10 = .ok (.aload_n 0, 1) := by decide +kernel
theorem dX2_takeWord_11 : decode cX2_takeWord 11 = .ok (.aload_n 1, 1) := by decide +kernel
theorem dX2_takeWord_12 : decode cX2_takeWord 12 = .ok (.iload_n 2, 1) := by decide +kernel
theorem dX2_takeWord_13 : decode cX2_takeWord 13 = .ok (.invokevirtual 81, 3) := by decide +kernel
theorem dX2_takeWord_16 : decode cX2_takeWord 16 = .ok (.invokevirtual 51, 3) := by decide +kernel
theorem dX2_takeWord_19 : decode cX2_takeWord 19 = .ok (.ifCond .ne 5, 3) := by decide +kernel
theorem dX2_takeWord_22 : decode cX2_takeWord 22 = .ok (.iconst 0, 1) := by decide +kernel
theorem dX2_takeWord_23 : decode cX2_takeWord 23 = .ok (.ireturn, 1) := by decide +kernel
theorem dX2_takeWord_24 : decode cX2_takeWord 24 = .ok (.aload_n 0, 1) := by decide +kernel
theorem dX2_takeWord_25 : decode cX2_takeWord 25 = .ok (.dup, 1) := by decide +kernel
theorem dX2_takeWord_26 : decode cX2_takeWord 26 = .ok (.getfield 19, 3) := by decide +kernel
theorem dX2_takeWord_29 : decode cX2_takeWord 29 = .ok (.iconst 1, 1) := by decide +kernel
theorem dX2_takeWord_30 : decode cX2_takeWord 30 = .ok (.iadd, 1) := by decide +kernel
theorem dX2_takeWord_31 : decode cX2_takeWord 31 = .ok (.putfield 19, 3) := by decide +kernel
theorem dX2_takeWord_34 : decode cX2_takeWord 34 = .ok (.iinc 2 1, 3) := by decide +kernel
theorem dX2_takeWord_37 : decode cX2_takeWord 37 = .ok (.goto (-35), 3) := by decide +kernel
theorem dX2_takeWord_40 : decode cX2_takeWord 40 = .ok (.iconst 1, 1) := by decide +kernel
theorem dX2_takeWord_41 : decode cX2_takeWord 41 = .ok (.ireturn, 1) := by decide +kernel
theorem dX2_sees_0 : decode cX2_sees 0 = .ok (.aload_n 0, 1) := by decide +kernel
theorem dX2_sees_1 : decode cX2_sees 1 = .ok (.getfield 19, 3) := by decide +kernel
theorem dX2_sees_4 : decode cX2_sees 4 = .ok (.aload_n 0, 1) := by decide +kernel
theorem dX2_sees_5 : decode cX2_sees 5 = .ok (.getfield 15, 3) := by decide +kernel
theorem dX2_sees_8 : decode cX2_sees 8 = .ok (.if_icmp .ge 20, 3) := by decide +kernel
theorem dX2_sees_11 : decode cX2_sees 11 = .ok (.aload_n 0, 1) := by decide +kernel
theorem dX2_sees_12 : decode cX2_sees 12 = .ok (.getfield 9, 3) := by decide +kernel
theorem dX2_sees_15 : decode cX2_sees 15 = .ok (.aload_n 0, 1) := by decide +kernel
theorem dX2_sees_16 : decode cX2_sees 16 = .ok (.getfield 19, 3) := by decide +kernel
theorem dX2_sees_19 : decode cX2_sees 19 = .ok (.caload, 1) := by decide +kernel
theorem dX2_sees_20 : decode cX2_sees 20 = .ok (.iload_n 1, 1) := by decide +kernel
theorem dX2_sees_21 : decode cX2_sees 21 = .ok (.if_icmp .ne 7, 3) := by decide +kernel
theorem dX2_sees_24 : decode cX2_sees 24 = .ok (.iconst 1, 1) := by decide +kernel
theorem dX2_sees_25 : decode cX2_sees 25 = .ok (.goto 4, 3) := by decide +kernel
theorem dX2_sees_28 : decode cX2_sees 28 = .ok (.iconst 0, 1) := by decide +kernel
theorem dX2_sees_29 : decode cX2_sees 29 = .ok (.ireturn, 1) := by decide +kernel
theorem dX2_seesDigit_0 : decode cX2_seesDigit 0 = .ok (.aload_n 0, 1) := by decide +kernel
theorem dX2_seesDigit_1 : decode cX2_seesDigit 1 = .ok (.getfield 19, 3) := by decide +kernel
theorem dX2_seesDigit_4 : decode cX2_seesDigit 4 = .ok (.aload_n 0, 1) := by decide +kernel
theorem dX2_seesDigit_5 : decode cX2_seesDigit 5 = .ok (.getfield 15, 3) := by decide +kernel
theorem dX2_seesDigit_8 : decode cX2_seesDigit 8 = .ok (.if_icmp .ge 35, 3) := by decide +kernel
theorem dX2_seesDigit_11 : decode cX2_seesDigit 11 = .ok (.aload_n 0, 1) := by decide +kernel
theorem dX2_seesDigit_12 : decode cX2_seesDigit 12 = .ok (.getfield 9, 3) := by decide +kernel
theorem dX2_seesDigit_15 : decode cX2_seesDigit 15 = .ok (.aload_n 0, 1) := by decide +kernel
theorem dX2_seesDigit_16 : decode cX2_seesDigit 16 = .ok (.getfield 19, 3) := by decide +kernel
theorem dX2_seesDigit_19 : decode cX2_seesDigit 19 = .ok (.caload, 1) := by decide +kernel
theorem dX2_seesDigit_20 : decode cX2_seesDigit 20 = .ok (.bipush 48, 2) := by decide +kernel
theorem dX2_seesDigit_22 : decode cX2_seesDigit 22 = .ok (.if_icmp .lt 21, 3) := by decide +kernel
theorem dX2_seesDigit_25 : decode cX2_seesDigit 25 = .ok (.aload_n 0, 1) := by decide +kernel
theorem dX2_seesDigit_26 : decode cX2_seesDigit 26 = .ok (.getfield 9, 3) := by decide +kernel
theorem dX2_seesDigit_29 : decode cX2_seesDigit 29 = .ok (.aload_n 0, 1) := by decide +kernel
theorem dX2_seesDigit_30 : decode cX2_seesDigit 30 = .ok (.getfield 19, 3) := by decide +kernel
theorem dX2_seesDigit_33 : decode cX2_seesDigit 33 = .ok (.caload, 1) := by decide +kernel
theorem dX2_seesDigit_34 : decode cX2_seesDigit 34 = .ok (.bipush 57, 2) := by decide +kernel
theorem dX2_seesDigit_36 : decode cX2_seesDigit 36 = .ok (.if_icmp .gt 7, 3) := by decide +kernel
theorem dX2_seesDigit_39 : decode cX2_seesDigit 39 = .ok (.iconst 1, 1) := by decide +kernel
theorem dX2_seesDigit_40 : decode cX2_seesDigit 40 = .ok (.goto 4, 3) := by decide +kernel
theorem dX2_seesDigit_43 : decode cX2_seesDigit 43 = .ok (.iconst 0, 1) := by decide +kernel
theorem dX2_seesDigit_44 : decode cX2_seesDigit 44 = .ok (.ireturn, 1) := by decide +kernel
theorem dX3_init_0 : decode cX3_init 0 = .ok (.aload_n 0, 1) := by decide +kernel
theorem dX3_init_1 : decode cX3_init 1 = .ok (.invokespecial 3, 3) := by decide +kernel
theorem dX3_init_4 : decode cX3_init 4 = .ok (.aload_n 0, 1) := by decide +kernel
theorem dX3_init_5 : decode cX3_init 5 = .ok (.sipush 500, 3) := by decide +kernel
theorem dX3_init_8 : decode cX3_init 8 = .ok (.newarray .int, 2) := by decide +kernel
theorem dX3_init_10 : decode cX3_init 10 = .ok (.putfield 9, 3) := by decide +kernel
theorem dX3_init_13 : decode cX3_init 13 = .ok (.aload_n 0, 1) := by decide +kernel
theorem dX3_init_14 : decode cX3_init 14 = .ok (.sipush 500, 3) := by decide +kernel
theorem dX3_init_17 : decode cX3_init 17 = .ok (.newarray .int, 2) := by decide +kernel
theorem dX3_init_19 : decode cX3_init 19 = .ok (.putfield 15, 3) := by decide +kernel
theorem dX3_init_22 : decode cX3_init 22 = .ok (.aload_n 0, 1) := by decide +kernel
theorem dX3_init_23 : decode cX3_init 23 = .ok (.bipush 16, 2) := by decide +kernel
theorem dX3_init_25 : decode cX3_init 25 = .ok (.newarray .int, 2) := by decide +kernel
theorem dX3_init_27 : decode cX3_init 27 = .ok (.putfield 18, 3) := by decide +kernel
theorem dX3_init_30 : decode cX3_init 30 = .ok (.aload_n 0, 1) := by decide +kernel
theorem dX3_init_31 : decode cX3_init 31 = .ok (.aload_n 1, 1) := by decide +kernel
theorem dX3_init_32 : decode cX3_init 32 = .ok (.putfield 21, 3) := by decide +kernel
theorem dX3_init_35 : decode cX3_init 35 = .ok (.return_, 1) := by decide +kernel
theorem dX3_execute_0 : decode cX3_execute 0 = .ok (.iconst 0, 1) := by decide +kernel
theorem dX3_execute_1 : decode cX3_execute 1 = .ok (.istore_n 2, 1) := by decide +kernel
theorem dX3_execute_2 : decode cX3_execute 2 = .ok (.iload_n 2, 1) := by decide +kernel
theorem dX3_execute_3 : decode cX3_execute 3 = .ok (.bipush 16, 2) := by decide +kernel
theorem dX3_execute_5 : decode cX3_execute 5 = .ok (.if_icmp .ge 16, 3) := by decide +kernel
theorem dX3_execute_8 : decode cX3_execute 8 = .ok (.aload_n 0, 1) := by decide +kernel
theorem dX3_execute_9 : decode cX3_execute 9 = .ok (.getfield 18, 3) := by decide +kernel
theorem dX3_execute_12 : decode cX3_execute 12 = .ok (.iload_n 2, 1) := by decide +kernel
theorem dX3_execute_13 : decode cX3_execute 13 = .ok (.iconst 0, 1) := by decide +kernel
theorem dX3_execute_14 : decode cX3_execute 14 = .ok (.iastore, 1) := by decide +kernel
theorem dX3_execute_15 : decode cX3_execute 15 = .ok (.iinc 2 1, 3) := by decide +kernel
theorem dX3_execute_18 : decode cX3_execute 18 = .ok (.goto (-16), 3) := by decide +kernel
theorem dX3_execute_21 : decode cX3_execute 21 = .ok (.iconst 0, 1) := by decide +kernel
theorem dX3_execute_22 : decode cX3_execute 22 = .ok (.istore_n 2, 1) := by decide +kernel
theorem dX3_execute_23 : decode cX3_execute 23 = .ok (.iconst 0, 1) := by decide +kernel
theorem dX3_execute_24 : decode cX3_execute 24 = .ok (.istore_n 3, 1) := by decide +kernel
theorem dX3_execute_25 : decode cX3_execute 25 = .ok (.iload_n 3, 1) := by decide +kernel
theorem dX3_execute_26 : decode cX3_execute 26 = .ok (.iload_n 1, 1) := by decide +kernel
theorem dX3_execute_27 : decode cX3_execute 27 = .ok (.if_icmp .ge 62, 3) := by decide +kernel
theorem dX3_execute_30 : decode cX3_execute 30 = .ok (.iload_n 3, 1) := by decide +kernel
theorem dX3_execute_31 : decode cX3_execute 31 = .ok (.sipush 500, 3) := by decide +kernel
theorem dX3_execute_34 : decode cX3_execute 34 = .ok (.if_icmp .ge 55, 3) := by decide +kernel
theorem dX3_execute_37 : decode cX3_execute 37 = .ok (.aload_n 0, 1) := by decide +kernel
theorem dX3_execute_38 : decode cX3_execute 38 = .ok (.getfield 21, 3) := by decide +kernel
theorem dX3_execute_41 : decode cX3_execute 41 = .ok (.iload_n 2, 1) := by decide +kernel
theorem dX3_execute_42 : decode cX3_execute 42 = .ok (.invokevirtual 25, 3) := by decide +kernel
theorem dX3_execute_45 : decode cX3_execute 45 = .ok (.ifCond .eq 44, 3) := by decide +kernel
theorem dX3_execute_48 : decode cX3_execute 48 = .ok (.aload_n 0, 1) := by decide +kernel
theorem dX3_execute_49 : decode cX3_execute 49 = .ok (.getfield 15, 3) := by decide +kernel
theorem dX3_execute_52 : decode cX3_execute 52 = .ok (.iload_n 3, 1) := by decide +kernel
theorem dX3_execute_53 : decode cX3_execute 53 = .ok (.iload_n 2, 1) := by decide +kernel
theorem dX3_execute_54 : decode cX3_execute 54 = .ok (.iastore, 1) := by decide +kernel
theorem dX3_execute_55 : decode cX3_execute 55 = .ok (.aload_n 0, 1) := by decide +kernel
theorem dX3_execute_56 : decode cX3_execute 56 = .ok (.getfield 21, 3) := by decide +kernel
theorem dX3_execute_59 : decode cX3_execute 59 = .ok (.getfield 31, 3) := by decide +kernel
theorem dX3_execute_62 : decode cX3_execute 62 = .ok (.iload_n 2, 1) := by decide +kernel
theorem dX3_execute_63 : decode cX3_execute 63 = .ok (.iaload, 1) := by decide +kernel
theorem dX3_execute_64 : decode cX3_execute 64 = .ok (.iconst 2, 1) := by decide +kernel
theorem dX3_execute_65 : decode cX3_execute 65 = .ok (.if_icmp .ne 12, 3) := by decide +kernel
theorem dX3_execute_68 : decode cX3_execute 68 = .ok (.aload_n 0, 1) := by decide +kernel
theorem dX3_execute_69 : decode cX3_execute 69 = .ok (.iload_n 3, 1) := by decide +kernel
theorem dX3_execute_70 : decode cX3_execute 70 = .ok (.iconst 1, 1) := by decide +kernel
theorem dX3_execute_71 : decode cX3_execute 71 = .ok (.iadd, 1) := by decide +kernel
theorem dX3_execute_72 : decode cX3_execute 72 = .ok (.invokevirtual 34, 3) := by decide +kernel
theorem dX3_execute_75 : decode cX3_execute 75 = .ok (.iconst 1, 1) := by decide +kernel
theorem dX3_execute_76 : decode cX3_execute 76 = .ok (.ireturn, 1) := by decide +kernel
theorem dX3_execute_77 : decode cX3_execute 77 = .ok (.aload_n 0, 1) := by decide +kernel
theorem dX3_execute_78 : decode cX3_execute 78 = .ok (.iload_n 2, 1) := by decide +kernel
theorem dX3_execute_79 : decode cX3_execute 79 = .ok (.invokevirtual 38, 3) := by decide +kernel
theorem dX3_execute_82 : decode cX3_execute 82 = .ok (.istore_n 2, 1) := by decide +kernel
theorem dX3_execute_83 : decode cX3_execute 83 = .ok (.iinc 3 1, 3) := by decide +kernel
theorem dX3_execute_86 : decode cX3_execute 86 = .ok (.goto (-61), 3) := by decide +kernel
theorem dX3_execute_89 : decode cX3_execute 89 = .ok (.iconst 0, 1) := by decide +kernel
theorem dX3_execute_90 : decode cX3_execute 90 = .ok (.ireturn, 1) := by decide +kernel
theorem dX3_follow_0 : decode cX3_follow 0 = .ok (.aload_n 0, 1) := by decide +kernel
theorem dX3_follow_1 : decode cX3_follow 1 = .ok (.getfield 18, 3) := by decide +kernel
theorem dX3_follow_4 : decode cX3_follow 4 = .ok (.iload_n 1, 1) := by decide +kernel
theorem dX3_follow_5 : decode cX3_follow 5 = .ok (.iaload, 1) := by decide +kernel
theorem dX3_follow_6 : decode cX3_follow 6 = .ok (.istore_n 2, 1) := by decide +kernel
theorem dX3_follow_7 : decode cX3_follow 7 = .ok (.aload_n 0, 1) := by decide +kernel
theorem dX3_follow_8 : decode cX3_follow 8 = .ok (.getfield 18, 3) := by decide +kernel
theorem dX3_follow_11 : decode cX3_follow 11 = .ok (.iload_n 1, 1) := by decide +kernel
theorem dX3_follow_12 : decode cX3_follow 12 = .ok (.iload_n 2, 1) := by decide +kernel
theorem dX3_follow_13 : decode cX3_follow 13 = .ok (.iconst 1, 1) := by decide +kernel
theorem dX3_follow_14 : decode cX3_follow 14 = .ok (.iadd, 1) := by decide +kernel
theorem dX3_follow_15 : decode cX3_follow 15 = .ok (.iastore, 1) := by decide +kernel
theorem dX3_follow_16 : decode cX3_follow 16 = .ok (.aload_n 0, 1) := by decide +kernel
theorem dX3_follow_17 : decode cX3_follow 17 = .ok (.getfield 21, 3) := by decide +kernel
theorem dX3_follow_20 : decode cX3_follow 20 = .ok (.getfield 42, 3) := by decide +kernel
theorem dX3_follow_23 : decode cX3_follow 23 = .ok (.iload_n 1, 1) := by decide +kernel
theorem dX3_follow_24 : decode cX3_follow 24 = .ok (.iaload, 1) := by decide +kernel
theorem dX3_follow_25 : decode cX3_follow 25 = .ok (.iload_n 2, 1) := by decide +kernel
theorem dX3_follow_26 : decode cX3_follow 26 = .ok (.bipush 31, 2) := by decide +kernel
theorem dX3_follow_28 : decode cX3_follow 28 = .ok (.iand, 1) := by decide +kernel
theorem dX3_follow_29 : decode cX3_follow 29 = .ok (.ishr, 1) := by decide +kernel
theorem dX3_follow_30 : decode cX3_follow 30 = .ok (.iconst 1, 1) := by decide +kernel
theorem dX3_follow_31 : decode cX3_follow 31 = .ok (.iand, 1) := by decide +kernel
theorem dX3_follow_32 : decode cX3_follow 32 = .ok (.iconst 1, 1) := by decide +kernel
theorem dX3_follow_33 : decode cX3_follow 33 = .ok (.if_icmp .ne 7, 3) := by decide +kernel
theorem dX3_follow_36 : decode cX3_follow 36 = .ok (.iconst 1, 1) := by decide +kernel
theorem dX3_follow_37 : decode cX3_follow 37 = .ok (.goto 4, 3) := by decide +kernel
theorem dX3_follow_40 : decode cX3_follow 40 = .ok (.iconst 0, 1) := by decide +kernel
theorem dX3_follow_41 : decode cX3_follow 41 = .ok (.istore_n 3, 1) := by decide +kernel
theorem dX3_follow_42 : decode cX3_follow 42 = .ok (.aload_n 0, 1) := by decide +kernel
theorem dX3_follow_43 : decode cX3_follow 43 = .ok (.getfield 21, 3) := by decide +kernel
theorem dX3_follow_46 : decode cX3_follow 46 = .ok (.getfield 31, 3) := by decide +kernel
theorem dX3_follow_49 : decode cX3_follow 49 = .ok (.iload_n 1, 1) := by decide +kernel
theorem dX3_follow_50 : decode cX3_follow 50 = .ok (.iaload, 1) := by decide +kernel
theorem dX3_follow_51 : decode cX3_follow 51 = .ok (.iconst 1, 1) := by decide +kernel
theorem dX3_follow_52 : decode cX3_follow 52 = .ok (.if_icmp .ne 17, 3) := by decide +kernel
theorem dX3_follow_55 : decode cX3_follow 55 = .ok (.iload_n 3, 1) := by decide +kernel
theorem dX3_follow_56 : decode cX3_follow 56 = .ok (.ifCond .ne 13, 3) := by decide +kernel
theorem dX3_follow_59 : decode cX3_follow 59 = .ok (.aload_n 0, 1) := by decide +kernel
theorem dX3_follow_60 : decode cX3_follow 60 = .ok (.getfield 21, 3) := by decide +kernel
theorem dX3_follow_63 : decode cX3_follow 63 = .ok (.getfield 45, 3) := by decide +kernel
theorem dX3_follow_66 : decode cX3_follow 66 = .ok (.iload_n 1, 1) := by decide +kernel
theorem dX3_follow_67 : decode cX3_follow 67 = .ok (.iaload, 1) := by decide +kernel
theorem dX3_follow_68 : decode cX3_follow 68 = .ok (.ireturn, 1) := by decide +kernel
theorem dX3_follow_69 : decode cX3_follow 69 = .ok (.aload_n 0, 1) := by decide +kernel
theorem dX3_follow_70 : decode cX3_follow 70 = .ok (.getfield 21, 3) := by decide +kernel
theorem dX3_follow_73 : decode cX3_follow 73 = .ok (.getfield 48, 3) := by decide +kernel
theorem dX3_follow_76 : decode cX3_follow 76 = .ok (.iload_n 1, 1) := by decide +kernel
theorem dX3_follow_77 : decode cX3_follow 77 = .ok (.iaload, 1) := by decide +kernel
theorem dX3_follow_78 : decode cX3_follow 78 = .ok (.ireturn, 1) := by decide +kernel
theorem dX3_keepPath_0 : decode cX3_keepPath 0 = .ok (.aload_n 0, 1) := by decide +kernel
theorem dX3_keepPath_1 : decode cX3_keepPath 1 = .ok (.getfield 9, 3) := by decide +kernel
theorem dX3_keepPath_4 : decode cX3_keepPath 4 = .ok (.astore_n 2, 1) := by decide +kernel
theorem dX3_keepPath_5 : decode cX3_keepPath 5 = .ok (.aload_n 0, 1) := by decide +kernel
theorem dX3_keepPath_6 : decode cX3_keepPath 6 = .ok (.aload_n 0, 1) := by decide +kernel
theorem dX3_keepPath_7 : decode cX3_keepPath 7 = .ok (.getfield 15, 3) := by decide +kernel
theorem dX3_keepPath_10 : decode cX3_keepPath 10 = .ok (.putfield 9, 3) := by decide +kernel
theorem dX3_keepPath_13 : decode cX3_keepPath 13 = .ok (.aload_n 0, 1) := by decide +kernel
theorem dX3_keepPath_14 : decode cX3_keepPath 14 = .ok (.aload_n 2, 1) := by decide +kernel
theorem dX3_keepPath_15 : decode cX3_keepPath 15 = .ok (.putfield 15, 3) := by decide +kernel
theorem dX3_keepPath_18 : decode cX3_keepPath 18 = .ok (.aload_n 0, 1) := by decide +kernel
theorem dX3_keepPath_19 : decode cX3_keepPath 19 = .ok (.iload_n 1, 1) := by decide +kernel
theorem dX3_keepPath_20 : decode cX3_keepPath 20 = .ok (.putfield 51, 3) := by decide +kernel
theorem dX3_keepPath_23 : decode cX3_keepPath 23 = .ok (.return_, 1) := by decide +kernel
theorem dX3_addToProfile_0 : decode cX3_addToProfile 0 = .ok (.iconst 0, 1) := by decide +kernel
theorem dX3_addToProfile_1 : decode cX3_addToProfile 1 = .ok (.istore_n 1, 1) := by decide +kernel
theorem dX3_addToProfile_2 : decode cX3_addToProfile 2 = .ok (.iload_n 1, 1) := by decide +kernel
theorem dX3_addToProfile_3 : decode cX3_addToProfile 3 = .ok (.aload_n 0, 1) := by decide +kernel
theorem dX3_addToProfile_4 : decode cX3_addToProfile 4 = .ok (.getfield 51, 3) := by decide +kernel
theorem dX3_addToProfile_7 : decode cX3_addToProfile 7 = .ok (.if_icmp .ge 52, 3) := by decide +kernel
theorem dX3_addToProfile_10 : decode cX3_addToProfile 10 = .ok (.aload_n 0, 1) := by decide +kernel
theorem dX3_addToProfile_11 : decode cX3_addToProfile 11 = .ok (.getfield 9, 3) := by decide +kernel
theorem dX3_addToProfile_14 : decode cX3_addToProfile 14 = .ok (.iload_n 1, 1) := by decide +kernel
theorem dX3_addToProfile_15 : decode cX3_addToProfile 15 = .ok (.iaload, 1) := by decide +kernel
theorem dX3_addToProfile_16 : decode cX3_addToProfile 16 = .ok (.istore_n 2, 1) := by decide +kernel
theorem dX3_addToProfile_17 : decode cX3_addToProfile 17 = .ok (.aload_n 0, 1) := by decide +kernel
theorem dX3_addToProfile_18 : decode cX3_addToProfile 18 = .ok (.getfield 21, 3) := by decide +kernel
theorem dX3_addToProfile_21 : decode cX3_addToProfile 21 = .ok (.getfield 55, 3) := by decide +kernel
theorem dX3_addToProfile_24 : decode cX3_addToProfile 24 = .ok (.iload_n 2, 1) := by decide +kernel
theorem dX3_addToProfile_25 : decode cX3_addToProfile 25 = .ok (.dup2, 1) := by decide +kernel
theorem dX3_addToProfile_26 : decode cX3_addToProfile 26 = .ok (.iaload, 1) := by decide +kernel
theorem dX3_addToProfile_27 : decode cX3_addToProfile 27 = .ok (.iconst 1, 1) := by decide +kernel
theorem dX3_addToProfile_28 : decode cX3_addToProfile 28 = .ok (.iadd, 1) := by decide +kernel
theorem dX3_addToProfile_29 : decode cX3_addToProfile 29 = .ok (.iastore, 1) := by decide +kernel
theorem dX3_addToProfile_30 : decode cX3_addToProfile 30 = .ok (.iload_n 1, 1) := by decide +kernel
theorem dX3_addToProfile_31 : decode cX3_addToProfile 31 = .ok (.iconst 1, 1) := by decide +kernel
theorem dX3_addToProfile_32 : decode cX3_addToProfile 32 = .ok (.iadd, 1) := by decide +kernel
theorem dX3_addToProfile_33 : decode cX3_addToProfile 33 = .ok (.aload_n 0, 1) := by decide +kernel
theorem dX3_addToProfile_34 : decode cX3_addToProfile 34 = .ok (.getfield 51, 3) := by decide +kernel
theorem dX3_addToProfile_37 : decode cX3_addToProfile 37 = .ok (.if_icmp .ge 16, 3) := by decide +kernel
theorem dX3_addToProfile_40 : decode cX3_addToProfile 40 = .ok (.aload_n 0, 1) := by decide +kernel
theorem dX3_addToProfile_41 : decode cX3_addToProfile 41 = .ok (.iload_n 2, 1) := by decide +kernel
theorem dX3_addToProfile_42 : decode cX3_addToProfile 42 = .ok (.aload_n 0, 1) := by decide +kernel
theorem dX3_addToProfile_43 : decode cX3_addToProfile 43 = .ok (.getfield 9, 3) := by decide +kernel
theorem dX3_addToProfile_46 : decode cX3_addToProfile 46 = .ok (.iload_n 1, 1) := by decide +kernel
theorem dX3_addToProfile_47 : decode cX3_addToProfile 47 = .ok (.iconst 1, 1) := by decide +kernel
theorem dX3_addToProfile_48 : decode cX3_addToProfile 48 = .ok (.iadd, 1) := by decide +kernel
theorem dX3_addToProfile_49 : decode cX3_addToProfile 49 = .ok (.iaload, 1) := by decide +kernel
theorem dX3_addToProfile_50 : decode cX3_addToProfile 50 = .ok (.invokevirtual 58, 3) := by decide +kernel
theorem dX3_addToProfile_53 : decode cX3_addToProfile 53 = .ok (.iinc 1 1, 3) := by decide +kernel
theorem dX3_addToProfile_56 : decode cX3_addToProfile 56 = .ok (.goto (-54), 3) := by decide +kernel
theorem dX3_addToProfile_59 : decode cX3_addToProfile 59 = .ok (.return_, 1) := by decide +kernel
theorem dX3_addToEdge_0 : decode cX3_addToEdge 0 = .ok (.aload_n 0, 1) := by decide +kernel
theorem dX3_addToEdge_1 : decode cX3_addToEdge 1 = .ok (.getfield 21, 3) := by decide +kernel
theorem dX3_addToEdge_4 : decode cX3_addToEdge 4 = .ok (.getfield 48, 3) := by decide +kernel
theorem dX3_addToEdge_7 : decode cX3_addToEdge 7 = .ok (.iload_n 1, 1) := by decide +kernel
theorem dX3_addToEdge_8 : decode cX3_addToEdge 8 = .ok (.iaload, 1) := by decide +kernel
theorem dX3_addToEdge_9 : decode cX3_addToEdge 9 = .ok (.iload_n 2, 1) := by decide +kernel
theorem dX3_addToEdge_10 : decode cX3_addToEdge 10 = .ok (.if_icmp .ne 19, 3) := by decide +kernel
theorem dX3_addToEdge_13 : decode cX3_addToEdge 13 = .ok (.aload_n 0, 1) := by decide +kernel
theorem dX3_addToEdge_14 : decode cX3_addToEdge 14 = .ok (.getfield 21, 3) := by decide +kernel
theorem dX3_addToEdge_17 : decode cX3_addToEdge 17 = .ok (.getfield 62, 3) := by decide +kernel
theorem dX3_addToEdge_20 : decode cX3_addToEdge 20 = .ok (.iload_n 1, 1) := by decide +kernel
theorem dX3_addToEdge_21 : decode cX3_addToEdge 21 = .ok (.dup2, 1) := by decide +kernel
theorem dX3_addToEdge_22 : decode cX3_addToEdge 22 = .ok (.iaload, 1) := by decide +kernel
theorem dX3_addToEdge_23 : decode cX3_addToEdge 23 = .ok (.iconst 1, 1) := by decide +kernel
theorem dX3_addToEdge_24 : decode cX3_addToEdge 24 = .ok (.iadd, 1) := by decide +kernel
theorem dX3_addToEdge_25 : decode cX3_addToEdge 25 = .ok (.iastore, 1) := by decide +kernel
theorem dX3_addToEdge_26 : decode cX3_addToEdge 26 = .ok (.goto 16, 3) := by decide +kernel
theorem dX3_addToEdge_29 : decode cX3_addToEdge 29 = .ok (.aload_n 0, 1) := by decide +kernel
theorem dX3_addToEdge_30 : decode cX3_addToEdge 30 = .ok (.getfield 21, 3) := by decide +kernel
theorem dX3_addToEdge_33 : decode cX3_addToEdge 33 = .ok (.getfield 65, 3) := by decide +kernel
theorem dX3_addToEdge_36 : decode cX3_addToEdge 36 = .ok (.iload_n 1, 1) := by decide +kernel
theorem dX3_addToEdge_37 : decode cX3_addToEdge 37 = .ok (.dup2, 1) := by decide +kernel
theorem dX3_addToEdge_38 : decode cX3_addToEdge 38 = .ok (.iaload, 1) := by decide +kernel
theorem dX3_addToEdge_39 : decode cX3_addToEdge 39 = .ok (.iconst 1, 1) := by decide +kernel
theorem dX3_addToEdge_40 : decode cX3_addToEdge 40 = .ok (.iadd, 1) := by decide +kernel
theorem dX3_addToEdge_41 : decode cX3_addToEdge 41 = .ok (.iastore, 1) := by decide +kernel
theorem dX3_addToEdge_42 : decode cX3_addToEdge 42 = .ok (.return_, 1) := by decide +kernel
theorem dX4_init_0 : decode cX4_init 0 = .ok (.aload_n 0, 1) := by decide +kernel
theorem dX4_init_1 : decode cX4_init 1 = .ok (.invokespecial 3, 3) := by decide +kernel
theorem dX4_init_4 : decode cX4_init 4 = .ok (.aload_n 0, 1) := by decide +kernel
theorem dX4_init_5 : decode cX4_init 5 = .ok (.bipush 16, 2) := by decide +kernel
theorem dX4_init_7 : decode cX4_init 7 = .ok (.newarray .int, 2) := by decide +kernel
theorem dX4_init_9 : decode cX4_init 9 = .ok (.putfield 9, 3) := by decide +kernel
theorem dX4_init_12 : decode cX4_init 12 = .ok (.aload_n 0, 1) := by decide +kernel
theorem dX4_init_13 : decode cX4_init 13 = .ok (.bipush 16, 2) := by decide +kernel
theorem dX4_init_15 : decode cX4_init 15 = .ok (.newarray .int, 2) := by decide +kernel
theorem dX4_init_17 : decode cX4_init 17 = .ok (.putfield 15, 3) := by decide +kernel
theorem dX4_init_20 : decode cX4_init 20 = .ok (.aload_n 0, 1) := by decide +kernel
theorem dX4_init_21 : decode cX4_init 21 = .ok (.bipush 16, 2) := by decide +kernel
theorem dX4_init_23 : decode cX4_init 23 = .ok (.newarray .int, 2) := by decide +kernel
theorem dX4_init_25 : decode cX4_init 25 = .ok (.putfield 18, 3) := by decide +kernel
theorem dX4_init_28 : decode cX4_init 28 = .ok (.aload_n 0, 1) := by decide +kernel
theorem dX4_init_29 : decode cX4_init 29 = .ok (.bipush 16, 2) := by decide +kernel
theorem dX4_init_31 : decode cX4_init 31 = .ok (.newarray .int, 2) := by decide +kernel
theorem dX4_init_33 : decode cX4_init 33 = .ok (.putfield 21, 3) := by decide +kernel
theorem dX4_init_36 : decode cX4_init 36 = .ok (.aload_n 0, 1) := by decide +kernel
theorem dX4_init_37 : decode cX4_init 37 = .ok (.bipush 16, 2) := by decide +kernel
theorem dX4_init_39 : decode cX4_init 39 = .ok (.newarray .int, 2) := by decide +kernel
theorem dX4_init_41 : decode cX4_init 41 = .ok (.putfield 24, 3) := by decide +kernel
theorem dX4_init_44 : decode cX4_init 44 = .ok (.aload_n 0, 1) := by decide +kernel
theorem dX4_init_45 : decode cX4_init 45 = .ok (.bipush 16, 2) := by decide +kernel
theorem dX4_init_47 : decode cX4_init 47 = .ok (.newarray .int, 2) := by decide +kernel
theorem dX4_init_49 : decode cX4_init 49 = .ok (.putfield 27, 3) := by decide +kernel
theorem dX4_init_52 : decode cX4_init 52 = .ok (.aload_n 0, 1) := by decide +kernel
theorem dX4_init_53 : decode cX4_init 53 = .ok (.bipush 16, 2) := by decide +kernel
theorem dX4_init_55 : decode cX4_init 55 = .ok (.newarray .int, 2) := by decide +kernel
theorem dX4_init_57 : decode cX4_init 57 = .ok (.putfield 30, 3) := by decide +kernel
theorem dX4_init_60 : decode cX4_init 60 = .ok (.aload_n 0, 1) := by decide +kernel
theorem dX4_init_61 : decode cX4_init 61 = .ok (.aload_n 1, 1) := by decide +kernel
theorem dX4_init_62 : decode cX4_init 62 = .ok (.putfield 33, 3) := by decide +kernel
theorem dX4_init_65 : decode cX4_init 65 = .ok (.aload_n 0, 1) := by decide +kernel
theorem dX4_init_66 : decode cX4_init 66 = .ok (.aload_n 2, 1) := by decide +kernel
theorem dX4_init_67 : decode cX4_init 67 = .ok (.putfield 37, 3) := by decide +kernel
theorem dX4_init_70 : decode cX4_init 70 = .ok (.return_, 1) := by decide +kernel
theorem dX4_settle_0 : decode cX4_settle 0 = .ok (.aload_n 0, 1) := by decide +kernel
theorem dX4_settle_1 : decode cX4_settle 1 = .ok (.invokevirtual 41, 3) := by decide +kernel
theorem dX4_settle_4 : decode cX4_settle 4 = .ok (.aload_n 0, 1) := by decide +kernel
theorem dX4_settle_5 : decode cX4_settle 5 = .ok (.iload_n 1, 1) := by decide +kernel
theorem dX4_settle_6 : decode cX4_settle 6 = .ok (.iload_n 2, 1) := by decide +kernel
theorem dX4_settle_7 : decode cX4_settle 7 = .ok (.invokevirtual 44, 3) := by decide +kernel
theorem dX4_settle_10 : decode cX4_settle 10 = .ok (.aload_n 0, 1) := by decide +kernel
theorem dX4_settle_11 : decode cX4_settle 11 = .ok (.invokevirtual 48, 3) := by decide +kernel
theorem dX4_settle_14 : decode cX4_settle 14 = .ok (.istore_n 3, 1) := by decide +kernel
theorem dX4_settle_15 : decode cX4_settle 15 = .ok (.iconst 0, 1) := by decide +kernel
theorem dX4_settle_16 : decode cX4_settle 16 = .ok (.istore 4, 2) := by decide +kernel
theorem dX4_settle_18 : decode cX4_settle 18 = .ok (.iload 4, 2) := by decide +kernel
theorem dX4_settle_20 : decode cX4_settle 20 = .ok (.bipush 32, 2) := by decide +kernel
theorem dX4_settle_22 : decode cX4_settle 22 = .ok (.if_icmp .ge 24, 3) := by decide +kernel
theorem dX4_settle_25 : decode cX4_settle 25 = .ok (.iload_n 3, 1) := by decide +kernel
theorem dX4_settle_26 : decode cX4_settle 26 = .ok (.ifCond .eq 20, 3) := by decide +kernel
theorem dX4_settle_29 : decode cX4_settle 29 = .ok (.aload_n 0, 1) := by decide +kernel
theorem dX4_settle_30 : decode cX4_settle 30 = .ok (.iload_n 1, 1) := by decide +kernel
theorem dX4_settle_31 : decode cX4_settle 31 = .ok (.iload_n 2, 1) := by decide +kernel
theorem dX4_settle_32 : decode cX4_settle 32 = .ok (.invokevirtual 44, 3) := by decide +kernel
theorem dX4_settle_35 : decode cX4_settle 35 = .ok (.aload_n 0, 1) := by decide +kernel
theorem dX4_settle_36 : decode cX4_settle 36 = .ok (.invokevirtual 48, 3) := by decide +kernel
theorem dX4_settle_39 : decode cX4_settle 39 = .ok (.istore_n 3, 1) := by decide +kernel
theorem dX4_settle_40 : decode cX4_settle 40 = .ok (.iinc 4 1, 3) := by decide +kernel
theorem dX4_settle_43 : decode cX4_settle 43 = .ok (.goto (-25), 3) := by decide +kernel
theorem dX4_settle_46 : decode cX4_settle 46 = .ok (.return_, 1) := by decide +kernel
theorem dX4_findForms_0 : decode cX4_findForms 0 = .ok (.iconst 0, 1) := by decide +kernel
theorem dX4_findForms_1 : decode cX4_findForms 1 = .ok (.istore_n 1, 1) := by decide +kernel
theorem dX4_findForms_2 : decode cX4_findForms 2 = .ok (.iload_n 1, 1) := by decide +kernel
theorem dX4_findForms_3 : decode cX4_findForms 3 = .ok (.aload_n 0, 1) := by decide +kernel
theorem dX4_findForms_4 : decode cX4_findForms 4 = .ok (.getfield 33, 3) := by decide +kernel
theorem dX4_findForms_7 : decode cX4_findForms 7 = .ok (.getfield 52, 3) := by decide +kernel
theorem dX4_findForms_10 : decode cX4_findForms 10 = .ok (.if_icmp .ge 138, 3) := by decide +kernel
theorem dX4_findForms_13 : decode cX4_findForms 13 = .ok (.aload_n 0, 1) := by decide +kernel
theorem dX4_findForms_14 : decode cX4_findForms 14 = .ok (.getfield 37, 3) := by decide +kernel
theorem dX4_findForms_17 : decode cX4_findForms 17 = .ok (.getfield 58, 3) := by decide +kernel
theorem dX4_findForms_20 : decode cX4_findForms 20 = .ok (.iload_n 1, 1) := by decide +kernel
theorem dX4_findForms_21 : decode cX4_findForms 21 = .ok (.iaload, 1) := by decide +kernel
theorem dX4_findForms_22 : decode cX4_findForms 22 = .ok (.istore_n 2, 1) := by decide +kernel
theorem dX4_findForms_23 : decode cX4_findForms 23 = .ok (.iload_n 1, 1) := by decide +kernel
theorem dX4_findForms_24 : decode cX4_findForms 24 = .ok (.iconst 1, 1) := by decide +kernel
theorem dX4_findForms_25 : decode cX4_findForms 25 = .ok (.iadd, 1) := by decide +kernel
theorem dX4_findForms_26 : decode cX4_findForms 26 = .ok (.aload_n 0, 1) := by decide +kernel
theorem dX4_findForms_27 : decode cX4_findForms 27 = .ok (.getfield 33, 3) := by decide +kernel
theorem dX4_findForms_30 : decode cX4_findForms 30 = .ok (.getfield 52, 3) := by decide +kernel
theorem dX4_findForms_33 : decode cX4_findForms 33 = .ok (.if_icmp .eq 16, 3) := by decide +kernel
theorem dX4_findForms_36 : decode cX4_findForms 36 = .ok (.iload_n 1, 1) := by decide +kernel
theorem dX4_findForms_37 : decode cX4_findForms 37 = .ok (.iconst 1, 1) := by decide +kernel
theorem dX4_findForms_38 : decode cX4_findForms 38 = .ok (.iadd, 1) := by decide +kernel
theorem dX4_findForms_39 : decode cX4_findForms 39 = .ok (.aload_n 0, 1) := by decide +kernel
theorem dX4_findForms_40 : decode cX4_findForms 40 = .ok (.getfield 37, 3) := by decide +kernel
theorem dX4_findForms_43 : decode cX4_findForms 43 = .ok (.getfield 63, 3) := by decide +kernel
theorem dX4_findForms_46 : decode cX4_findForms 46 = .ok (.if_icmp .ne 7, 3) := by decide +kernel
theorem dX4_findForms_49 : decode cX4_findForms 49 = .ok (.iconst 1, 1) := by decide +kernel
theorem dX4_findForms_50 : decode cX4_findForms 50 = .ok (.goto 4, 3) := by decide +kernel
theorem dX4_findForms_53 : decode cX4_findForms 53 = .ok (.iconst 0, 1) := by decide +kernel
theorem dX4_findForms_54 : decode cX4_findForms 54 = .ok (.istore_n 3, 1) := by decide +kernel
theorem dX4_findForms_55 : decode cX4_findForms 55 = .ok (.aload_n 0, 1) := by decide +kernel
theorem dX4_findForms_56 : decode cX4_findForms 56 = .ok (.getfield 9, 3) := by decide +kernel
theorem dX4_findForms_59 : decode cX4_findForms 59 = .ok (.iload_n 2, 1) := by decide +kernel
theorem dX4_findForms_60 : decode cX4_findForms 60 = .ok (.iload_n 1, 1) := by decide +kernel
theorem dX4_findForms_61 : decode cX4_findForms 61 = .ok (.iastore, 1) := by decide +kernel
theorem dX4_findForms_62 : decode cX4_findForms 62 = .ok (.aload_n 0, 1) := by decide +kernel
theorem dX4_findForms_63 : decode cX4_findForms 63 = .ok (.getfield 15, 3) := by decide +kernel
theorem dX4_findForms_66 : decode cX4_findForms 66 = .ok (.iload_n 2, 1) := by decide +kernel
theorem dX4_findForms_67 : decode cX4_findForms 67 = .ok (.iload_n 3, 1) := by decide +kernel
theorem dX4_findForms_68 : decode cX4_findForms 68 = .ok (.ifCond .eq 7, 3) := by decide +kernel
theorem dX4_findForms_71 : decode cX4_findForms 71 = .ok (.iconst (-1), 1) := by decide +kernel
theorem dX4_findForms_72 : decode cX4_findForms 72 = .ok (.goto 14, 3) := by decide +kernel
theorem dX4_findForms_75 : decode cX4_findForms 75 = .ok (.aload_n 0, 1) := by decide +kernel
theorem dX4_findForms_76 : decode cX4_findForms 76 = .ok (.getfield 37, 3) := by decide +kernel
theorem dX4_findForms_79 : decode cX4_findForms 79 = .ok (.getfield 58, 3) := by decide +kernel
theorem dX4_findForms_82 : decode cX4_findForms 82 = .ok (.iload_n 1, 1) := by decide +kernel
theorem dX4_findForms_83 : decode cX4_findForms 83 = .ok (.iconst 1, 1) := by decide +kernel
theorem dX4_findForms_84 : decode cX4_findForms 84 = .ok (.iadd, 1) := by decide +kernel
theorem dX4_findForms_85 : decode cX4_findForms 85 = .ok (.iaload, 1) := by decide +kernel
theorem dX4_findForms_86 : decode cX4_findForms 86 = .ok (.iastore, 1) := by decide +kernel
theorem dX4_findForms_87 : decode cX4_findForms 87 = .ok (.aload_n 0, 1) := by decide +kernel
theorem dX4_findForms_88 : decode cX4_findForms 88 = .ok (.getfield 18, 3) := by decide +kernel
theorem dX4_findForms_91 : decode cX4_findForms 91 = .ok (.iload_n 2, 1) := by decide +kernel
theorem dX4_findForms_92 : decode cX4_findForms 92 = .ok (.aload_n 0, 1) := by decide +kernel
theorem dX4_findForms_93 : decode cX4_findForms 93 = .ok (.iload_n 2, 1) := by decide +kernel
theorem dX4_findForms_94 : decode cX4_findForms 94 = .ok (.aload_n 0, 1) := by decide +kernel
theorem dX4_findForms_95 : decode cX4_findForms 95 = .ok (.getfield 15, 3) := by decide +kernel
theorem dX4_findForms_98 : decode cX4_findForms 98 = .ok (.iload_n 2, 1) := by decide +kernel
theorem dX4_findForms_99 : decode cX4_findForms 99 = .ok (.iaload, 1) := by decide +kernel
theorem dX4_findForms_100 : decode cX4_findForms 100 = .ok (.invokevirtual 66, 3) := by decide +kernel
theorem dX4_findForms_103 : decode cX4_findForms 103 = .ok (.iastore, 1) := by decide +kernel
theorem dX4_findForms_104 : decode cX4_findForms 104 = .ok (.aload_n 0, 1) := by decide +kernel
theorem dX4_findForms_105 : decode cX4_findForms 105 = .ok (.getfield 21, 3) := by decide +kernel
theorem dX4_findForms_108 : decode cX4_findForms 108 = .ok (.iload_n 2, 1) := by decide +kernel
theorem dX4_findForms_109 : decode cX4_findForms 109 = .ok (.aload_n 0, 1) := by decide +kernel
theorem dX4_findForms_110 : decode cX4_findForms 110 = .ok (.iload_n 2, 1) := by decide +kernel
theorem dX4_findForms_111 : decode cX4_findForms 111 = .ok (.invokevirtual 70, 3) := by decide +kernel
theorem dX4_findForms_114 : decode cX4_findForms 114 = .ok (.ifCond .eq 7, 3) := by decide +kernel
theorem dX4_findForms_117 : decode cX4_findForms 117 = .ok (.iconst 2, 1) := by decide +kernel
theorem dX4_findForms_118 : decode cX4_findForms 118 = .ok (.goto 4, 3) := by decide +kernel
theorem dX4_findForms_121 : decode cX4_findForms 121 = .ok (.iconst 0, 1) := by decide +kernel
theorem dX4_findForms_122 : decode cX4_findForms 122 = .ok (.iastore, 1) := by decide +kernel
theorem dX4_findForms_123 : decode cX4_findForms 123 = .ok (.aload_n 0, 1) := by decide +kernel
theorem dX4_findForms_124 : decode cX4_findForms 124 = .ok (.getfield 24, 3) := by decide +kernel
theorem dX4_findForms_127 : decode cX4_findForms 127 = .ok (.iload_n 2, 1) := by decide +kernel
theorem dX4_findForms_128 : decode cX4_findForms 128 = .ok (.aload_n 0, 1) := by decide +kernel
theorem dX4_findForms_129 : decode cX4_findForms 129 = .ok (.iload_n 2, 1) := by decide +kernel
theorem dX4_findForms_130 : decode cX4_findForms 130 = .ok (.invokevirtual 74, 3) := by decide +kernel
theorem dX4_findForms_133 : decode cX4_findForms 133 = .ok (.ifCond .eq 7, 3) := by decide +kernel
theorem dX4_findForms_136 : decode cX4_findForms 136 = .ok (.iconst 2, 1) := by decide +kernel
theorem dX4_findForms_137 : decode cX4_findForms 137 = .ok (.goto 4, 3) := by decide +kernel
theorem dX4_findForms_140 : decode cX4_findForms 140 = .ok (.iconst 0, 1) := by decide +kernel
theorem dX4_findForms_141 : decode cX4_findForms 141 = .ok (.iastore, 1) := by decide +kernel
theorem dX4_findForms_142 : decode cX4_findForms 142 = .ok (.iinc 1 1, 3) := by decide +kernel
theorem dX4_findForms_145 : decode cX4_findForms 145 = .ok (.goto (-143), 3) := by decide +kernel
theorem dX4_findForms_148 : decode cX4_findForms 148 = .ok (.return_, 1) := by decide +kernel
theorem dX4_formOf_0 : decode cX4_formOf 0 = .ok (.aload_n 0, 1) := by decide +kernel
theorem dX4_formOf_1 : decode cX4_formOf 1 = .ok (.getfield 33, 3) := by decide +kernel
theorem dX4_formOf_4 : decode cX4_formOf 4 = .ok (.getfield 77, 3) := by decide +kernel
theorem dX4_formOf_7 : decode cX4_formOf 7 = .ok (.iload_n 1, 1) := by decide +kernel
theorem dX4_formOf_8 : decode cX4_formOf 8 = .ok (.iaload, 1) := by decide +kernel
theorem dX4_formOf_9 : decode cX4_formOf 9 = .ok (.istore_n 3, 1) := by decide +kernel
theorem dX4_formOf_10 : decode cX4_formOf 10 = .ok (.iload_n 3, 1) := by decide +kernel
theorem dX4_formOf_11 : decode cX4_formOf 11 = .ok (.iconst 2, 1) := by decide +kernel
theorem dX4_formOf_12 : decode cX4_formOf 12 = .ok (.if_icmp .ne 5, 3) := by decide +kernel
theorem dX4_formOf_15 : decode cX4_formOf 15 = .ok (.iconst 5, 1) := by decide +kernel
theorem dX4_formOf_16 : decode cX4_formOf 16 = .ok (.ireturn, 1) := by decide +kernel
theorem dX4_formOf_17 : decode cX4_formOf 17 = .ok (.iload_n 3, 1) := by decide +kernel
theorem dX4_formOf_18 : decode cX4_formOf 18 = .ok (.ifCond .ne 22, 3) := by decide +kernel
theorem dX4_formOf_21 : decode cX4_formOf 21 = .ok (.aload_n 0, 1) := by decide +kernel
theorem dX4_formOf_22 : decode cX4_formOf 22 = .ok (.getfield 33, 3) := by decide +kernel
theorem dX4_formOf_25 : decode cX4_formOf 25 = .ok (.getfield 80, 3) := by decide +kernel
theorem dX4_formOf_28 : decode cX4_formOf 28 = .ok (.iload_n 1, 1) := by decide +kernel
theorem dX4_formOf_29 : decode cX4_formOf 29 = .ok (.iaload, 1) := by decide +kernel
theorem dX4_formOf_30 : decode cX4_formOf 30 = .ok (.iload_n 2, 1) := by decide +kernel
theorem dX4_formOf_31 : decode cX4_formOf 31 = .ok (.if_icmp .ne 7, 3) := by decide +kernel
theorem dX4_formOf_34 : decode cX4_formOf 34 = .ok (.iconst 0, 1) := by decide +kernel
theorem dX4_formOf_35 : decode cX4_formOf 35 = .ok (.goto 4, 3) := by decide +kernel
theorem dX4_formOf_38 : decode cX4_formOf 38 = .ok (.iconst 1, 1) := by decide +kernel
theorem dX4_formOf_39 : decode cX4_formOf 39 = .ok (.ireturn, 1) := by decide +kernel
theorem dX4_formOf_40 : decode cX4_formOf 40 = .ok (.aload_n 0, 1) := by decide +kernel
theorem dX4_formOf_41 : decode cX4_formOf 41 = .ok (.getfield 33, 3) := by decide +kernel
theorem dX4_formOf_44 : decode cX4_formOf 44 = .ok (.getfield 83, 3) := by decide +kernel
theorem dX4_formOf_47 : decode cX4_formOf 47 = .ok (.iload_n 1, 1) := by decide +kernel
theorem dX4_formOf_48 : decode cX4_formOf 48 = .ok (.iaload, 1) := by decide +kernel
theorem dX4_formOf_49 : decode cX4_formOf 49 = .ok (.iload_n 2, 1) := by decide +kernel
theorem dX4_formOf_50 : decode cX4_formOf 50 = .ok (.if_icmp .ne 5, 3) := by decide +kernel
theorem dX4_formOf_53 : decode cX4_formOf 53 = .ok (.iconst 2, 1) := by decide +kernel
theorem dX4_formOf_54 : decode cX4_formOf 54 = .ok (.ireturn, 1) := by decide +kernel
theorem dX4_formOf_55 : decode cX4_formOf 55 = .ok (.aload_n 0, 1) := by decide +kernel
theorem dX4_formOf_56 : decode cX4_formOf 56 = .ok (.getfield 33, 3) := by decide +kernel
theorem dX4_formOf_59 : decode cX4_formOf 59 = .ok (.getfield 80, 3) := by decide +kernel
theorem dX4_formOf_62 : decode cX4_formOf 62 = .ok (.iload_n 1, 1) := by decide +kernel
theorem dX4_formOf_63 : decode cX4_formOf 63 = .ok (.iaload, 1) := by decide +kernel
theorem dX4_formOf_64 : decode cX4_formOf 64 = .ok (.iload_n 2, 1) := by decide +kernel
theorem dX4_formOf_65 : decode cX4_formOf 65 = .ok (.if_icmp .ne 7, 3) := by decide +kernel
theorem dX4_formOf_68 : decode cX4_formOf 68 = .ok (.iconst 3, 1) := by decide +kernel
theorem dX4_formOf_69 : decode cX4_formOf 69 = .ok (.goto 4, 3) := by decide +kernel
theorem dX4_formOf_72 : decode cX4_formOf 72 = .ok (.iconst 4, 1) := by decide +kernel
theorem dX4_formOf_73 : decode cX4_formOf 73 = .ok (.ireturn, 1) := by decide +kernel
theorem dX4_hasBranch_0 : decode cX4_hasBranch 0 = .ok (.aload_n 0, 1) := by decide +kernel
theorem dX4_hasBranch_1 : decode cX4_hasBranch 1 = .ok (.getfield 18, 3) := by decide +kernel
theorem dX4_hasBranch_4 : decode cX4_hasBranch 4 = .ok (.iload_n 1, 1) := by decide +kernel
theorem dX4_hasBranch_5 : decode cX4_hasBranch 5 = .ok (.iaload, 1) := by decide +kernel
theorem dX4_hasBranch_6 : decode cX4_hasBranch 6 = .ok (.iconst 2, 1) := by decide +kernel
theorem dX4_hasBranch_7 : decode cX4_hasBranch 7 = .ok (.if_icmp .eq 23, 3) := by decide +kernel
theorem dX4_hasBranch_10 : decode cX4_hasBranch 10 = .ok (.aload_n 0, 1) := by decide +kernel
theorem dX4_hasBranch_11 : decode cX4_hasBranch 11 = .ok (.getfield 18, 3) := by decide +kernel
theorem dX4_hasBranch_14 : decode cX4_hasBranch 14 = .ok (.iload_n 1, 1) := by decide +kernel
theorem dX4_hasBranch_15 : decode cX4_hasBranch 15 = .ok (.iaload, 1) := by decide +kernel
theorem dX4_hasBranch_16 : decode cX4_hasBranch 16 = .ok (.iconst 3, 1) := by decide +kernel
theorem dX4_hasBranch_17 : decode cX4_hasBranch 17 = .ok (.if_icmp .eq 13, 3) := by decide +kernel
theorem dX4_hasBranch_20 : decode cX4_hasBranch 20 = .ok (.aload_n 0, 1) := by decide +kernel
theorem dX4_hasBranch_21 : decode cX4_hasBranch 21 = .ok (.getfield 18, 3) := by decide +kernel
theorem dX4_hasBranch_24 : decode cX4_hasBranch 24 = .ok (.iload_n 1, 1) := by decide +kernel
theorem dX4_hasBranch_25 : decode cX4_hasBranch 25 = .ok (.iaload, 1) := by decide +kernel
theorem dX4_hasBranch_26 : decode cX4_hasBranch 26 = .ok (.iconst 4, 1) := by decide +kernel
theorem dX4_hasBranch_27 : decode cX4_hasBranch 27 = .ok (.if_icmp .ne 7, 3) := by decide +kernel
theorem dX4_hasBranch_30 : decode cX4_hasBranch 30 = .ok (.iconst 1, 1) := by decide +kernel
theorem dX4_hasBranch_31 : decode cX4_hasBranch 31 = .ok (.goto 4, 3) := by decide +kernel
theorem dX4_hasBranch_34 : decode cX4_hasBranch 34 = .ok (.iconst 0, 1) := by decide +kernel
theorem dX4_hasBranch_35 : decode cX4_hasBranch 35 = .ok (.ireturn, 1) := by decide +kernel
theorem dX4_hasJump_0 : decode cX4_hasJump 0 = .ok (.aload_n 0, 1) := by decide +kernel
theorem dX4_hasJump_1 : decode cX4_hasJump 1 = .ok (.getfield 18, 3) := by decide +kernel
theorem dX4_hasJump_4 : decode cX4_hasJump 4 = .ok (.iload_n 1, 1) := by decide +kernel
theorem dX4_hasJump_5 : decode cX4_hasJump 5 = .ok (.iaload, 1) := by decide +kernel
theorem dX4_hasJump_6 : decode cX4_hasJump 6 = .ok (.iconst 1, 1) := by decide +kernel
theorem dX4_hasJump_7 : decode cX4_hasJump 7 = .ok (.if_icmp .eq 13, 3) := by decide +kernel
theorem dX4_hasJump_10 : decode cX4_hasJump 10 = .ok (.aload_n 0, 1) := by decide +kernel
theorem dX4_hasJump_11 : decode cX4_hasJump 11 = .ok (.getfield 18, 3) := by decide +kernel
theorem dX4_hasJump_14 : decode cX4_hasJump 14 = .ok (.iload_n 1, 1) := by decide +kernel
theorem dX4_hasJump_15 : decode cX4_hasJump 15 = .ok (.iaload, 1) := by decide +kernel
theorem dX4_hasJump_16 : decode cX4_hasJump 16 = .ok (.iconst 4, 1) := by decide +kernel
theorem dX4_hasJump_17 : decode cX4_hasJump 17 = .ok (.if_icmp .ne 7, 3) := by decide +kernel
theorem dX4_hasJump_20 : decode cX4_hasJump 20 = .ok (.iconst 1, 1) := by decide +kernel
theorem dX4_hasJump_21 : decode cX4_hasJump 21 = .ok (.goto 4, 3) := by decide +kernel
theorem dX4_hasJump_24 : decode cX4_hasJump 24 = .ok (.iconst 0, 1) := by decide +kernel
theorem dX4_hasJump_25 : decode cX4_hasJump 25 = .ok (.ireturn, 1) := by decide +kernel
theorem dX4_setAddresses_0 : decode cX4_setAddresses 0 = .ok (.iconst 0, 1) := by decide +kernel
theorem dX4_setAddresses_1 : decode cX4_setAddresses 1 = .ok (.istore_n 3, 1) := by decide +kernel
theorem dX4_setAddresses_2 : decode cX4_setAddresses 2 = .ok (.iconst 0, 1) := by decide +kernel
theorem dX4_setAddresses_3 : decode cX4_setAddresses 3 = .ok (.istore 4, 2) := by decide +kernel
theorem dX4_setAddresses_5 : decode cX4_setAddresses 5 = .ok (.iload 4, 2) := by decide +kernel
theorem dX4_setAddresses_7 : decode cX4_setAddresses 7 = .ok (.aload_n 0, 1) := by decide +kernel
theorem dX4_setAddresses_8 : decode cX4_setAddresses 8 = .ok (.getfield 33, 3) := by decide +kernel
theorem dX4_setAddresses_11 : decode cX4_setAddresses 11 = .ok (.getfield 52, 3) := by decide +kernel
theorem dX4_setAddresses_14 : decode cX4_setAddresses 14 = .ok (.if_icmp .ge 139, 3) := by decide +kernel
theorem dX4_setAddresses_17 : decode cX4_setAddresses 17 = .ok (.aload_n 0, 1) := by decide +kernel
theorem dX4_setAddresses_18 : decode cX4_setAddresses 18 = .ok (.getfield 37, 3) := by decide +kernel
theorem dX4_setAddresses_21 : decode cX4_setAddresses 21 = .ok (.getfield 58, 3) := by decide +kernel
theorem dX4_setAddresses_24 : decode cX4_setAddresses 24 = .ok (.iload 4, 2) := by decide +kernel
theorem dX4_setAddresses_26 : decode cX4_setAddresses 26 = .ok (.iaload, 1) := by decide +kernel
theorem dX4_setAddresses_27 : decode cX4_setAddresses 27 = .ok (.istore 5, 2) := by decide +kernel
theorem dX4_setAddresses_29 : decode cX4_setAddresses 29 = .ok (.iload 4, 2) := by decide +kernel
theorem dX4_setAddresses_31 : decode cX4_setAddresses 31 = .ok (.aload_n 0, 1) := by decide +kernel
theorem dX4_setAddresses_32 : decode cX4_setAddresses 32 = .ok (.getfield 37, 3) := by decide +kernel
theorem dX4_setAddresses_35 : decode cX4_setAddresses 35 = .ok (.getfield 63, 3) := by decide +kernel
theorem dX4_setAddresses_38 : decode cX4_setAddresses 38 = .ok (.if_icmp .ne 12, 3) := by decide +kernel
theorem dX4_setAddresses_41 : decode cX4_setAddresses 41 = .ok (.iload_n 3, 1) := by decide +kernel
theorem dX4_setAddresses_42 : decode cX4_setAddresses 42 = .ok (.bipush 64, 2) := by decide +kernel
theorem dX4_setAddresses_44 : decode cX4_setAddresses 44 = .ok (.invokestatic 86, 3) := by decide +kernel
theorem dX4_setAddresses_47 : decode cX4_setAddresses 47 = .ok (.goto 4, 3) := by decide +kernel
theorem dX4_setAddresses_50 : decode cX4_setAddresses 50 = .ok (.iload_n 3, 1) := by decide +kernel
theorem dX4_setAddresses_51 : decode cX4_setAddresses 51 = .ok (.istore 6, 2) := by decide +kernel
theorem dX4_setAddresses_53 : decode cX4_setAddresses 53 = .ok (.aload_n 0, 1) := by decide +kernel
theorem dX4_setAddresses_54 : decode cX4_setAddresses 54 = .ok (.getfield 33, 3) := by decide +kernel
theorem dX4_setAddresses_57 : decode cX4_setAddresses 57 = .ok (.iload 5, 2) := by decide +kernel
theorem dX4_setAddresses_59 : decode cX4_setAddresses 59 = .ok (.invokevirtual 89, 3) := by decide +kernel
theorem dX4_setAddresses_62 : decode cX4_setAddresses 62 = .ok (.ifCond .eq 25, 3) := by decide +kernel
theorem dX4_setAddresses_65 : decode cX4_setAddresses 65 = .ok (.aload_n 0, 1) := by decide +kernel
theorem dX4_setAddresses_66 : decode cX4_setAddresses 66 = .ok (.getfield 33, 3) := by decide +kernel
theorem dX4_setAddresses_69 : decode cX4_setAddresses 69 = .ok (.getfield 92, 3) := by decide +kernel
theorem dX4_setAddresses_72 : decode cX4_setAddresses 72 = .ok (.iload 5, 2) := by decide +kernel
theorem dX4_setAddresses_74 : decode cX4_setAddresses 74 = .ok (.iaload, 1) := by decide +kernel
theorem dX4_setAddresses_75 : decode cX4_setAddresses 75 = .ok (.iload_n 2, 1) := by decide +kernel
theorem dX4_setAddresses_76 : decode cX4_setAddresses 76 = .ok (.if_icmp .lt 11, 3) := by decide +kernel
theorem dX4_setAddresses_79 : decode cX4_setAddresses 79 = .ok (.iload 6, 2) := by decide +kernel
theorem dX4_setAddresses_81 : decode cX4_setAddresses 81 = .ok (.iload_n 1, 1) := by decide +kernel
theorem dX4_setAddresses_82 : decode cX4_setAddresses 82 = .ok (.invokestatic 86, 3) := by decide +kernel
theorem dX4_setAddresses_85 : decode cX4_setAddresses 85 = .ok (.istore 6, 2) := by decide +kernel
theorem dX4_setAddresses_87 : decode cX4_setAddresses 87 = .ok (.aload_n 0, 1) := by decide +kernel
theorem dX4_setAddresses_88 : decode cX4_setAddresses 88 = .ok (.getfield 27, 3) := by decide +kernel
theorem dX4_setAddresses_91 : decode cX4_setAddresses 91 = .ok (.iload 5, 2) := by decide +kernel
theorem dX4_setAddresses_93 : decode cX4_setAddresses 93 = .ok (.iload 6, 2) := by decide +kernel
theorem dX4_setAddresses_95 : decode cX4_setAddresses 95 = .ok (.iastore, 1) := by decide +kernel
theorem dX4_setAddresses_96 : decode cX4_setAddresses 96 = .ok (.aload_n 0, 1) := by decide +kernel
theorem dX4_setAddresses_97 : decode cX4_setAddresses 97 = .ok (.getfield 30, 3) := by decide +kernel
theorem dX4_setAddresses_100 : decode cX4_setAddresses 100 = .ok (.iload 5, 2) := by decide +kernel
theorem dX4_setAddresses_102 : decode cX4_setAddresses 102 = .ok (.iload 6, 2) := by decide +kernel
theorem dX4_setAddresses_104 : decode cX4_setAddresses 104 = .ok (.iload_n 3, 1) := by decide +kernel
theorem dX4_setAddresses_105 : decode cX4_setAddresses 105 = .ok (.isub, 1) := by decide +kernel
theorem dX4_setAddresses_106 : decode cX4_setAddresses 106 = .ok (.iastore, 1) := by decide +kernel
theorem dX4_setAddresses_107 : decode cX4_setAddresses 107 = .ok (.iload 6, 2) := by decide +kernel
theorem dX4_setAddresses_109 : decode cX4_setAddresses 109 = .ok (.aload_n 0, 1) := by decide +kernel
theorem dX4_setAddresses_110 : decode cX4_setAddresses 110 = .ok (.getfield 33, 3) := by decide +kernel
theorem dX4_setAddresses_113 : decode cX4_setAddresses 113 = .ok (.getfield 95, 3) := by decide +kernel
theorem dX4_setAddresses_116 : decode cX4_setAddresses 116 = .ok (.iload 5, 2) := by decide +kernel
theorem dX4_setAddresses_118 : decode cX4_setAddresses 118 = .ok (.iaload, 1) := by decide +kernel
theorem dX4_setAddresses_119 : decode cX4_setAddresses 119 = .ok (.iadd, 1) := by decide +kernel
theorem dX4_setAddresses_120 : decode cX4_setAddresses 120 = .ok (.aload_n 0, 1) := by decide +kernel
theorem dX4_setAddresses_121 : decode cX4_setAddresses 121 = .ok (.iload 5, 2) := by decide +kernel
theorem dX4_setAddresses_123 : decode cX4_setAddresses 123 = .ok (.invokevirtual 98, 3) := by decide +kernel
theorem dX4_setAddresses_126 : decode cX4_setAddresses 126 = .ok (.iadd, 1) := by decide +kernel
theorem dX4_setAddresses_127 : decode cX4_setAddresses 127 = .ok (.istore_n 3, 1) := by decide +kernel
theorem dX4_setAddresses_128 : decode cX4_setAddresses 128 = .ok (.iload 4, 2) := by decide +kernel
theorem dX4_setAddresses_130 : decode cX4_setAddresses 130 = .ok (.iconst 1, 1) := by decide +kernel
theorem dX4_setAddresses_131 : decode cX4_setAddresses 131 = .ok (.iadd, 1) := by decide +kernel
theorem dX4_setAddresses_132 : decode cX4_setAddresses 132 = .ok (.aload_n 0, 1) := by decide +kernel
theorem dX4_setAddresses_133 : decode cX4_setAddresses 133 = .ok (.getfield 37, 3) := by decide +kernel
theorem dX4_setAddresses_136 : decode cX4_setAddresses 136 = .ok (.getfield 63, 3) := by decide +kernel
theorem dX4_setAddresses_139 : decode cX4_setAddresses 139 = .ok (.if_icmp .ne 8, 3) := by decide +kernel
theorem dX4_setAddresses_142 : decode cX4_setAddresses 142 = .ok (.aload_n 0, 1) := by decide +kernel
theorem dX4_setAddresses_143 : decode cX4_setAddresses 143 = .ok (.iload_n 3, 1) := by decide +kernel
theorem dX4_setAddresses_144 : decode cX4_setAddresses 144 = .ok (.putfield 102, 3) := by decide +kernel
theorem dX4_setAddresses_147 : decode cX4_setAddresses 147 = .ok (.iinc 4 1, 3) := by decide +kernel
theorem dX4_setAddresses_150 : decode cX4_setAddresses 150 = .ok (.goto (-145), 3) := by decide +kernel
theorem dX4_setAddresses_153 : decode cX4_setAddresses 153 = .ok (.aload_n 0, 1) := by decide +kernel
theorem dX4_setAddresses_154 : decode cX4_setAddresses 154 = .ok (.iload_n 3, 1) := by decide +kernel
theorem dX4_setAddresses_155 : decode cX4_setAddresses 155 = .ok (.putfield 105, 3) := by decide +kernel
theorem dX4_setAddresses_158 : decode cX4_setAddresses 158 = .ok (.return_, 1) := by decide +kernel
theorem dX4_multipleFrom_0 : decode cX4_multipleFrom 0 = .ok (.iload_n 0, 1) := by decide +kernel
theorem dX4_multipleFrom_1 : decode cX4_multipleFrom 1 = .ok (.iload_n 1, 1) := by decide +kernel
theorem dX4_multipleFrom_2 : decode cX4_multipleFrom 2 = .ok (.iadd, 1) := by decide +kernel
theorem dX4_multipleFrom_3 : decode cX4_multipleFrom 3 = .ok (.iconst 1, 1) := by decide +kernel
theorem dX4_multipleFrom_4 : decode cX4_multipleFrom 4 = .ok (.isub, 1) := by decide +kernel
theorem dX4_multipleFrom_5 : decode cX4_multipleFrom 5 = .ok (.iload_n 1, 1) := by decide +kernel
theorem dX4_multipleFrom_6 : decode cX4_multipleFrom 6 = .ok (.ineg, 1) := by decide +kernel
theorem dX4_multipleFrom_7 : decode cX4_multipleFrom 7 = .ok (.iand, 1) := by decide +kernel
theorem dX4_multipleFrom_8 : decode cX4_multipleFrom 8 = .ok (.ireturn, 1) := by decide +kernel
theorem dX4_widen_0 : decode cX4_widen 0 = .ok (.iconst 0, 1) := by decide +kernel
theorem dX4_widen_1 : decode cX4_widen 1 = .ok (.istore_n 1, 1) := by decide +kernel
theorem dX4_widen_2 : decode cX4_widen 2 = .ok (.iconst 0, 1) := by decide +kernel
theorem dX4_widen_3 : decode cX4_widen 3 = .ok (.istore_n 2, 1) := by decide +kernel
theorem dX4_widen_4 : decode cX4_widen 4 = .ok (.iload_n 2, 1) := by decide +kernel
theorem dX4_widen_5 : decode cX4_widen 5 = .ok (.aload_n 0, 1) := by decide +kernel
theorem dX4_widen_6 : decode cX4_widen 6 = .ok (.getfield 33, 3) := by decide +kernel
theorem dX4_widen_9 : decode cX4_widen 9 = .ok (.getfield 52, 3) := by decide +kernel
theorem dX4_widen_12 : decode cX4_widen 12 = .ok (.if_icmp .ge 109, 3) := by decide +kernel
theorem dX4_widen_15 : decode cX4_widen 15 = .ok (.aload_n 0, 1) := by decide +kernel
theorem dX4_widen_16 : decode cX4_widen 16 = .ok (.getfield 27, 3) := by decide +kernel
theorem dX4_widen_19 : decode cX4_widen 19 = .ok (.iload_n 2, 1) := by decide +kernel
theorem dX4_widen_20 : decode cX4_widen 20 = .ok (.iaload, 1) := by decide +kernel
theorem dX4_widen_21 : decode cX4_widen 21 = .ok (.aload_n 0, 1) := by decide +kernel
theorem dX4_widen_22 : decode cX4_widen 22 = .ok (.getfield 33, 3) := by decide +kernel
theorem dX4_widen_25 : decode cX4_widen 25 = .ok (.getfield 95, 3) := by decide +kernel
theorem dX4_widen_28 : decode cX4_widen 28 = .ok (.iload_n 2, 1) := by decide +kernel
theorem dX4_widen_29 : decode cX4_widen 29 = .ok (.iaload, 1) := by decide +kernel
theorem dX4_widen_30 : decode cX4_widen 30 = .ok (.iadd, 1) := by decide +kernel
theorem dX4_widen_31 : decode cX4_widen 31 = .ok (.aload_n 0, 1) := by decide +kernel
theorem dX4_widen_32 : decode cX4_widen 32 = .ok (.getfield 21, 3) := by decide +kernel
theorem dX4_widen_35 : decode cX4_widen 35 = .ok (.iload_n 2, 1) := by decide +kernel
theorem dX4_widen_36 : decode cX4_widen 36 = .ok (.iaload, 1) := by decide +kernel
theorem dX4_widen_37 : decode cX4_widen 37 = .ok (.iadd, 1) := by decide +kernel
theorem dX4_widen_38 : decode cX4_widen 38 = .ok (.istore_n 3, 1) := by decide +kernel
theorem dX4_widen_39 : decode cX4_widen 39 = .ok (.iload_n 3, 1) := by decide +kernel
theorem dX4_widen_40 : decode cX4_widen 40 = .ok (.aload_n 0, 1) := by decide +kernel
theorem dX4_widen_41 : decode cX4_widen 41 = .ok (.getfield 24, 3) := by decide +kernel
theorem dX4_widen_44 : decode cX4_widen 44 = .ok (.iload_n 2, 1) := by decide +kernel
theorem dX4_widen_45 : decode cX4_widen 45 = .ok (.iaload, 1) := by decide +kernel
theorem dX4_widen_46 : decode cX4_widen 46 = .ok (.iadd, 1) := by decide +kernel
theorem dX4_widen_47 : decode cX4_widen 47 = .ok (.istore 4, 2) := by decide +kernel
theorem dX4_widen_49 : decode cX4_widen 49 = .ok (.aload_n 0, 1) := by decide +kernel
theorem dX4_widen_50 : decode cX4_widen 50 = .ok (.getfield 21, 3) := by decide +kernel
theorem dX4_widen_53 : decode cX4_widen 53 = .ok (.iload_n 2, 1) := by decide +kernel
theorem dX4_widen_54 : decode cX4_widen 54 = .ok (.iaload, 1) := by decide +kernel
theorem dX4_widen_55 : decode cX4_widen 55 = .ok (.iconst 2, 1) := by decide +kernel
theorem dX4_widen_56 : decode cX4_widen 56 = .ok (.if_icmp .ne 26, 3) := by decide +kernel
theorem dX4_widen_59 : decode cX4_widen 59 = .ok (.aload_n 0, 1) := by decide +kernel
theorem dX4_widen_60 : decode cX4_widen 60 = .ok (.aload_n 0, 1) := by decide +kernel
theorem dX4_widen_61 : decode cX4_widen 61 = .ok (.iload_n 2, 1) := by decide +kernel
theorem dX4_widen_62 : decode cX4_widen 62 = .ok (.invokevirtual 108, 3) := by decide +kernel
theorem dX4_widen_65 : decode cX4_widen 65 = .ok (.iload_n 3, 1) := by decide +kernel
theorem dX4_widen_66 : decode cX4_widen 66 = .ok (.invokevirtual 111, 3) := by decide +kernel
theorem dX4_widen_69 : decode cX4_widen 69 = .ok (.ifCond .eq 13, 3) := by decide +kernel
theorem dX4_widen_72 : decode cX4_widen 72 = .ok (.aload_n 0, 1) := by decide +kernel
theorem dX4_widen_73 : decode cX4_widen 73 = .ok (.getfield 21, 3) := by decide +kernel
theorem dX4_widen_76 : decode cX4_widen 76 = .ok (.iload_n 2, 1) := by decide +kernel
theorem dX4_widen_77 : decode cX4_widen 77 = .ok (.bipush 6, 2) := by decide +kernel
theorem dX4_widen_79 : decode cX4_widen 79 = .ok (.iastore, 1) := by decide +kernel
theorem dX4_widen_80 : decode cX4_widen 80 = .ok (.iconst 1, 1) := by decide +kernel
theorem dX4_widen_81 : decode cX4_widen 81 = .ok (.istore_n 1, 1) := by decide +kernel
theorem dX4_widen_82 : decode cX4_widen 82 = .ok (.aload_n 0, 1) := by decide +kernel
theorem dX4_widen_83 : decode cX4_widen 83 = .ok (.getfield 24, 3) := by decide +kernel
theorem dX4_widen_86 : decode cX4_widen 86 = .ok (.iload_n 2, 1) := by decide +kernel
theorem dX4_widen_87 : decode cX4_widen 87 = .ok (.iaload, 1) := by decide +kernel
theorem dX4_widen_88 : decode cX4_widen 88 = .ok (.iconst 2, 1) := by decide +kernel
theorem dX4_widen_89 : decode cX4_widen 89 = .ok (.if_icmp .ne 26, 3) := by decide +kernel
theorem dX4_widen_92 : decode cX4_widen 92 = .ok (.aload_n 0, 1) := by decide +kernel
theorem dX4_widen_93 : decode cX4_widen 93 = .ok (.aload_n 0, 1) := by decide +kernel
theorem dX4_widen_94 : decode cX4_widen 94 = .ok (.iload_n 2, 1) := by decide +kernel
theorem dX4_widen_95 : decode cX4_widen 95 = .ok (.invokevirtual 115, 3) := by decide +kernel
theorem dX4_widen_98 : decode cX4_widen 98 = .ok (.iload 4, 2) := by decide +kernel
theorem dX4_widen_100 : decode cX4_widen 100 = .ok (.invokevirtual 111, 3) := by decide +kernel
theorem dX4_widen_103 : decode cX4_widen 103 = .ok (.ifCond .eq 12, 3) := by decide +kernel
theorem dX4_widen_106 : decode cX4_widen 106 = .ok (.aload_n 0, 1) := by decide +kernel
theorem dX4_widen_107 : decode cX4_widen 107 = .ok (.getfield 24, 3) := by decide +kernel
theorem dX4_widen_110 : decode cX4_widen 110 = .ok (.iload_n 2, 1) := by decide +kernel
theorem dX4_widen_111 : decode cX4_widen 111 = .ok (.iconst 5, 1) := by decide +kernel
theorem dX4_widen_112 : decode cX4_widen 112 = .ok (.iastore, 1) := by decide +kernel
theorem dX4_widen_113 : decode cX4_widen 113 = .ok (.iconst 1, 1) := by decide +kernel
theorem dX4_widen_114 : decode cX4_widen 114 = .ok (.istore_n 1, 1) := by decide +kernel
theorem dX4_widen_115 : decode cX4_widen 115 = .ok (.iinc 2 1, 3) := by decide +kernel
theorem dX4_widen_118 : decode cX4_widen 118 = .ok (.goto (-114), 3) := by decide +kernel
theorem dX4_widen_121 : decode cX4_widen 121 = .ok (.iload_n 1, 1) := by decide +kernel
theorem dX4_widen_122 : decode cX4_widen 122 = .ok (.ireturn, 1) := by decide +kernel
theorem dX4_branchTarget_0 : decode cX4_branchTarget 0 = .ok (.aload_n 0, 1) := by decide +kernel
theorem dX4_branchTarget_1 : decode cX4_branchTarget 1 = .ok (.getfield 18, 3) := by decide +kernel
theorem dX4_branchTarget_4 : decode cX4_branchTarget 4 = .ok (.iload_n 1, 1) := by decide +kernel
theorem dX4_branchTarget_5 : decode cX4_branchTarget 5 = .ok (.iaload, 1) := by decide +kernel
theorem dX4_branchTarget_6 : decode cX4_branchTarget 6 = .ok (.iconst 3, 1) := by decide +kernel
theorem dX4_branchTarget_7 : decode cX4_branchTarget 7 = .ok (.if_icmp .ne 15, 3) := by decide +kernel
theorem dX4_branchTarget_10 : decode cX4_branchTarget 10 = .ok (.aload_n 0, 1) := by decide +kernel
theorem dX4_branchTarget_11 : decode cX4_branchTarget 11 = .ok (.getfield 33, 3) := by decide +kernel
theorem dX4_branchTarget_14 : decode cX4_branchTarget 14 = .ok (.getfield 83, 3) := by decide +kernel
theorem dX4_branchTarget_17 : decode cX4_branchTarget 17 = .ok (.iload_n 1, 1) := by decide +kernel
theorem dX4_branchTarget_18 : decode cX4_branchTarget 18 = .ok (.iaload, 1) := by decide +kernel
theorem dX4_branchTarget_19 : decode cX4_branchTarget 19 = .ok (.goto 12, 3) := by decide +kernel
theorem dX4_branchTarget_22 : decode cX4_branchTarget 22 = .ok (.aload_n 0, 1) := by decide +kernel
theorem dX4_branchTarget_23 : decode cX4_branchTarget 23 = .ok (.getfield 33, 3) := by decide +kernel
theorem dX4_branchTarget_26 : decode cX4_branchTarget 26 = .ok (.getfield 80, 3) := by decide +kernel
theorem dX4_branchTarget_29 : decode cX4_branchTarget 29 = .ok (.iload_n 1, 1) := by decide +kernel
theorem dX4_branchTarget_30 : decode cX4_branchTarget 30 = .ok (.iaload, 1) := by decide +kernel
theorem dX4_branchTarget_31 : decode cX4_branchTarget 31 = .ok (.ireturn, 1) := by decide +kernel
theorem dX4_jumpTarget_0 : decode cX4_jumpTarget 0 = .ok (.aload_n 0, 1) := by decide +kernel
theorem dX4_jumpTarget_1 : decode cX4_jumpTarget 1 = .ok (.getfield 18, 3) := by decide +kernel
theorem dX4_jumpTarget_4 : decode cX4_jumpTarget 4 = .ok (.iload_n 1, 1) := by decide +kernel
theorem dX4_jumpTarget_5 : decode cX4_jumpTarget 5 = .ok (.iaload, 1) := by decide +kernel
theorem dX4_jumpTarget_6 : decode cX4_jumpTarget 6 = .ok (.iconst 1, 1) := by decide +kernel
theorem dX4_jumpTarget_7 : decode cX4_jumpTarget 7 = .ok (.if_icmp .ne 15, 3) := by decide +kernel
theorem dX4_jumpTarget_10 : decode cX4_jumpTarget 10 = .ok (.aload_n 0, 1) := by decide +kernel
theorem dX4_jumpTarget_11 : decode cX4_jumpTarget 11 = .ok (.getfield 33, 3) := by decide +kernel
theorem dX4_jumpTarget_14 : decode cX4_jumpTarget 14 = .ok (.getfield 80, 3) := by decide +kernel
theorem dX4_jumpTarget_17 : decode cX4_jumpTarget 17 = .ok (.iload_n 1, 1) := by decide +kernel
theorem dX4_jumpTarget_18 : decode cX4_jumpTarget 18 = .ok (.iaload, 1) := by decide +kernel
theorem dX4_jumpTarget_19 : decode cX4_jumpTarget 19 = .ok (.goto 12, 3) := by decide +kernel
theorem dX4_jumpTarget_22 : decode cX4_jumpTarget 22 = .ok (.aload_n 0, 1) := by decide +kernel
theorem dX4_jumpTarget_23 : decode cX4_jumpTarget 23 = .ok (.getfield 33, 3) := by decide +kernel
theorem dX4_jumpTarget_26 : decode cX4_jumpTarget 26 = .ok (.getfield 83, 3) := by decide +kernel
theorem dX4_jumpTarget_29 : decode cX4_jumpTarget 29 = .ok (.iload_n 1, 1) := by decide +kernel
theorem dX4_jumpTarget_30 : decode cX4_jumpTarget 30 = .ok (.iaload, 1) := by decide +kernel
theorem dX4_jumpTarget_31 : decode cX4_jumpTarget 31 = .ok (.ireturn, 1) := by decide +kernel
theorem dX4_isFar_0 : decode cX4_isFar 0 = .ok (.aload_n 0, 1) := by decide +kernel
theorem dX4_isFar_1 : decode cX4_isFar 1 = .ok (.getfield 33, 3) := by decide +kernel
theorem dX4_isFar_4 : decode cX4_isFar 4 = .ok (.iload_n 1, 1) := by decide +kernel
theorem dX4_isFar_5 : decode cX4_isFar 5 = .ok (.invokevirtual 118, 3) := by decide +kernel
theorem dX4_isFar_8 : decode cX4_isFar 8 = .ok (.ifCond .ne 5, 3) := by decide +kernel
theorem dX4_isFar_11 : decode cX4_isFar 11 = .ok (.iconst 0, 1) := by decide +kernel
theorem dX4_isFar_12 : decode cX4_isFar 12 = .ok (.ireturn, 1) := by decide +kernel
theorem dX4_isFar_13 : decode cX4_isFar 13 = .ok (.aload_n 0, 1) := by decide +kernel
theorem dX4_isFar_14 : decode cX4_isFar 14 = .ok (.getfield 27, 3) := by decide +kernel
theorem dX4_isFar_17 : decode cX4_isFar 17 = .ok (.iload_n 1, 1) := by decide +kernel
theorem dX4_isFar_18 : decode cX4_isFar 18 = .ok (.iaload, 1) := by decide +kernel
theorem dX4_isFar_19 : decode cX4_isFar 19 = .ok (.iload_n 2, 1) := by decide +kernel
theorem dX4_isFar_20 : decode cX4_isFar 20 = .ok (.isub, 1) := by decide +kernel
theorem dX4_isFar_21 : decode cX4_isFar 21 = .ok (.istore_n 3, 1) := by decide +kernel
theorem dX4_isFar_22 : decode cX4_isFar 22 = .ok (.iload_n 3, 1) := by decide +kernel
theorem dX4_isFar_23 : decode cX4_isFar 23 = .ok (.bipush (-128), 2) := by decide +kernel
theorem dX4_isFar_25 : decode cX4_isFar 25 = .ok (.if_icmp .lt 9, 3) := by decide +kernel
theorem dX4_isFar_28 : decode cX4_isFar 28 = .ok (.iload_n 3, 1) := by decide +kernel
theorem dX4_isFar_29 : decode cX4_isFar 29 = .ok (.bipush 127, 2) := by decide +kernel
theorem dX4_isFar_31 : decode cX4_isFar 31 = .ok (.if_icmp .le 7, 3) := by decide +kernel
theorem dX4_isFar_34 : decode cX4_isFar 34 = .ok (.iconst 1, 1) := by decide +kernel
theorem dX4_isFar_35 : decode cX4_isFar 35 = .ok (.goto 4, 3) := by decide +kernel
theorem dX4_isFar_38 : decode cX4_isFar 38 = .ok (.iconst 0, 1) := by decide +kernel
theorem dX4_isFar_39 : decode cX4_isFar 39 = .ok (.ireturn, 1) := by decide +kernel
theorem dX4_bytesOfEnd_0 : decode cX4_bytesOfEnd 0 = .ok (.aload_n 0, 1) := by decide +kernel
theorem dX4_bytesOfEnd_1 : decode cX4_bytesOfEnd 1 = .ok (.getfield 18, 3) := by decide +kernel
theorem dX4_bytesOfEnd_4 : decode cX4_bytesOfEnd 4 = .ok (.iload_n 1, 1) := by decide +kernel
theorem dX4_bytesOfEnd_5 : decode cX4_bytesOfEnd 5 = .ok (.iaload, 1) := by decide +kernel
theorem dX4_bytesOfEnd_6 : decode cX4_bytesOfEnd 6 = .ok (.iconst 5, 1) := by decide +kernel
theorem dX4_bytesOfEnd_7 : decode cX4_bytesOfEnd 7 = .ok (.if_icmp .ne 5, 3) := by decide +kernel
theorem dX4_bytesOfEnd_10 : decode cX4_bytesOfEnd 10 = .ok (.iconst 1, 1) := by decide +kernel
theorem dX4_bytesOfEnd_11 : decode cX4_bytesOfEnd 11 = .ok (.ireturn, 1) := by decide +kernel
theorem dX4_bytesOfEnd_12 : decode cX4_bytesOfEnd 12 = .ok (.aload_n 0, 1) := by decide +kernel
theorem dX4_bytesOfEnd_13 : decode cX4_bytesOfEnd 13 = .ok (.getfield 21, 3) := by decide +kernel
theorem dX4_bytesOfEnd_16 : decode cX4_bytesOfEnd 16 = .ok (.iload_n 1, 1) := by decide +kernel
theorem dX4_bytesOfEnd_17 : decode cX4_bytesOfEnd 17 = .ok (.iaload, 1) := by decide +kernel
theorem dX4_bytesOfEnd_18 : decode cX4_bytesOfEnd 18 = .ok (.aload_n 0, 1) := by decide +kernel
theorem dX4_bytesOfEnd_19 : decode cX4_bytesOfEnd 19 = .ok (.getfield 24, 3) := by decide +kernel
theorem dX4_bytesOfEnd_22 : decode cX4_bytesOfEnd 22 = .ok (.iload_n 1, 1) := by decide +kernel
theorem dX4_bytesOfEnd_23 : decode cX4_bytesOfEnd 23 = .ok (.iaload, 1) := by decide +kernel
theorem dX4_bytesOfEnd_24 : decode cX4_bytesOfEnd 24 = .ok (.iadd, 1) := by decide +kernel
theorem dX4_bytesOfEnd_25 : decode cX4_bytesOfEnd 25 = .ok (.ireturn, 1) := by decide +kernel
theorem dX4_isBranchLong_0 : decode cX4_isBranchLong 0 = .ok (.aload_n 0, 1) := by decide +kernel
theorem dX4_isBranchLong_1 : decode cX4_isBranchLong 1 = .ok (.getfield 21, 3) := by decide +kernel
theorem dX4_isBranchLong_4 : decode cX4_isBranchLong 4 = .ok (.iload_n 1, 1) := by decide +kernel
theorem dX4_isBranchLong_5 : decode cX4_isBranchLong 5 = .ok (.iaload, 1) := by decide +kernel
theorem dX4_isBranchLong_6 : decode cX4_isBranchLong 6 = .ok (.bipush 6, 2) := by decide +kernel
theorem dX4_isBranchLong_8 : decode cX4_isBranchLong 8 = .ok (.if_icmp .ne 7, 3) := by decide +kernel
theorem dX4_isBranchLong_11 : decode cX4_isBranchLong 11 = .ok (.iconst 1, 1) := by decide +kernel
theorem dX4_isBranchLong_12 : decode cX4_isBranchLong 12 = .ok (.goto 4, 3) := by decide +kernel
theorem dX4_isBranchLong_15 : decode cX4_isBranchLong 15 = .ok (.iconst 0, 1) := by decide +kernel
theorem dX4_isBranchLong_16 : decode cX4_isBranchLong 16 = .ok (.ireturn, 1) := by decide +kernel
theorem dX4_isJumpLong_0 : decode cX4_isJumpLong 0 = .ok (.aload_n 0, 1) := by decide +kernel
theorem dX4_isJumpLong_1 : decode cX4_isJumpLong 1 = .ok (.getfield 24, 3) := by decide +kernel
theorem dX4_isJumpLong_4 : decode cX4_isJumpLong 4 = .ok (.iload_n 1, 1) := by decide +kernel
theorem dX4_isJumpLong_5 : decode cX4_isJumpLong 5 = .ok (.iaload, 1) := by decide +kernel
theorem dX4_isJumpLong_6 : decode cX4_isJumpLong 6 = .ok (.iconst 5, 1) := by decide +kernel
theorem dX4_isJumpLong_7 : decode cX4_isJumpLong 7 = .ok (.if_icmp .ne 7, 3) := by decide +kernel
theorem dX4_isJumpLong_10 : decode cX4_isJumpLong 10 = .ok (.iconst 1, 1) := by decide +kernel
theorem dX4_isJumpLong_11 : decode cX4_isJumpLong 11 = .ok (.goto 4, 3) := by decide +kernel
theorem dX4_isJumpLong_14 : decode cX4_isJumpLong 14 = .ok (.iconst 0, 1) := by decide +kernel
theorem dX4_isJumpLong_15 : decode cX4_isJumpLong 15 = .ok (.ireturn, 1) := by decide +kernel
theorem dX4_sumOfPadding_0 : decode cX4_sumOfPadding 0 = .ok (.iconst 0, 1) := by decide +kernel
theorem dX4_sumOfPadding_1 : decode cX4_sumOfPadding 1 = .ok (.istore_n 1, 1) := by decide +kernel
theorem dX4_sumOfPadding_2 : decode cX4_sumOfPadding 2 = .ok (.iconst 0, 1) := by decide +kernel
theorem dX4_sumOfPadding_3 : decode cX4_sumOfPadding 3 = .ok (.istore_n 2, 1) := by decide +kernel
theorem dX4_sumOfPadding_4 : decode cX4_sumOfPadding 4 = .ok (.iload_n 2, 1) := by decide +kernel
theorem dX4_sumOfPadding_5 : decode cX4_sumOfPadding 5 = .ok (.aload_n 0, 1) := by decide +kernel
theorem dX4_sumOfPadding_6 : decode cX4_sumOfPadding 6 = .ok (.getfield 33, 3) := by decide +kernel
theorem dX4_sumOfPadding_9 : decode cX4_sumOfPadding 9 = .ok (.getfield 52, 3) := by decide +kernel
theorem dX4_sumOfPadding_12 : decode cX4_sumOfPadding 12 = .ok (.if_icmp .ge 18, 3) := by decide +kernel
theorem dX4_sumOfPadding_15 : decode cX4_sumOfPadding 15 = .ok (.iload_n 1, 1) := by decide +kernel
theorem dX4_sumOfPadding_16 : decode cX4_sumOfPadding 16 = .ok (.aload_n 0, 1) := by decide +kernel
theorem dX4_sumOfPadding_17 : decode cX4_sumOfPadding 17 = .ok (.getfield 30, 3) := by decide +kernel
theorem dX4_sumOfPadding_20 : decode cX4_sumOfPadding 20 = .ok (.iload_n 2, 1) := by decide +kernel
theorem dX4_sumOfPadding_21 : decode cX4_sumOfPadding 21 = .ok (.iaload, 1) := by decide +kernel
theorem dX4_sumOfPadding_22 : decode cX4_sumOfPadding 22 = .ok (.iadd, 1) := by decide +kernel
theorem dX4_sumOfPadding_23 : decode cX4_sumOfPadding 23 = .ok (.istore_n 1, 1) := by decide +kernel
theorem dX4_sumOfPadding_24 : decode cX4_sumOfPadding 24 = .ok (.iinc 2 1, 3) := by decide +kernel
theorem dX4_sumOfPadding_27 : decode cX4_sumOfPadding 27 = .ok (.goto (-23), 3) := by decide +kernel
theorem dX4_sumOfPadding_30 : decode cX4_sumOfPadding 30 = .ok (.iload_n 1, 1) := by decide +kernel
theorem dX4_sumOfPadding_31 : decode cX4_sumOfPadding 31 = .ok (.ireturn, 1) := by decide +kernel
theorem dX4_countOfLong_0 : decode cX4_countOfLong 0 = .ok (.iconst 0, 1) := by decide +kernel
theorem dX4_countOfLong_1 : decode cX4_countOfLong 1 = .ok (.istore_n 1, 1) := by decide +kernel
theorem dX4_countOfLong_2 : decode cX4_countOfLong 2 = .ok (.iconst 0, 1) := by decide +kernel
theorem dX4_countOfLong_3 : decode cX4_countOfLong 3 = .ok (.istore_n 2, 1) := by decide +kernel
theorem dX4_countOfLong_4 : decode cX4_countOfLong 4 = .ok (.iload_n 2, 1) := by decide +kernel
theorem dX4_countOfLong_5 : decode cX4_countOfLong 5 = .ok (.aload_n 0, 1) := by decide +kernel
theorem dX4_countOfLong_6 : decode cX4_countOfLong 6 = .ok (.getfield 33, 3) := by decide +kernel
theorem dX4_countOfLong_9 : decode cX4_countOfLong 9 = .ok (.getfield 52, 3) := by decide +kernel
theorem dX4_countOfLong_12 : decode cX4_countOfLong 12 = .ok (.if_icmp .ge 41, 3) := by decide +kernel
theorem dX4_countOfLong_15 : decode cX4_countOfLong 15 = .ok (.iload_n 1, 1) := by decide +kernel
theorem dX4_countOfLong_16 : decode cX4_countOfLong 16 = .ok (.aload_n 0, 1) := by decide +kernel
theorem dX4_countOfLong_17 : decode cX4_countOfLong 17 = .ok (.iload_n 2, 1) := by decide +kernel
theorem dX4_countOfLong_18 : decode cX4_countOfLong 18 = .ok (.invokevirtual 121, 3) := by decide +kernel
theorem dX4_countOfLong_21 : decode cX4_countOfLong 21 = .ok (.ifCond .eq 7, 3) := by decide +kernel
theorem dX4_countOfLong_24 : decode cX4_countOfLong 24 = .ok (.iconst 1, 1) := by decide +kernel
theorem dX4_countOfLong_25 : decode cX4_countOfLong 25 = .ok (.goto 4, 3) := by decide +kernel
theorem dX4_countOfLong_28 : decode cX4_countOfLong 28 = .ok (.iconst 0, 1) := by decide +kernel
theorem dX4_countOfLong_29 : decode cX4_countOfLong 29 = .ok (.iadd, 1) := by decide +kernel
theorem dX4_countOfLong_30 : decode cX4_countOfLong 30 = .ok (.istore_n 1, 1) := by decide +kernel
theorem dX4_countOfLong_31 : decode cX4_countOfLong 31 = .ok (.iload_n 1, 1) := by decide +kernel
theorem dX4_countOfLong_32 : decode cX4_countOfLong 32 = .ok (.aload_n 0, 1) := by decide +kernel
theorem dX4_countOfLong_33 : decode cX4_countOfLong 33 = .ok (.iload_n 2, 1) := by decide +kernel
theorem dX4_countOfLong_34 : decode cX4_countOfLong 34 = .ok (.invokevirtual 124, 3) := by decide +kernel
theorem dX4_countOfLong_37 : decode cX4_countOfLong 37 = .ok (.ifCond .eq 7, 3) := by decide +kernel
theorem dX4_countOfLong_40 : decode cX4_countOfLong 40 = .ok (.iconst 1, 1) := by decide +kernel
theorem dX4_countOfLong_41 : decode cX4_countOfLong 41 = .ok (.goto 4, 3) := by decide +kernel
theorem dX4_countOfLong_44 : decode cX4_countOfLong 44 = .ok (.iconst 0, 1) := by decide +kernel
theorem dX4_countOfLong_45 : decode cX4_countOfLong 45 = .ok (.iadd, 1) := by decide +kernel
theorem dX4_countOfLong_46 : decode cX4_countOfLong 46 = .ok (.istore_n 1, 1) := by decide +kernel
theorem dX4_countOfLong_47 : decode cX4_countOfLong 47 = .ok (.iinc 2 1, 3) := by decide +kernel
theorem dX4_countOfLong_50 : decode cX4_countOfLong 50 = .ok (.goto (-46), 3) := by decide +kernel
theorem dX4_countOfLong_53 : decode cX4_countOfLong 53 = .ok (.iload_n 1, 1) := by decide +kernel
theorem dX4_countOfLong_54 : decode cX4_countOfLong 54 = .ok (.ireturn, 1) := by decide +kernel
theorem dX4_countOfForm_0 : decode cX4_countOfForm 0 = .ok (.iconst 0, 1) := by decide +kernel
theorem dX4_countOfForm_1 : decode cX4_countOfForm 1 = .ok (.istore_n 2, 1) := by decide +kernel
theorem dX4_countOfForm_2 : decode cX4_countOfForm 2 = .ok (.iconst 0, 1) := by decide +kernel
theorem dX4_countOfForm_3 : decode cX4_countOfForm 3 = .ok (.istore_n 3, 1) := by decide +kernel
theorem dX4_countOfForm_4 : decode cX4_countOfForm 4 = .ok (.iload_n 3, 1) := by decide +kernel
theorem dX4_countOfForm_5 : decode cX4_countOfForm 5 = .ok (.aload_n 0, 1) := by decide +kernel
theorem dX4_countOfForm_6 : decode cX4_countOfForm 6 = .ok (.getfield 33, 3) := by decide +kernel
theorem dX4_countOfForm_9 : decode cX4_countOfForm 9 = .ok (.getfield 52, 3) := by decide +kernel
theorem dX4_countOfForm_12 : decode cX4_countOfForm 12 = .ok (.if_icmp .ge 27, 3) := by decide +kernel
theorem dX4_countOfForm_15 : decode cX4_countOfForm 15 = .ok (.iload_n 2, 1) := by decide +kernel
theorem dX4_countOfForm_16 : decode cX4_countOfForm 16 = .ok (.aload_n 0, 1) := by decide +kernel
theorem dX4_countOfForm_17 : decode cX4_countOfForm 17 = .ok (.getfield 18, 3) := by decide +kernel
theorem dX4_countOfForm_20 : decode cX4_countOfForm 20 = .ok (.iload_n 3, 1) := by decide +kernel
theorem dX4_countOfForm_21 : decode cX4_countOfForm 21 = .ok (.iaload, 1) := by decide +kernel
theorem dX4_countOfForm_22 : decode cX4_countOfForm 22 = .ok (.iload_n 1, 1) := by decide +kernel
theorem dX4_countOfForm_23 : decode cX4_countOfForm 23 = .ok (.if_icmp .ne 7, 3) := by decide +kernel
theorem dX4_countOfForm_26 : decode cX4_countOfForm 26 = .ok (.iconst 1, 1) := by decide +kernel
theorem dX4_countOfForm_27 : decode cX4_countOfForm 27 = .ok (.goto 4, 3) := by decide +kernel
theorem dX4_countOfForm_30 : decode cX4_countOfForm 30 = .ok (.iconst 0, 1) := by decide +kernel
theorem dX4_countOfForm_31 : decode cX4_countOfForm 31 = .ok (.iadd, 1) := by decide +kernel
theorem dX4_countOfForm_32 : decode cX4_countOfForm 32 = .ok (.istore_n 2, 1) := by decide +kernel
theorem dX4_countOfForm_33 : decode cX4_countOfForm 33 = .ok (.iinc 3 1, 3) := by decide +kernel
theorem dX4_countOfForm_36 : decode cX4_countOfForm 36 = .ok (.goto (-32), 3) := by decide +kernel
theorem dX4_countOfForm_39 : decode cX4_countOfForm 39 = .ok (.iload_n 2, 1) := by decide +kernel
theorem dX4_countOfForm_40 : decode cX4_countOfForm 40 = .ok (.ireturn, 1) := by decide +kernel
theorem dX4_sumOfCosts_0 : decode cX4_sumOfCosts 0 = .ok (.iconst 0, 1) := by decide +kernel
theorem dX4_sumOfCosts_1 : decode cX4_sumOfCosts 1 = .ok (.istore_n 2, 1) := by decide +kernel
theorem dX4_sumOfCosts_2 : decode cX4_sumOfCosts 2 = .ok (.iconst 0, 1) := by decide +kernel
theorem dX4_sumOfCosts_3 : decode cX4_sumOfCosts 3 = .ok (.istore_n 3, 1) := by decide +kernel
theorem dX4_sumOfCosts_4 : decode cX4_sumOfCosts 4 = .ok (.iload_n 3, 1) := by decide +kernel
theorem dX4_sumOfCosts_5 : decode cX4_sumOfCosts 5 = .ok (.aload_n 0, 1) := by decide +kernel
theorem dX4_sumOfCosts_6 : decode cX4_sumOfCosts 6 = .ok (.getfield 33, 3) := by decide +kernel
theorem dX4_sumOfCosts_9 : decode cX4_sumOfCosts 9 = .ok (.getfield 52, 3) := by decide +kernel
theorem dX4_sumOfCosts_12 : decode cX4_sumOfCosts 12 = .ok (.if_icmp .ge 36, 3) := by decide +kernel
theorem dX4_sumOfCosts_15 : decode cX4_sumOfCosts 15 = .ok (.aload_n 0, 1) := by decide +kernel
theorem dX4_sumOfCosts_16 : decode cX4_sumOfCosts 16 = .ok (.getfield 9, 3) := by decide +kernel
theorem dX4_sumOfCosts_19 : decode cX4_sumOfCosts 19 = .ok (.iload_n 3, 1) := by decide +kernel
theorem dX4_sumOfCosts_20 : decode cX4_sumOfCosts 20 = .ok (.iaload, 1) := by decide +kernel
theorem dX4_sumOfCosts_21 : decode cX4_sumOfCosts 21 = .ok (.iload_n 1, 1) := by decide +kernel
theorem dX4_sumOfCosts_22 : decode cX4_sumOfCosts 22 = .ok (.if_icmp .ge 20, 3) := by decide +kernel
theorem dX4_sumOfCosts_25 : decode cX4_sumOfCosts 25 = .ok (.iload_n 2, 1) := by decide +kernel
theorem dX4_sumOfCosts_26 : decode cX4_sumOfCosts 26 = .ok (.aload_n 0, 1) := by decide +kernel
theorem dX4_sumOfCosts_27 : decode cX4_sumOfCosts 27 = .ok (.getfield 33, 3) := by decide +kernel
theorem dX4_sumOfCosts_30 : decode cX4_sumOfCosts 30 = .ok (.iload_n 3, 1) := by decide +kernel
theorem dX4_sumOfCosts_31 : decode cX4_sumOfCosts 31 = .ok (.aload_n 0, 1) := by decide +kernel
theorem dX4_sumOfCosts_32 : decode cX4_sumOfCosts 32 = .ok (.getfield 15, 3) := by decide +kernel
theorem dX4_sumOfCosts_35 : decode cX4_sumOfCosts 35 = .ok (.iload_n 3, 1) := by decide +kernel
theorem dX4_sumOfCosts_36 : decode cX4_sumOfCosts 36 = .ok (.iaload, 1) := by decide +kernel
theorem dX4_sumOfCosts_37 : decode cX4_sumOfCosts 37 = .ok (.invokevirtual 127, 3) := by decide +kernel
theorem dX4_sumOfCosts_40 : decode cX4_sumOfCosts 40 = .ok (.iadd, 1) := by decide +kernel
theorem dX4_sumOfCosts_41 : decode cX4_sumOfCosts 41 = .ok (.istore_n 2, 1) := by decide +kernel
theorem dX4_sumOfCosts_42 : decode cX4_sumOfCosts 42 = .ok (.iinc 3 1, 3) := by decide +kernel
theorem dX4_sumOfCosts_45 : decode cX4_sumOfCosts 45 = .ok (.goto (-41), 3) := by decide +kernel
theorem dX4_sumOfCosts_48 : decode cX4_sumOfCosts 48 = .ok (.iload_n 2, 1) := by decide +kernel
theorem dX4_sumOfCosts_49 : decode cX4_sumOfCosts 49 = .ok (.ireturn, 1) := by decide +kernel
theorem dX4_cyclesOfProfile_0 : decode cX4_cyclesOfProfile 0 = .ok (.aload_n 0, 1) := by decide +kernel
theorem dX4_cyclesOfProfile_1 : decode cX4_cyclesOfProfile 1 = .ok (.aload_n 0, 1) := by decide +kernel
theorem dX4_cyclesOfProfile_2 : decode cX4_cyclesOfProfile 2 = .ok (.getfield 33, 3) := by decide +kernel
theorem dX4_cyclesOfProfile_5 : decode cX4_cyclesOfProfile 5 = .ok (.getfield 52, 3) := by decide +kernel
theorem dX4_cyclesOfProfile_8 : decode cX4_cyclesOfProfile 8 = .ok (.invokevirtual 130, 3) := by decide +kernel
theorem dX4_cyclesOfProfile_11 : decode cX4_cyclesOfProfile 11 = .ok (.istore_n 1, 1) := by decide +kernel
theorem dX4_cyclesOfProfile_12 : decode cX4_cyclesOfProfile 12 = .ok (.iconst 0, 1) := by decide +kernel
theorem dX4_cyclesOfProfile_13 : decode cX4_cyclesOfProfile 13 = .ok (.istore_n 2, 1) := by decide +kernel
theorem dX4_cyclesOfProfile_14 : decode cX4_cyclesOfProfile 14 = .ok (.iload_n 2, 1) := by decide +kernel
theorem dX4_cyclesOfProfile_15 : decode cX4_cyclesOfProfile 15 = .ok (.aload_n 0, 1) := by decide +kernel
theorem dX4_cyclesOfProfile_16 : decode cX4_cyclesOfProfile 16 = .ok (.getfield 33, 3) := by decide +kernel
theorem dX4_cyclesOfProfile_19 : decode cX4_cyclesOfProfile 19 = .ok (.getfield 52, 3) := by decide +kernel
theorem dX4_cyclesOfProfile_22 : decode cX4_cyclesOfProfile 22 = .ok (.if_icmp .ge 34, 3) := by decide +kernel
theorem dX4_cyclesOfProfile_25 : decode cX4_cyclesOfProfile 25 = .ok (.aload_n 0, 1) := by decide +kernel
theorem dX4_cyclesOfProfile_26 : decode cX4_cyclesOfProfile 26 = .ok (.iload_n 2, 1) := by decide +kernel
theorem dX4_cyclesOfProfile_27 : decode cX4_cyclesOfProfile 27 = .ok (.invokevirtual 133, 3) := by decide +kernel
theorem dX4_cyclesOfProfile_30 : decode cX4_cyclesOfProfile 30 = .ok (.ifCond .eq 20, 3) := by decide +kernel
theorem dX4_cyclesOfProfile_33 : decode cX4_cyclesOfProfile 33 = .ok (.iload_n 1, 1) := by decide +kernel
theorem dX4_cyclesOfProfile_34 : decode cX4_cyclesOfProfile 34 = .ok (.aload_n 0, 1) := by decide +kernel
theorem dX4_cyclesOfProfile_35 : decode cX4_cyclesOfProfile 35 = .ok (.getfield 33, 3) := by decide +kernel
theorem dX4_cyclesOfProfile_38 : decode cX4_cyclesOfProfile 38 = .ok (.iload_n 2, 1) := by decide +kernel
theorem dX4_cyclesOfProfile_39 : decode cX4_cyclesOfProfile 39 = .ok (.aload_n 0, 1) := by decide +kernel
theorem dX4_cyclesOfProfile_40 : decode cX4_cyclesOfProfile 40 = .ok (.getfield 15, 3) := by decide +kernel
theorem dX4_cyclesOfProfile_43 : decode cX4_cyclesOfProfile 43 = .ok (.iload_n 2, 1) := by decide +kernel
theorem dX4_cyclesOfProfile_44 : decode cX4_cyclesOfProfile 44 = .ok (.iaload, 1) := by decide +kernel
theorem dX4_cyclesOfProfile_45 : decode cX4_cyclesOfProfile 45 = .ok (.invokevirtual 136, 3) := by decide +kernel
theorem dX4_cyclesOfProfile_48 : decode cX4_cyclesOfProfile 48 = .ok (.iadd, 1) := by decide +kernel
theorem dX4_cyclesOfProfile_49 : decode cX4_cyclesOfProfile 49 = .ok (.istore_n 1, 1) := by decide +kernel
theorem dX4_cyclesOfProfile_50 : decode cX4_cyclesOfProfile 50 = .ok (.iinc 2 1, 3) := by decide +kernel
theorem dX4_cyclesOfProfile_53 : decode cX4_cyclesOfProfile 53 = .ok (.goto (-39), 3) := by decide +kernel
theorem dX4_cyclesOfProfile_56 : decode cX4_cyclesOfProfile 56 = .ok (.iload_n 1, 1) := by decide +kernel
theorem dX4_cyclesOfProfile_57 : decode cX4_cyclesOfProfile 57 = .ok (.ireturn, 1) := by decide +kernel
theorem dX4_hasPaddedNext_0 : decode cX4_hasPaddedNext 0 = .ok (.aload_n 0, 1) := by decide +kernel
theorem dX4_hasPaddedNext_1 : decode cX4_hasPaddedNext 1 = .ok (.getfield 15, 3) := by decide +kernel
theorem dX4_hasPaddedNext_4 : decode cX4_hasPaddedNext 4 = .ok (.iload_n 1, 1) := by decide +kernel
theorem dX4_hasPaddedNext_5 : decode cX4_hasPaddedNext 5 = .ok (.iaload, 1) := by decide +kernel
theorem dX4_hasPaddedNext_6 : decode cX4_hasPaddedNext 6 = .ok (.iconst (-1), 1) := by decide +kernel
theorem dX4_hasPaddedNext_7 : decode cX4_hasPaddedNext 7 = .ok (.if_icmp .eq 21, 3) := by decide +kernel
theorem dX4_hasPaddedNext_10 : decode cX4_hasPaddedNext 10 = .ok (.aload_n 0, 1) := by decide +kernel
theorem dX4_hasPaddedNext_11 : decode cX4_hasPaddedNext 11 = .ok (.getfield 30, 3) := by decide +kernel
theorem dX4_hasPaddedNext_14 : decode cX4_hasPaddedNext 14 = .ok (.aload_n 0, 1) := by decide +kernel
theorem dX4_hasPaddedNext_15 : decode cX4_hasPaddedNext 15 = .ok (.getfield 15, 3) := by decide +kernel
theorem dX4_hasPaddedNext_18 : decode cX4_hasPaddedNext 18 = .ok (.iload_n 1, 1) := by decide +kernel
theorem dX4_hasPaddedNext_19 : decode cX4_hasPaddedNext 19 = .ok (.iaload, 1) := by decide +kernel
theorem dX4_hasPaddedNext_20 : decode cX4_hasPaddedNext 20 = .ok (.iaload, 1) := by decide +kernel
theorem dX4_hasPaddedNext_21 : decode cX4_hasPaddedNext 21 = .ok (.ifCond .le 7, 3) := by decide +kernel
theorem dX4_hasPaddedNext_24 : decode cX4_hasPaddedNext 24 = .ok (.iconst 1, 1) := by decide +kernel
theorem dX4_hasPaddedNext_25 : decode cX4_hasPaddedNext 25 = .ok (.goto 4, 3) := by decide +kernel
theorem dX4_hasPaddedNext_28 : decode cX4_hasPaddedNext 28 = .ok (.iconst 0, 1) := by decide +kernel
theorem dX4_hasPaddedNext_29 : decode cX4_hasPaddedNext 29 = .ok (.ireturn, 1) := by decide +kernel
theorem dX4_cyclesOfPath_0 : decode cX4_cyclesOfPath 0 = .ok (.iconst 0, 1) := by decide +kernel
theorem dX4_cyclesOfPath_1 : decode cX4_cyclesOfPath 1 = .ok (.istore_n 2, 1) := by decide +kernel
theorem dX4_cyclesOfPath_2 : decode cX4_cyclesOfPath 2 = .ok (.iconst 0, 1) := by decide +kernel
theorem dX4_cyclesOfPath_3 : decode cX4_cyclesOfPath 3 = .ok (.istore_n 3, 1) := by decide +kernel
theorem dX4_cyclesOfPath_4 : decode cX4_cyclesOfPath 4 = .ok (.iload_n 3, 1) := by decide +kernel
theorem dX4_cyclesOfPath_5 : decode cX4_cyclesOfPath 5 = .ok (.iconst 1, 1) := by decide +kernel
theorem dX4_cyclesOfPath_6 : decode cX4_cyclesOfPath 6 = .ok (.iadd, 1) := by decide +kernel
theorem dX4_cyclesOfPath_7 : decode cX4_cyclesOfPath 7 = .ok (.aload_n 1, 1) := by decide +kernel
theorem dX4_cyclesOfPath_8 : decode cX4_cyclesOfPath 8 = .ok (.getfield 139, 3) := by decide +kernel
theorem dX4_cyclesOfPath_11 : decode cX4_cyclesOfPath 11 = .ok (.if_icmp .ge 73, 3) := by decide +kernel
theorem dX4_cyclesOfPath_14 : decode cX4_cyclesOfPath 14 = .ok (.aload_n 1, 1) := by decide +kernel
theorem dX4_cyclesOfPath_15 : decode cX4_cyclesOfPath 15 = .ok (.getfield 144, 3) := by decide +kernel
theorem dX4_cyclesOfPath_18 : decode cX4_cyclesOfPath 18 = .ok (.iload_n 3, 1) := by decide +kernel
theorem dX4_cyclesOfPath_19 : decode cX4_cyclesOfPath 19 = .ok (.iaload, 1) := by decide +kernel
theorem dX4_cyclesOfPath_20 : decode cX4_cyclesOfPath 20 = .ok (.istore 4, 2) := by decide +kernel
theorem dX4_cyclesOfPath_22 : decode cX4_cyclesOfPath 22 = .ok (.aload_n 1, 1) := by decide +kernel
theorem dX4_cyclesOfPath_23 : decode cX4_cyclesOfPath 23 = .ok (.getfield 144, 3) := by decide +kernel
theorem dX4_cyclesOfPath_26 : decode cX4_cyclesOfPath 26 = .ok (.iload_n 3, 1) := by decide +kernel
theorem dX4_cyclesOfPath_27 : decode cX4_cyclesOfPath 27 = .ok (.iconst 1, 1) := by decide +kernel
theorem dX4_cyclesOfPath_28 : decode cX4_cyclesOfPath 28 = .ok (.iadd, 1) := by decide +kernel
theorem dX4_cyclesOfPath_29 : decode cX4_cyclesOfPath 29 = .ok (.iaload, 1) := by decide +kernel
theorem dX4_cyclesOfPath_30 : decode cX4_cyclesOfPath 30 = .ok (.istore 5, 2) := by decide +kernel
theorem dX4_cyclesOfPath_32 : decode cX4_cyclesOfPath 32 = .ok (.iload_n 2, 1) := by decide +kernel
theorem dX4_cyclesOfPath_33 : decode cX4_cyclesOfPath 33 = .ok (.aload_n 0, 1) := by decide +kernel
theorem dX4_cyclesOfPath_34 : decode cX4_cyclesOfPath 34 = .ok (.getfield 33, 3) := by decide +kernel
theorem dX4_cyclesOfPath_37 : decode cX4_cyclesOfPath 37 = .ok (.iload 4, 2) := by decide +kernel
theorem dX4_cyclesOfPath_39 : decode cX4_cyclesOfPath 39 = .ok (.iload 5, 2) := by decide +kernel
theorem dX4_cyclesOfPath_41 : decode cX4_cyclesOfPath 41 = .ok (.aload_n 0, 1) := by decide +kernel
theorem dX4_cyclesOfPath_42 : decode cX4_cyclesOfPath 42 = .ok (.getfield 15, 3) := by decide +kernel
theorem dX4_cyclesOfPath_45 : decode cX4_cyclesOfPath 45 = .ok (.iload 4, 2) := by decide +kernel
theorem dX4_cyclesOfPath_47 : decode cX4_cyclesOfPath 47 = .ok (.iaload, 1) := by decide +kernel
theorem dX4_cyclesOfPath_48 : decode cX4_cyclesOfPath 48 = .ok (.invokevirtual 147, 3) := by decide +kernel
theorem dX4_cyclesOfPath_51 : decode cX4_cyclesOfPath 51 = .ok (.iadd, 1) := by decide +kernel
theorem dX4_cyclesOfPath_52 : decode cX4_cyclesOfPath 52 = .ok (.istore_n 2, 1) := by decide +kernel
theorem dX4_cyclesOfPath_53 : decode cX4_cyclesOfPath 53 = .ok (.iload 5, 2) := by decide +kernel
theorem dX4_cyclesOfPath_55 : decode cX4_cyclesOfPath 55 = .ok (.aload_n 0, 1) := by decide +kernel
theorem dX4_cyclesOfPath_56 : decode cX4_cyclesOfPath 56 = .ok (.getfield 15, 3) := by decide +kernel
theorem dX4_cyclesOfPath_59 : decode cX4_cyclesOfPath 59 = .ok (.iload 4, 2) := by decide +kernel
theorem dX4_cyclesOfPath_61 : decode cX4_cyclesOfPath 61 = .ok (.iaload, 1) := by decide +kernel
theorem dX4_cyclesOfPath_62 : decode cX4_cyclesOfPath 62 = .ok (.if_icmp .ne 16, 3) := by decide +kernel
theorem dX4_cyclesOfPath_65 : decode cX4_cyclesOfPath 65 = .ok (.aload_n 0, 1) := by decide +kernel
theorem dX4_cyclesOfPath_66 : decode cX4_cyclesOfPath 66 = .ok (.getfield 30, 3) := by decide +kernel
theorem dX4_cyclesOfPath_69 : decode cX4_cyclesOfPath 69 = .ok (.iload 5, 2) := by decide +kernel
theorem dX4_cyclesOfPath_71 : decode cX4_cyclesOfPath 71 = .ok (.iaload, 1) := by decide +kernel
theorem dX4_cyclesOfPath_72 : decode cX4_cyclesOfPath 72 = .ok (.ifCond .le 6, 3) := by decide +kernel
theorem dX4_cyclesOfPath_75 : decode cX4_cyclesOfPath 75 = .ok (.iinc 2 1, 3) := by decide +kernel
theorem dX4_cyclesOfPath_78 : decode cX4_cyclesOfPath 78 = .ok (.iinc 3 1, 3) := by decide +kernel
theorem dX4_cyclesOfPath_81 : decode cX4_cyclesOfPath 81 = .ok (.goto (-77), 3) := by decide +kernel
theorem dX4_cyclesOfPath_84 : decode cX4_cyclesOfPath 84 = .ok (.iload_n 2, 1) := by decide +kernel
theorem dX4_cyclesOfPath_85 : decode cX4_cyclesOfPath 85 = .ok (.ireturn, 1) := by decide +kernel
theorem dX5_init_0 : decode cX5_init 0 = .ok (.aload_n 0, 1) := by decide +kernel
theorem dX5_init_1 : decode cX5_init 1 = .ok (.invokespecial 3, 3) := by decide +kernel
theorem dX5_init_4 : decode cX5_init 4 = .ok (.aload_n 0, 1) := by decide +kernel
theorem dX5_init_5 : decode cX5_init 5 = .ok (.bipush 16, 2) := by decide +kernel
theorem dX5_init_7 : decode cX5_init 7 = .ok (.newarray .int, 2) := by decide +kernel
theorem dX5_init_9 : decode cX5_init 9 = .ok (.putfield 9, 3) := by decide +kernel
theorem dX5_init_12 : decode cX5_init 12 = .ok (.aload_n 0, 1) := by decide +kernel
theorem dX5_init_13 : decode cX5_init 13 = .ok (.iconst 1, 1) := by decide +kernel
theorem dX5_init_14 : decode cX5_init 14 = .ok (.putfield 15, 3) := by decide +kernel
theorem dX5_init_17 : decode cX5_init 17 = .ok (.return_, 1) := by decide +kernel
theorem dX5_begin_0 : decode cX5_begin 0 = .ok (.iconst 0, 1) := by decide +kernel
theorem dX5_begin_1 : decode cX5_begin 1 = .ok (.istore_n 2, 1) := by decide +kernel
theorem dX5_begin_2 : decode cX5_begin 2 = .ok (.iload_n 2, 1) := by decide +kernel
theorem dX5_begin_3 : decode cX5_begin 3 = .ok (.bipush 16, 2) := by decide +kernel
theorem dX5_begin_5 : decode cX5_begin 5 = .ok (.if_icmp .ge 16, 3) := by decide +kernel
theorem dX5_begin_8 : decode cX5_begin 8 = .ok (.aload_n 0, 1) := by decide +kernel
theorem dX5_begin_9 : decode cX5_begin 9 = .ok (.getfield 9, 3) := by decide +kernel
theorem dX5_begin_12 : decode cX5_begin 12 = .ok (.iload_n 2, 1) := by decide +kernel
theorem dX5_begin_13 : decode cX5_begin 13 = .ok (.iload_n 2, 1) := by decide +kernel
theorem dX5_begin_14 : decode cX5_begin 14 = .ok (.iastore, 1) := by decide +kernel
theorem dX5_begin_15 : decode cX5_begin 15 = .ok (.iinc 2 1, 3) := by decide +kernel
theorem dX5_begin_18 : decode cX5_begin 18 = .ok (.goto (-16), 3) := by decide +kernel
theorem dX5_begin_21 : decode cX5_begin 21 = .ok (.aload_n 0, 1) := by decide +kernel
theorem dX5_begin_22 : decode cX5_begin 22 = .ok (.iload_n 1, 1) := by decide +kernel
theorem dX5_begin_23 : decode cX5_begin 23 = .ok (.putfield 19, 3) := by decide +kernel
theorem dX5_begin_26 : decode cX5_begin 26 = .ok (.return_, 1) := by decide +kernel
theorem dX6_init_0 : decode cX6_init 0 = .ok (.aload_n 0, 1) := by decide +kernel
theorem dX6_init_1 : decode cX6_init 1 = .ok (.invokespecial 3, 3) := by decide +kernel
theorem dX6_init_4 : decode cX6_init 4 = .ok (.aload_n 0, 1) := by decide +kernel
theorem dX6_init_5 : decode cX6_init 5 = .ok (.bipush 16, 2) := by decide +kernel
theorem dX6_init_7 : decode cX6_init 7 = .ok (.newarray .int, 2) := by decide +kernel
theorem dX6_init_9 : decode cX6_init 9 = .ok (.putfield 9, 3) := by decide +kernel
theorem dX6_init_12 : decode cX6_init 12 = .ok (.aload_n 0, 1) := by decide +kernel
theorem dX6_init_13 : decode cX6_init 13 = .ok (.bipush 16, 2) := by decide +kernel
theorem dX6_init_15 : decode cX6_init 15 = .ok (.newarray .int, 2) := by decide +kernel
theorem dX6_init_17 : decode cX6_init 17 = .ok (.putfield 15, 3) := by decide +kernel
theorem dX6_init_20 : decode cX6_init 20 = .ok (.aload_n 0, 1) := by decide +kernel
theorem dX6_init_21 : decode cX6_init 21 = .ok (.bipush 16, 2) := by decide +kernel
theorem dX6_init_23 : decode cX6_init 23 = .ok (.newarray .int, 2) := by decide +kernel
theorem dX6_init_25 : decode cX6_init 25 = .ok (.putfield 18, 3) := by decide +kernel
theorem dX6_init_28 : decode cX6_init 28 = .ok (.aload_n 0, 1) := by decide +kernel
theorem dX6_init_29 : decode cX6_init 29 = .ok (.bipush 16, 2) := by decide +kernel
theorem dX6_init_31 : decode cX6_init 31 = .ok (.newarray .int, 2) := by decide +kernel
theorem dX6_init_33 : decode cX6_init 33 = .ok (.putfield 21, 3) := by decide +kernel
theorem dX6_init_36 : decode cX6_init 36 = .ok (.aload_n 0, 1) := by decide +kernel
theorem dX6_init_37 : decode cX6_init 37 = .ok (.bipush 16, 2) := by decide +kernel
theorem dX6_init_39 : decode cX6_init 39 = .ok (.newarray .int, 2) := by decide +kernel
theorem dX6_init_41 : decode cX6_init 41 = .ok (.putfield 24, 3) := by decide +kernel
theorem dX6_init_44 : decode cX6_init 44 = .ok (.aload_n 0, 1) := by decide +kernel
theorem dX6_init_45 : decode cX6_init 45 = .ok (.bipush 16, 2) := by decide +kernel
theorem dX6_init_47 : decode cX6_init 47 = .ok (.newarray .int, 2) := by decide +kernel
theorem dX6_init_49 : decode cX6_init 49 = .ok (.putfield 27, 3) := by decide +kernel
theorem dX6_init_52 : decode cX6_init 52 = .ok (.aload_n 0, 1) := by decide +kernel
theorem dX6_init_53 : decode cX6_init 53 = .ok (.bipush 16, 2) := by decide +kernel
theorem dX6_init_55 : decode cX6_init 55 = .ok (.newarray .int, 2) := by decide +kernel
theorem dX6_init_57 : decode cX6_init 57 = .ok (.putfield 30, 3) := by decide +kernel
theorem dX6_init_60 : decode cX6_init 60 = .ok (.aload_n 0, 1) := by decide +kernel
theorem dX6_init_61 : decode cX6_init 61 = .ok (.bipush 16, 2) := by decide +kernel
theorem dX6_init_63 : decode cX6_init 63 = .ok (.newarray .int, 2) := by decide +kernel
theorem dX6_init_65 : decode cX6_init 65 = .ok (.putfield 33, 3) := by decide +kernel
theorem dX6_init_68 : decode cX6_init 68 = .ok (.return_, 1) := by decide +kernel
theorem dX6_begin_0 : decode cX6_begin 0 = .ok (.aload_n 0, 1) := by decide +kernel
theorem dX6_begin_1 : decode cX6_begin 1 = .ok (.iload_n 1, 1) := by decide +kernel
theorem dX6_begin_2 : decode cX6_begin 2 = .ok (.putfield 36, 3) := by decide +kernel
theorem dX6_begin_5 : decode cX6_begin 5 = .ok (.iconst 0, 1) := by decide +kernel
theorem dX6_begin_6 : decode cX6_begin 6 = .ok (.istore_n 2, 1) := by decide +kernel
theorem dX6_begin_7 : decode cX6_begin 7 = .ok (.iload_n 2, 1) := by decide +kernel
theorem dX6_begin_8 : decode cX6_begin 8 = .ok (.bipush 16, 2) := by decide +kernel
theorem dX6_begin_10 : decode cX6_begin 10 = .ok (.if_icmp .ge 44, 3) := by decide +kernel
theorem dX6_begin_13 : decode cX6_begin 13 = .ok (.aload_n 0, 1) := by decide +kernel
theorem dX6_begin_14 : decode cX6_begin 14 = .ok (.getfield 9, 3) := by decide +kernel
theorem dX6_begin_17 : decode cX6_begin 17 = .ok (.iload_n 2, 1) := by decide +kernel
theorem dX6_begin_18 : decode cX6_begin 18 = .ok (.iconst 0, 1) := by decide +kernel
theorem dX6_begin_19 : decode cX6_begin 19 = .ok (.iastore, 1) := by decide +kernel
theorem dX6_begin_20 : decode cX6_begin 20 = .ok (.aload_n 0, 1) := by decide +kernel
theorem dX6_begin_21 : decode cX6_begin 21 = .ok (.getfield 15, 3) := by decide +kernel
theorem dX6_begin_24 : decode cX6_begin 24 = .ok (.iload_n 2, 1) := by decide +kernel
theorem dX6_begin_25 : decode cX6_begin 25 = .ok (.iconst 2, 1) := by decide +kernel
theorem dX6_begin_26 : decode cX6_begin 26 = .ok (.iastore, 1) := by decide +kernel
theorem dX6_begin_27 : decode cX6_begin 27 = .ok (.aload_n 0, 1) := by decide +kernel
theorem dX6_begin_28 : decode cX6_begin 28 = .ok (.getfield 18, 3) := by decide +kernel
theorem dX6_begin_31 : decode cX6_begin 31 = .ok (.iload_n 2, 1) := by decide +kernel
theorem dX6_begin_32 : decode cX6_begin 32 = .ok (.iconst (-1), 1) := by decide +kernel
theorem dX6_begin_33 : decode cX6_begin 33 = .ok (.iastore, 1) := by decide +kernel
theorem dX6_begin_34 : decode cX6_begin 34 = .ok (.aload_n 0, 1) := by decide +kernel
theorem dX6_begin_35 : decode cX6_begin 35 = .ok (.getfield 21, 3) := by decide +kernel
theorem dX6_begin_38 : decode cX6_begin 38 = .ok (.iload_n 2, 1) := by decide +kernel
theorem dX6_begin_39 : decode cX6_begin 39 = .ok (.iconst (-1), 1) := by decide +kernel
theorem dX6_begin_40 : decode cX6_begin 40 = .ok (.iastore, 1) := by decide +kernel
theorem dX6_begin_41 : decode cX6_begin 41 = .ok (.aload_n 0, 1) := by decide +kernel
theorem dX6_begin_42 : decode cX6_begin 42 = .ok (.getfield 24, 3) := by decide +kernel
theorem dX6_begin_45 : decode cX6_begin 45 = .ok (.iload_n 2, 1) := by decide +kernel
theorem dX6_begin_46 : decode cX6_begin 46 = .ok (.iconst 0, 1) := by decide +kernel
theorem dX6_begin_47 : decode cX6_begin 47 = .ok (.iastore, 1) := by decide +kernel
theorem dX6_begin_48 : decode cX6_begin 48 = .ok (.iinc 2 1, 3) := by decide +kernel
theorem dX6_begin_51 : decode cX6_begin 51 = .ok (.goto (-44), 3) := by decide +kernel
theorem dX6_begin_54 : decode cX6_begin 54 = .ok (.aload_n 0, 1) := by decide +kernel
theorem dX6_begin_55 : decode cX6_begin 55 = .ok (.invokevirtual 40, 3) := by decide +kernel
theorem dX6_begin_58 : decode cX6_begin 58 = .ok (.aload_n 0, 1) := by decide +kernel
theorem dX6_begin_59 : decode cX6_begin 59 = .ok (.iconst 0, 1) := by decide +kernel
theorem dX6_begin_60 : decode cX6_begin 60 = .ok (.putfield 43, 3) := by decide +kernel
theorem dX6_begin_63 : decode cX6_begin 63 = .ok (.return_, 1) := by decide +kernel
theorem dX6_has_0 : decode cX6_has 0 = .ok (.iload_n 1, 1) := by decide +kernel
theorem dX6_has_1 : decode cX6_has 1 = .ok (.ifCond .lt 15, 3) := by decide +kernel
theorem dX6_has_4 : decode cX6_has 4 = .ok (.iload_n 1, 1) := by decide +kernel
theorem dX6_has_5 : decode cX6_has 5 = .ok (.aload_n 0, 1) := by decide +kernel
theorem dX6_has_6 : decode cX6_has 6 = .ok (.getfield 36, 3) := by decide +kernel
theorem dX6_has_9 : decode cX6_has 9 = .ok (.if_icmp .ge 7, 3) := by decide +kernel
theorem dX6_has_12 : decode cX6_has 12 = .ok (.iconst 1, 1) := by decide +kernel
theorem dX6_has_13 : decode cX6_has 13 = .ok (.goto 4, 3) := by decide +kernel
theorem dX6_has_16 : decode cX6_has 16 = .ok (.iconst 0, 1) := by decide +kernel
theorem dX6_has_17 : decode cX6_has 17 = .ok (.ireturn, 1) := by decide +kernel
theorem dX6_changeEnd_0 : decode cX6_changeEnd 0 = .ok (.aload_n 0, 1) := by decide +kernel
theorem dX6_changeEnd_1 : decode cX6_changeEnd 1 = .ok (.getfield 15, 3) := by decide +kernel
theorem dX6_changeEnd_4 : decode cX6_changeEnd 4 = .ok (.iload_n 1, 1) := by decide +kernel
theorem dX6_changeEnd_5 : decode cX6_changeEnd 5 = .ok (.iaload, 1) := by decide +kernel
theorem dX6_changeEnd_6 : decode cX6_changeEnd 6 = .ok (.istore 6, 2) := by decide +kernel
theorem dX6_changeEnd_8 : decode cX6_changeEnd 8 = .ok (.aload_n 0, 1) := by decide +kernel
theorem dX6_changeEnd_9 : decode cX6_changeEnd 9 = .ok (.getfield 15, 3) := by decide +kernel
theorem dX6_changeEnd_12 : decode cX6_changeEnd 12 = .ok (.iload_n 1, 1) := by decide +kernel
theorem dX6_changeEnd_13 : decode cX6_changeEnd 13 = .ok (.iload_n 2, 1) := by decide +kernel
theorem dX6_changeEnd_14 : decode cX6_changeEnd 14 = .ok (.iastore, 1) := by decide +kernel
theorem dX6_changeEnd_15 : decode cX6_changeEnd 15 = .ok (.aload_n 0, 1) := by decide +kernel
theorem dX6_changeEnd_16 : decode cX6_changeEnd 16 = .ok (.getfield 18, 3) := by decide +kernel
theorem dX6_changeEnd_19 : decode cX6_changeEnd 19 = .ok (.iload_n 1, 1) := by decide +kernel
theorem dX6_changeEnd_20 : decode cX6_changeEnd 20 = .ok (.iload_n 3, 1) := by decide +kernel
theorem dX6_changeEnd_21 : decode cX6_changeEnd 21 = .ok (.iastore, 1) := by decide +kernel
theorem dX6_changeEnd_22 : decode cX6_changeEnd 22 = .ok (.aload_n 0, 1) := by decide +kernel
theorem dX6_changeEnd_23 : decode cX6_changeEnd 23 = .ok (.getfield 21, 3) := by decide +kernel
theorem dX6_changeEnd_26 : decode cX6_changeEnd 26 = .ok (.iload_n 1, 1) := by decide +kernel
theorem dX6_changeEnd_27 : decode cX6_changeEnd 27 = .ok (.iload 4, 2) := by decide +kernel
theorem dX6_changeEnd_29 : decode cX6_changeEnd 29 = .ok (.iastore, 1) := by decide +kernel
theorem dX6_changeEnd_30 : decode cX6_changeEnd 30 = .ok (.aload_n 0, 1) := by decide +kernel
theorem dX6_changeEnd_31 : decode cX6_changeEnd 31 = .ok (.getfield 24, 3) := by decide +kernel
theorem dX6_changeEnd_34 : decode cX6_changeEnd 34 = .ok (.iload_n 1, 1) := by decide +kernel
theorem dX6_changeEnd_35 : decode cX6_changeEnd 35 = .ok (.iload 5, 2) := by decide +kernel
theorem dX6_changeEnd_37 : decode cX6_changeEnd 37 = .ok (.iastore, 1) := by decide +kernel
theorem dX6_changeEnd_38 : decode cX6_changeEnd 38 = .ok (.aload_n 0, 1) := by decide +kernel
theorem dX6_changeEnd_39 : decode cX6_changeEnd 39 = .ok (.getfield 30, 3) := by decide +kernel
theorem dX6_changeEnd_42 : decode cX6_changeEnd 42 = .ok (.iload_n 1, 1) := by decide +kernel
theorem dX6_changeEnd_43 : decode cX6_changeEnd 43 = .ok (.iconst 0, 1) := by decide +kernel
theorem dX6_changeEnd_44 : decode cX6_changeEnd 44 = .ok (.iastore, 1) := by decide +kernel
theorem dX6_changeEnd_45 : decode cX6_changeEnd 45 = .ok (.aload_n 0, 1) := by decide +kernel
theorem dX6_changeEnd_46 : decode cX6_changeEnd 46 = .ok (.getfield 33, 3) := by decide +kernel
theorem dX6_changeEnd_49 : decode cX6_changeEnd 49 = .ok (.iload_n 1, 1) := by decide +kernel
theorem dX6_changeEnd_50 : decode cX6_changeEnd 50 = .ok (.iconst 0, 1) := by decide +kernel
theorem dX6_changeEnd_51 : decode cX6_changeEnd 51 = .ok (.iastore, 1) := by decide +kernel
theorem dX6_changeEnd_52 : decode cX6_changeEnd 52 = .ok (.aload_n 0, 1) := by decide +kernel
theorem dX6_changeEnd_53 : decode cX6_changeEnd 53 = .ok (.invokevirtual 46, 3) := by decide +kernel
theorem dX6_changeEnd_56 : decode cX6_changeEnd 56 = .ok (.iload 6, 2) := by decide +kernel
theorem dX6_changeEnd_58 : decode cX6_changeEnd 58 = .ok (.ireturn, 1) := by decide +kernel
theorem dX6_swapTargets_0 : decode cX6_swapTargets 0 = .ok (.aload_n 0, 1) := by decide +kernel
theorem dX6_swapTargets_1 : decode cX6_swapTargets 1 = .ok (.getfield 18, 3) := by decide +kernel
theorem dX6_swapTargets_4 : decode cX6_swapTargets 4 = .ok (.iload_n 1, 1) := by decide +kernel
theorem dX6_swapTargets_5 : decode cX6_swapTargets 5 = .ok (.iaload, 1) := by decide +kernel
theorem dX6_swapTargets_6 : decode cX6_swapTargets 6 = .ok (.istore_n 2, 1) := by decide +kernel
theorem dX6_swapTargets_7 : decode cX6_swapTargets 7 = .ok (.aload_n 0, 1) := by decide +kernel
theorem dX6_swapTargets_8 : decode cX6_swapTargets 8 = .ok (.getfield 18, 3) := by decide +kernel
theorem dX6_swapTargets_11 : decode cX6_swapTargets 11 = .ok (.iload_n 1, 1) := by decide +kernel
theorem dX6_swapTargets_12 : decode cX6_swapTargets 12 = .ok (.aload_n 0, 1) := by decide +kernel
theorem dX6_swapTargets_13 : decode cX6_swapTargets 13 = .ok (.getfield 21, 3) := by decide +kernel
theorem dX6_swapTargets_16 : decode cX6_swapTargets 16 = .ok (.iload_n 1, 1) := by decide +kernel
theorem dX6_swapTargets_17 : decode cX6_swapTargets 17 = .ok (.iaload, 1) := by decide +kernel
theorem dX6_swapTargets_18 : decode cX6_swapTargets 18 = .ok (.iastore, 1) := by decide +kernel
theorem dX6_swapTargets_19 : decode cX6_swapTargets 19 = .ok (.aload_n 0, 1) := by decide +kernel
theorem dX6_swapTargets_20 : decode cX6_swapTargets 20 = .ok (.getfield 21, 3) := by decide +kernel
theorem dX6_swapTargets_23 : decode cX6_swapTargets 23 = .ok (.iload_n 1, 1) := by decide +kernel
theorem dX6_swapTargets_24 : decode cX6_swapTargets 24 = .ok (.iload_n 2, 1) := by decide +kernel
theorem dX6_swapTargets_25 : decode cX6_swapTargets 25 = .ok (.iastore, 1) := by decide +kernel
theorem dX6_swapTargets_26 : decode cX6_swapTargets 26 = .ok (.aload_n 0, 1) := by decide +kernel
theorem dX6_swapTargets_27 : decode cX6_swapTargets 27 = .ok (.getfield 30, 3) := by decide +kernel
theorem dX6_swapTargets_30 : decode cX6_swapTargets 30 = .ok (.iload_n 1, 1) := by decide +kernel
theorem dX6_swapTargets_31 : decode cX6_swapTargets 31 = .ok (.iaload, 1) := by decide +kernel
theorem dX6_swapTargets_32 : decode cX6_swapTargets 32 = .ok (.istore_n 3, 1) := by decide +kernel
theorem dX6_swapTargets_33 : decode cX6_swapTargets 33 = .ok (.aload_n 0, 1) := by decide +kernel
theorem dX6_swapTargets_34 : decode cX6_swapTargets 34 = .ok (.getfield 30, 3) := by decide +kernel
theorem dX6_swapTargets_37 : decode cX6_swapTargets 37 = .ok (.iload_n 1, 1) := by decide +kernel
theorem dX6_swapTargets_38 : decode cX6_swapTargets 38 = .ok (.aload_n 0, 1) := by decide +kernel
theorem dX6_swapTargets_39 : decode cX6_swapTargets 39 = .ok (.getfield 33, 3) := by decide +kernel
theorem dX6_swapTargets_42 : decode cX6_swapTargets 42 = .ok (.iload_n 1, 1) := by decide +kernel
theorem dX6_swapTargets_43 : decode cX6_swapTargets 43 = .ok (.iaload, 1) := by decide +kernel
theorem dX6_swapTargets_44 : decode cX6_swapTargets 44 = .ok (.iastore, 1) := by decide +kernel
theorem dX6_swapTargets_45 : decode cX6_swapTargets 45 = .ok (.aload_n 0, 1) := by decide +kernel
theorem dX6_swapTargets_46 : decode cX6_swapTargets 46 = .ok (.getfield 33, 3) := by decide +kernel
theorem dX6_swapTargets_49 : decode cX6_swapTargets 49 = .ok (.iload_n 1, 1) := by decide +kernel
theorem dX6_swapTargets_50 : decode cX6_swapTargets 50 = .ok (.iload_n 3, 1) := by decide +kernel
theorem dX6_swapTargets_51 : decode cX6_swapTargets 51 = .ok (.iastore, 1) := by decide +kernel
theorem dX6_swapTargets_52 : decode cX6_swapTargets 52 = .ok (.aload_n 0, 1) := by decide +kernel
theorem dX6_swapTargets_53 : decode cX6_swapTargets 53 = .ok (.getfield 24, 3) := by decide +kernel
theorem dX6_swapTargets_56 : decode cX6_swapTargets 56 = .ok (.iload_n 1, 1) := by decide +kernel
theorem dX6_swapTargets_57 : decode cX6_swapTargets 57 = .ok (.aload_n 0, 1) := by decide +kernel
theorem dX6_swapTargets_58 : decode cX6_swapTargets 58 = .ok (.getfield 24, 3) := by decide +kernel
theorem dX6_swapTargets_61 : decode cX6_swapTargets 61 = .ok (.iload_n 1, 1) := by decide +kernel
theorem dX6_swapTargets_62 : decode cX6_swapTargets 62 = .ok (.iaload, 1) := by decide +kernel
theorem dX6_swapTargets_63 : decode cX6_swapTargets 63 = .ok (.iconst (-1), 1) := by decide +kernel
theorem dX6_swapTargets_64 : decode cX6_swapTargets 64 = .ok (.ixor, 1) := by decide +kernel
theorem dX6_swapTargets_65 : decode cX6_swapTargets 65 = .ok (.iastore, 1) := by decide +kernel
theorem dX6_swapTargets_66 : decode cX6_swapTargets 66 = .ok (.return_, 1) := by decide +kernel
theorem dX6_forgetProfile_0 : decode cX6_forgetProfile 0 = .ok (.iconst 0, 1) := by decide +kernel
theorem dX6_forgetProfile_1 : decode cX6_forgetProfile 1 = .ok (.istore_n 1, 1) := by decide +kernel
theorem dX6_forgetProfile_2 : decode cX6_forgetProfile 2 = .ok (.iload_n 1, 1) := by decide +kernel
theorem dX6_forgetProfile_3 : decode cX6_forgetProfile 3 = .ok (.bipush 16, 2) := by decide +kernel
theorem dX6_forgetProfile_5 : decode cX6_forgetProfile 5 = .ok (.if_icmp .ge 30, 3) := by decide +kernel
theorem dX6_forgetProfile_8 : decode cX6_forgetProfile 8 = .ok (.aload_n 0, 1) := by decide +kernel
theorem dX6_forgetProfile_9 : decode cX6_forgetProfile 9 = .ok (.getfield 27, 3) := by decide +kernel
theorem dX6_forgetProfile_12 : decode cX6_forgetProfile 12 = .ok (.iload_n 1, 1) := by decide +kernel
theorem dX6_forgetProfile_13 : decode cX6_forgetProfile 13 = .ok (.iconst 0, 1) := by decide +kernel
theorem dX6_forgetProfile_14 : decode cX6_forgetProfile 14 = .ok (.iastore, 1) := by decide +kernel
theorem dX6_forgetProfile_15 : decode cX6_forgetProfile 15 = .ok (.aload_n 0, 1) := by decide +kernel
theorem dX6_forgetProfile_16 : decode cX6_forgetProfile 16 = .ok (.getfield 30, 3) := by decide +kernel
theorem dX6_forgetProfile_19 : decode cX6_forgetProfile 19 = .ok (.iload_n 1, 1) := by decide +kernel
theorem dX6_forgetProfile_20 : decode cX6_forgetProfile 20 = .ok (.iconst 0, 1) := by decide +kernel
theorem dX6_forgetProfile_21 : decode cX6_forgetProfile 21 = .ok (.iastore, 1) := by decide +kernel
theorem dX6_forgetProfile_22 : decode cX6_forgetProfile 22 = .ok (.aload_n 0, 1) := by decide +kernel
theorem dX6_forgetProfile_23 : decode cX6_forgetProfile 23 = .ok (.getfield 33, 3) := by decide +kernel
theorem dX6_forgetProfile_26 : decode cX6_forgetProfile 26 = .ok (.iload_n 1, 1) := by decide +kernel
theorem dX6_forgetProfile_27 : decode cX6_forgetProfile 27 = .ok (.iconst 0, 1) := by decide +kernel
theorem dX6_forgetProfile_28 : decode cX6_forgetProfile 28 = .ok (.iastore, 1) := by decide +kernel
theorem dX6_forgetProfile_29 : decode cX6_forgetProfile 29 = .ok (.iinc 1 1, 3) := by decide +kernel
theorem dX6_forgetProfile_32 : decode cX6_forgetProfile 32 = .ok (.goto (-30), 3) := by decide +kernel
theorem dX6_forgetProfile_35 : decode cX6_forgetProfile 35 = .ok (.return_, 1) := by decide +kernel
theorem dX6_sumOfCounts_0 : decode cX6_sumOfCounts 0 = .ok (.iconst 0, 1) := by decide +kernel
theorem dX6_sumOfCounts_1 : decode cX6_sumOfCounts 1 = .ok (.istore_n 1, 1) := by decide +kernel
theorem dX6_sumOfCounts_2 : decode cX6_sumOfCounts 2 = .ok (.iconst 0, 1) := by decide +kernel
theorem dX6_sumOfCounts_3 : decode cX6_sumOfCounts 3 = .ok (.istore_n 2, 1) := by decide +kernel
theorem dX6_sumOfCounts_4 : decode cX6_sumOfCounts 4 = .ok (.iload_n 2, 1) := by decide +kernel
theorem dX6_sumOfCounts_5 : decode cX6_sumOfCounts 5 = .ok (.aload_n 0, 1) := by decide +kernel
theorem dX6_sumOfCounts_6 : decode cX6_sumOfCounts 6 = .ok (.getfield 36, 3) := by decide +kernel
theorem dX6_sumOfCounts_9 : decode cX6_sumOfCounts 9 = .ok (.if_icmp .ge 18, 3) := by decide +kernel
theorem dX6_sumOfCounts_12 : decode cX6_sumOfCounts 12 = .ok (.iload_n 1, 1) := by decide +kernel
theorem dX6_sumOfCounts_13 : decode cX6_sumOfCounts 13 = .ok (.aload_n 0, 1) := by decide +kernel
theorem dX6_sumOfCounts_14 : decode cX6_sumOfCounts 14 = .ok (.getfield 27, 3) := by decide +kernel
theorem dX6_sumOfCounts_17 : decode cX6_sumOfCounts 17 = .ok (.iload_n 2, 1) := by decide +kernel
theorem dX6_sumOfCounts_18 : decode cX6_sumOfCounts 18 = .ok (.iaload, 1) := by decide +kernel
theorem dX6_sumOfCounts_19 : decode cX6_sumOfCounts 19 = .ok (.iadd, 1) := by decide +kernel
theorem dX6_sumOfCounts_20 : decode cX6_sumOfCounts 20 = .ok (.istore_n 1, 1) := by decide +kernel
theorem dX6_sumOfCounts_21 : decode cX6_sumOfCounts 21 = .ok (.iinc 2 1, 3) := by decide +kernel
theorem dX6_sumOfCounts_24 : decode cX6_sumOfCounts 24 = .ok (.goto (-20), 3) := by decide +kernel
theorem dX6_sumOfCounts_27 : decode cX6_sumOfCounts 27 = .ok (.iload_n 1, 1) := by decide +kernel
theorem dX6_sumOfCounts_28 : decode cX6_sumOfCounts 28 = .ok (.ireturn, 1) := by decide +kernel
theorem dX6_weightTo_0 : decode cX6_weightTo 0 = .ok (.iload_n 2, 1) := by decide +kernel
theorem dX6_weightTo_1 : decode cX6_weightTo 1 = .ok (.iconst (-1), 1) := by decide +kernel
theorem dX6_weightTo_2 : decode cX6_weightTo 2 = .ok (.if_icmp .ne 5, 3) := by decide +kernel
theorem dX6_weightTo_5 : decode cX6_weightTo 5 = .ok (.iconst 0, 1) := by decide +kernel
theorem dX6_weightTo_6 : decode cX6_weightTo 6 = .ok (.ireturn, 1) := by decide +kernel
theorem dX6_weightTo_7 : decode cX6_weightTo 7 = .ok (.aload_n 0, 1) := by decide +kernel
theorem dX6_weightTo_8 : decode cX6_weightTo 8 = .ok (.getfield 18, 3) := by decide +kernel
theorem dX6_weightTo_11 : decode cX6_weightTo 11 = .ok (.iload_n 1, 1) := by decide +kernel
theorem dX6_weightTo_12 : decode cX6_weightTo 12 = .ok (.iaload, 1) := by decide +kernel
theorem dX6_weightTo_13 : decode cX6_weightTo 13 = .ok (.iload_n 2, 1) := by decide +kernel
theorem dX6_weightTo_14 : decode cX6_weightTo 14 = .ok (.if_icmp .ne 10, 3) := by decide +kernel
theorem dX6_weightTo_17 : decode cX6_weightTo 17 = .ok (.aload_n 0, 1) := by decide +kernel
theorem dX6_weightTo_18 : decode cX6_weightTo 18 = .ok (.getfield 30, 3) := by decide +kernel
theorem dX6_weightTo_21 : decode cX6_weightTo 21 = .ok (.iload_n 1, 1) := by decide +kernel
theorem dX6_weightTo_22 : decode cX6_weightTo 22 = .ok (.iaload, 1) := by decide +kernel
theorem dX6_weightTo_23 : decode cX6_weightTo 23 = .ok (.ireturn, 1) := by decide +kernel
theorem dX6_weightTo_24 : decode cX6_weightTo 24 = .ok (.aload_n 0, 1) := by decide +kernel
theorem dX6_weightTo_25 : decode cX6_weightTo 25 = .ok (.getfield 21, 3) := by decide +kernel
theorem dX6_weightTo_28 : decode cX6_weightTo 28 = .ok (.iload_n 1, 1) := by decide +kernel
theorem dX6_weightTo_29 : decode cX6_weightTo 29 = .ok (.iaload, 1) := by decide +kernel
theorem dX6_weightTo_30 : decode cX6_weightTo 30 = .ok (.iload_n 2, 1) := by decide +kernel
theorem dX6_weightTo_31 : decode cX6_weightTo 31 = .ok (.if_icmp .ne 12, 3) := by decide +kernel
theorem dX6_weightTo_34 : decode cX6_weightTo 34 = .ok (.aload_n 0, 1) := by decide +kernel
theorem dX6_weightTo_35 : decode cX6_weightTo 35 = .ok (.getfield 33, 3) := by decide +kernel
theorem dX6_weightTo_38 : decode cX6_weightTo 38 = .ok (.iload_n 1, 1) := by decide +kernel
theorem dX6_weightTo_39 : decode cX6_weightTo 39 = .ok (.iaload, 1) := by decide +kernel
theorem dX6_weightTo_40 : decode cX6_weightTo 40 = .ok (.goto 4, 3) := by decide +kernel
theorem dX6_weightTo_43 : decode cX6_weightTo 43 = .ok (.iconst 0, 1) := by decide +kernel
theorem dX6_weightTo_44 : decode cX6_weightTo 44 = .ok (.ireturn, 1) := by decide +kernel
theorem dX6_costOf_0 : decode cX6_costOf 0 = .ok (.aload_n 0, 1) := by decide +kernel
theorem dX6_costOf_1 : decode cX6_costOf 1 = .ok (.getfield 30, 3) := by decide +kernel
theorem dX6_costOf_4 : decode cX6_costOf 4 = .ok (.iload_n 1, 1) := by decide +kernel
theorem dX6_costOf_5 : decode cX6_costOf 5 = .ok (.iaload, 1) := by decide +kernel
theorem dX6_costOf_6 : decode cX6_costOf 6 = .ok (.aload_n 0, 1) := by decide +kernel
theorem dX6_costOf_7 : decode cX6_costOf 7 = .ok (.iload_n 1, 1) := by decide +kernel
theorem dX6_costOf_8 : decode cX6_costOf 8 = .ok (.aload_n 0, 1) := by decide +kernel
theorem dX6_costOf_9 : decode cX6_costOf 9 = .ok (.getfield 18, 3) := by decide +kernel
theorem dX6_costOf_12 : decode cX6_costOf 12 = .ok (.iload_n 1, 1) := by decide +kernel
theorem dX6_costOf_13 : decode cX6_costOf 13 = .ok (.iaload, 1) := by decide +kernel
theorem dX6_costOf_14 : decode cX6_costOf 14 = .ok (.iload_n 2, 1) := by decide +kernel
theorem dX6_costOf_15 : decode cX6_costOf 15 = .ok (.invokevirtual 49, 3) := by decide +kernel
theorem dX6_costOf_18 : decode cX6_costOf 18 = .ok (.imul, 1) := by decide +kernel
theorem dX6_costOf_19 : decode cX6_costOf 19 = .ok (.istore_n 3, 1) := by decide +kernel
theorem dX6_costOf_20 : decode cX6_costOf 20 = .ok (.iload_n 3, 1) := by decide +kernel
theorem dX6_costOf_21 : decode cX6_costOf 21 = .ok (.aload_n 0, 1) := by decide +kernel
theorem dX6_costOf_22 : decode cX6_costOf 22 = .ok (.getfield 33, 3) := by decide +kernel
theorem dX6_costOf_25 : decode cX6_costOf 25 = .ok (.iload_n 1, 1) := by decide +kernel
theorem dX6_costOf_26 : decode cX6_costOf 26 = .ok (.iaload, 1) := by decide +kernel
theorem dX6_costOf_27 : decode cX6_costOf 27 = .ok (.aload_n 0, 1) := by decide +kernel
theorem dX6_costOf_28 : decode cX6_costOf 28 = .ok (.iload_n 1, 1) := by decide +kernel
theorem dX6_costOf_29 : decode cX6_costOf 29 = .ok (.aload_n 0, 1) := by decide +kernel
theorem dX6_costOf_30 : decode cX6_costOf 30 = .ok (.getfield 21, 3) := by decide +kernel
theorem dX6_costOf_33 : decode cX6_costOf 33 = .ok (.iload_n 1, 1) := by decide +kernel
theorem dX6_costOf_34 : decode cX6_costOf 34 = .ok (.iaload, 1) := by decide +kernel
theorem dX6_costOf_35 : decode cX6_costOf 35 = .ok (.iload_n 2, 1) := by decide +kernel
theorem dX6_costOf_36 : decode cX6_costOf 36 = .ok (.invokevirtual 49, 3) := by decide +kernel
theorem dX6_costOf_39 : decode cX6_costOf 39 = .ok (.imul, 1) := by decide +kernel
theorem dX6_costOf_40 : decode cX6_costOf 40 = .ok (.iadd, 1) := by decide +kernel
theorem dX6_costOf_41 : decode cX6_costOf 41 = .ok (.ireturn, 1) := by decide +kernel
theorem dX6_edgeCycles_0 : decode cX6_edgeCycles 0 = .ok (.iload_n 2, 1) := by decide +kernel
theorem dX6_edgeCycles_1 : decode cX6_edgeCycles 1 = .ok (.iload_n 3, 1) := by decide +kernel
theorem dX6_edgeCycles_2 : decode cX6_edgeCycles 2 = .ok (.if_icmp .ne 7, 3) := by decide +kernel
theorem dX6_edgeCycles_5 : decode cX6_edgeCycles 5 = .ok (.iconst 1, 1) := by decide +kernel
theorem dX6_edgeCycles_6 : decode cX6_edgeCycles 6 = .ok (.goto 4, 3) := by decide +kernel
theorem dX6_edgeCycles_9 : decode cX6_edgeCycles 9 = .ok (.iconst 0, 1) := by decide +kernel
theorem dX6_edgeCycles_10 : decode cX6_edgeCycles 10 = .ok (.istore 4, 2) := by decide +kernel
theorem dX6_edgeCycles_12 : decode cX6_edgeCycles 12 = .ok (.aload_n 0, 1) := by decide +kernel
theorem dX6_edgeCycles_13 : decode cX6_edgeCycles 13 = .ok (.getfield 15, 3) := by decide +kernel
theorem dX6_edgeCycles_16 : decode cX6_edgeCycles 16 = .ok (.iload_n 1, 1) := by decide +kernel
theorem dX6_edgeCycles_17 : decode cX6_edgeCycles 17 = .ok (.iaload, 1) := by decide +kernel
theorem dX6_edgeCycles_18 : decode cX6_edgeCycles 18 = .ok (.ifCond .ne 14, 3) := by decide +kernel
theorem dX6_edgeCycles_21 : decode cX6_edgeCycles 21 = .ok (.iload 4, 2) := by decide +kernel
theorem dX6_edgeCycles_23 : decode cX6_edgeCycles 23 = .ok (.ifCond .eq 7, 3) := by decide +kernel
theorem dX6_edgeCycles_26 : decode cX6_edgeCycles 26 = .ok (.iconst 0, 1) := by decide +kernel
theorem dX6_edgeCycles_27 : decode cX6_edgeCycles 27 = .ok (.goto 4, 3) := by decide +kernel
theorem dX6_edgeCycles_30 : decode cX6_edgeCycles 30 = .ok (.iconst 2, 1) := by decide +kernel
theorem dX6_edgeCycles_31 : decode cX6_edgeCycles 31 = .ok (.ireturn, 1) := by decide +kernel
theorem dX6_edgeCycles_32 : decode cX6_edgeCycles 32 = .ok (.iload 4, 2) := by decide +kernel
theorem dX6_edgeCycles_34 : decode cX6_edgeCycles 34 = .ok (.ifCond .eq 7, 3) := by decide +kernel
theorem dX6_edgeCycles_37 : decode cX6_edgeCycles 37 = .ok (.iconst 1, 1) := by decide +kernel
theorem dX6_edgeCycles_38 : decode cX6_edgeCycles 38 = .ok (.goto 4, 3) := by decide +kernel
theorem dX6_edgeCycles_41 : decode cX6_edgeCycles 41 = .ok (.iconst 3, 1) := by decide +kernel
theorem dX6_edgeCycles_42 : decode cX6_edgeCycles 42 = .ok (.ireturn, 1) := by decide +kernel
theorem dX6_isHead_0 : decode cX6_isHead 0 = .ok (.aload_n 0, 1) := by decide +kernel
theorem dX6_isHead_1 : decode cX6_isHead 1 = .ok (.getfield 43, 3) := by decide +kernel
theorem dX6_isHead_4 : decode cX6_isHead 4 = .ok (.iload_n 1, 1) := by decide +kernel
theorem dX6_isHead_5 : decode cX6_isHead 5 = .ok (.invokestatic 53, 3) := by decide +kernel
theorem dX6_isHead_8 : decode cX6_isHead 8 = .ok (.ireturn, 1) := by decide +kernel
theorem dX6_findHeads_0 : decode cX6_findHeads 0 = .ok (.aload_n 0, 1) := by decide +kernel
theorem dX6_findHeads_1 : decode cX6_findHeads 1 = .ok (.iconst 0, 1) := by decide +kernel
theorem dX6_findHeads_2 : decode cX6_findHeads 2 = .ok (.putfield 43, 3) := by decide +kernel
theorem dX6_findHeads_5 : decode cX6_findHeads 5 = .ok (.aload_n 0, 1) := by decide +kernel
theorem dX6_findHeads_6 : decode cX6_findHeads 6 = .ok (.ldc 57, 2) := by decide +kernel
theorem dX6_findHeads_8 : decode cX6_findHeads 8 = .ok (.invokevirtual 58, 3) := by decide +kernel
theorem dX6_findHeads_11 : decode cX6_findHeads 11 = .ok (.istore_n 1, 1) := by decide +kernel
theorem dX6_findHeads_12 : decode cX6_findHeads 12 = .ok (.iconst 0, 1) := by decide +kernel
theorem dX6_findHeads_13 : decode cX6_findHeads 13 = .ok (.istore_n 2, 1) := by decide +kernel
theorem dX6_findHeads_14 : decode cX6_findHeads 14 = .ok (.iload_n 2, 1) := by decide +kernel
theorem dX6_findHeads_15 : decode cX6_findHeads 15 = .ok (.aload_n 0, 1) := by decide +kernel
theorem dX6_findHeads_16 : decode cX6_findHeads 16 = .ok (.getfield 36, 3) := by decide +kernel
theorem dX6_findHeads_19 : decode cX6_findHeads 19 = .ok (.if_icmp .ge 47, 3) := by decide +kernel
theorem dX6_findHeads_22 : decode cX6_findHeads 22 = .ok (.iload_n 1, 1) := by decide +kernel
theorem dX6_findHeads_23 : decode cX6_findHeads 23 = .ok (.aload_n 0, 1) := by decide +kernel
theorem dX6_findHeads_24 : decode cX6_findHeads 24 = .ok (.ldc 57, 2) := by decide +kernel
theorem dX6_findHeads_26 : decode cX6_findHeads 26 = .ok (.iconst 1, 1) := by decide +kernel
theorem dX6_findHeads_27 : decode cX6_findHeads 27 = .ok (.iload_n 2, 1) := by decide +kernel
theorem dX6_findHeads_28 : decode cX6_findHeads 28 = .ok (.ishl, 1) := by decide +kernel
theorem dX6_findHeads_29 : decode cX6_findHeads 29 = .ok (.iconst (-1), 1) := by decide +kernel
theorem dX6_findHeads_30 : decode cX6_findHeads 30 = .ok (.ixor, 1) := by decide +kernel
theorem dX6_findHeads_31 : decode cX6_findHeads 31 = .ok (.iand, 1) := by decide +kernel
theorem dX6_findHeads_32 : decode cX6_findHeads 32 = .ok (.invokevirtual 58, 3) := by decide +kernel
theorem dX6_findHeads_35 : decode cX6_findHeads 35 = .ok (.iconst (-1), 1) := by decide +kernel
theorem dX6_findHeads_36 : decode cX6_findHeads 36 = .ok (.ixor, 1) := by decide +kernel
theorem dX6_findHeads_37 : decode cX6_findHeads 37 = .ok (.iand, 1) := by decide +kernel
theorem dX6_findHeads_38 : decode cX6_findHeads 38 = .ok (.istore_n 3, 1) := by decide +kernel
theorem dX6_findHeads_39 : decode cX6_findHeads 39 = .ok (.aload_n 0, 1) := by decide +kernel
theorem dX6_findHeads_40 : decode cX6_findHeads 40 = .ok (.iload_n 3, 1) := by decide +kernel
theorem dX6_findHeads_41 : decode cX6_findHeads 41 = .ok (.iload_n 2, 1) := by decide +kernel
theorem dX6_findHeads_42 : decode cX6_findHeads 42 = .ok (.invokevirtual 62, 3) := by decide +kernel
theorem dX6_findHeads_45 : decode cX6_findHeads 45 = .ok (.ifCond .eq 15, 3) := by decide +kernel
theorem dX6_findHeads_48 : decode cX6_findHeads 48 = .ok (.aload_n 0, 1) := by decide +kernel
theorem dX6_findHeads_49 : decode cX6_findHeads 49 = .ok (.dup, 1) := by decide +kernel
theorem dX6_findHeads_50 : decode cX6_findHeads 50 = .ok (.getfield 43, 3) := by decide +kernel
theorem dX6_findHeads_53 : decode cX6_findHeads 53 = .ok (.iconst 1, 1) := by decide +kernel
theorem dX6_findHeads_54 : decode cX6_findHeads 54 = .ok (.iload_n 2, 1) := by decide +kernel
theorem dX6_findHeads_55 : decode cX6_findHeads 55 = .ok (.ishl, 1) := by decide +kernel
theorem dX6_findHeads_56 : decode cX6_findHeads 56 = .ok (.ior, 1) := by decide +kernel
theorem dX6_findHeads_57 : decode cX6_findHeads 57 = .ok (.putfield 43, 3) := by decide +kernel
theorem dX6_findHeads_60 : decode cX6_findHeads 60 = .ok (.iinc 2 1, 3) := by decide +kernel
theorem dX6_findHeads_63 : decode cX6_findHeads 63 = .ok (.goto (-49), 3) := by decide +kernel
theorem dX6_findHeads_66 : decode cX6_findHeads 66 = .ok (.return_, 1) := by decide +kernel
theorem dX6_reachedWithin_0 : decode cX6_reachedWithin 0 = .ok (.iload_n 1, 1) := by decide +kernel
theorem dX6_reachedWithin_1 : decode cX6_reachedWithin 1 = .ok (.iconst 1, 1) := by decide +kernel
theorem dX6_reachedWithin_2 : decode cX6_reachedWithin 2 = .ok (.iand, 1) := by decide +kernel
theorem dX6_reachedWithin_3 : decode cX6_reachedWithin 3 = .ok (.istore_n 2, 1) := by decide +kernel
theorem dX6_reachedWithin_4 : decode cX6_reachedWithin 4 = .ok (.iload_n 2, 1) := by decide +kernel
theorem dX6_reachedWithin_5 : decode cX6_reachedWithin 5 = .ok (.ifCond .eq 7, 3) := by decide +kernel
theorem dX6_reachedWithin_8 : decode cX6_reachedWithin 8 = .ok (.iconst 1, 1) := by decide +kernel
theorem dX6_reachedWithin_9 : decode cX6_reachedWithin 9 = .ok (.goto 4, 3) := by decide +kernel
theorem dX6_reachedWithin_12 : decode cX6_reachedWithin 12 = .ok (.iconst 0, 1) := by decide +kernel
theorem dX6_reachedWithin_13 : decode cX6_reachedWithin 13 = .ok (.istore_n 3, 1) := by decide +kernel
theorem dX6_reachedWithin_14 : decode cX6_reachedWithin 14 = .ok (.iconst 0, 1) := by decide +kernel
theorem dX6_reachedWithin_15 : decode cX6_reachedWithin 15 = .ok (.istore 4, 2) := by decide +kernel
theorem dX6_reachedWithin_17 : decode cX6_reachedWithin 17 = .ok (.iload 4, 2) := by decide +kernel
theorem dX6_reachedWithin_19 : decode cX6_reachedWithin 19 = .ok (.aload_n 0, 1) := by decide +kernel
theorem dX6_reachedWithin_20 : decode cX6_reachedWithin 20 = .ok (.getfield 36, 3) := by decide +kernel
theorem dX6_reachedWithin_23 : decode cX6_reachedWithin 23 = .ok (.if_icmp .ge 66, 3) := by decide +kernel
theorem dX6_reachedWithin_26 : decode cX6_reachedWithin 26 = .ok (.iload_n 3, 1) := by decide +kernel
theorem dX6_reachedWithin_27 : decode cX6_reachedWithin 27 = .ok (.ifCond .eq 62, 3) := by decide +kernel
theorem dX6_reachedWithin_30 : decode cX6_reachedWithin 30 = .ok (.iload_n 2, 1) := by decide +kernel
theorem dX6_reachedWithin_31 : decode cX6_reachedWithin 31 = .ok (.istore 5, 2) := by decide +kernel
theorem dX6_reachedWithin_33 : decode cX6_reachedWithin 33 = .ok (.iconst 0, 1) := by decide +kernel
theorem dX6_reachedWithin_34 : decode cX6_reachedWithin 34 = .ok (.istore 6, 2) := by decide +kernel
theorem dX6_reachedWithin_36 : decode cX6_reachedWithin 36 = .ok (.iload 6, 2) := by decide +kernel
theorem dX6_reachedWithin_38 : decode cX6_reachedWithin 38 = .ok (.aload_n 0, 1) := by decide +kernel
theorem dX6_reachedWithin_39 : decode cX6_reachedWithin 39 = .ok (.getfield 36, 3) := by decide +kernel
theorem dX6_reachedWithin_42 : decode cX6_reachedWithin 42 = .ok (.if_icmp .ge 29, 3) := by decide +kernel
theorem dX6_reachedWithin_45 : decode cX6_reachedWithin 45 = .ok (.iload_n 2, 1) := by decide +kernel
theorem dX6_reachedWithin_46 : decode cX6_reachedWithin 46 = .ok (.iload 6, 2) := by decide +kernel
theorem dX6_reachedWithin_48 : decode cX6_reachedWithin 48 = .ok (.invokestatic 53, 3) := by decide +kernel
theorem dX6_reachedWithin_51 : decode cX6_reachedWithin 51 = .ok (.ifCond .eq 14, 3) := by decide +kernel
theorem dX6_reachedWithin_54 : decode cX6_reachedWithin 54 = .ok (.iload_n 2, 1) := by decide +kernel
theorem dX6_reachedWithin_55 : decode cX6_reachedWithin 55 = .ok (.aload_n 0, 1) := by decide +kernel
theorem dX6_reachedWithin_56 : decode cX6_reachedWithin 56 = .ok (.iload 6, 2) := by decide +kernel
theorem dX6_reachedWithin_58 : decode cX6_reachedWithin 58 = .ok (.invokevirtual 65, 3) := by decide +kernel
theorem dX6_reachedWithin_61 : decode cX6_reachedWithin 61 = .ok (.iload_n 1, 1) := by decide +kernel
theorem dX6_reachedWithin_62 : decode cX6_reachedWithin 62 = .ok (.iand, 1) := by decide +kernel
theorem dX6_reachedWithin_63 : decode cX6_reachedWithin 63 = .ok (.ior, 1) := by decide +kernel
theorem dX6_reachedWithin_64 : decode cX6_reachedWithin 64 = .ok (.istore_n 2, 1) := by decide +kernel
theorem dX6_reachedWithin_65 : decode cX6_reachedWithin 65 = .ok (.iinc 6 1, 3) := by decide +kernel
theorem dX6_reachedWithin_68 : decode cX6_reachedWithin 68 = .ok (.goto (-32), 3) := by decide +kernel
theorem dX6_reachedWithin_71 : decode cX6_reachedWithin 71 = .ok (.iload_n 2, 1) := by decide +kernel
theorem dX6_reachedWithin_72 : decode cX6_reachedWithin 72 = .ok (.iload 5, 2) := by decide +kernel
theorem dX6_reachedWithin_74 : decode cX6_reachedWithin 74 = .ok (.if_icmp .eq 7, 3) := by decide +kernel
theorem dX6_reachedWithin_77 : decode cX6_reachedWithin 77 = .ok (.iconst 1, 1) := by decide +kernel
theorem dX6_reachedWithin_78 : decode cX6_reachedWithin 78 = .ok (.goto 4, 3) := by decide +kernel
theorem dX6_reachedWithin_81 : decode cX6_reachedWithin 81 = .ok (.iconst 0, 1) := by decide +kernel
theorem dX6_reachedWithin_82 : decode cX6_reachedWithin 82 = .ok (.istore_n 3, 1) := by decide +kernel
theorem dX6_reachedWithin_83 : decode cX6_reachedWithin 83 = .ok (.iinc 4 1, 3) := by decide +kernel
theorem dX6_reachedWithin_86 : decode cX6_reachedWithin 86 = .ok (.goto (-69), 3) := by decide +kernel
theorem dX6_reachedWithin_89 : decode cX6_reachedWithin 89 = .ok (.iload_n 2, 1) := by decide +kernel
theorem dX6_reachedWithin_90 : decode cX6_reachedWithin 90 = .ok (.ireturn, 1) := by decide +kernel
theorem dX6_anyGoesTo_0 : decode cX6_anyGoesTo 0 = .ok (.iconst 0, 1) := by decide +kernel
theorem dX6_anyGoesTo_1 : decode cX6_anyGoesTo 1 = .ok (.istore_n 3, 1) := by decide +kernel
theorem dX6_anyGoesTo_2 : decode cX6_anyGoesTo 2 = .ok (.iload_n 3, 1) := by decide +kernel
theorem dX6_anyGoesTo_3 : decode cX6_anyGoesTo 3 = .ok (.aload_n 0, 1) := by decide +kernel
theorem dX6_anyGoesTo_4 : decode cX6_anyGoesTo 4 = .ok (.getfield 36, 3) := by decide +kernel
theorem dX6_anyGoesTo_7 : decode cX6_anyGoesTo 7 = .ok (.if_icmp .ge 31, 3) := by decide +kernel
theorem dX6_anyGoesTo_10 : decode cX6_anyGoesTo 10 = .ok (.iload_n 1, 1) := by decide +kernel
theorem dX6_anyGoesTo_11 : decode cX6_anyGoesTo 11 = .ok (.iload_n 3, 1) := by decide +kernel
theorem dX6_anyGoesTo_12 : decode cX6_anyGoesTo 12 = .ok (.invokestatic 53, 3) := by decide +kernel
theorem dX6_anyGoesTo_15 : decode cX6_anyGoesTo 15 = .ok (.ifCond .eq 17, 3) := by decide +kernel
theorem dX6_anyGoesTo_18 : decode cX6_anyGoesTo 18 = .ok (.aload_n 0, 1) := by decide +kernel
theorem dX6_anyGoesTo_19 : decode cX6_anyGoesTo 19 = .ok (.iload_n 3, 1) := by decide +kernel
theorem dX6_anyGoesTo_20 : decode cX6_anyGoesTo 20 = .ok (.invokevirtual 65, 3) := by decide +kernel
theorem dX6_anyGoesTo_23 : decode cX6_anyGoesTo 23 = .ok (.iload_n 2, 1) := by decide +kernel
theorem dX6_anyGoesTo_24 : decode cX6_anyGoesTo 24 = .ok (.invokestatic 53, 3) := by decide +kernel
theorem dX6_anyGoesTo_27 : decode cX6_anyGoesTo 27 = .ok (.ifCond .eq 5, 3) := by decide +kernel
theorem dX6_anyGoesTo_30 : decode cX6_anyGoesTo 30 = .ok (.iconst 1, 1) := by decide +kernel
theorem dX6_anyGoesTo_31 : decode cX6_anyGoesTo 31 = .ok (.ireturn, 1) := by decide +kernel
theorem dX6_anyGoesTo_32 : decode cX6_anyGoesTo 32 = .ok (.iinc 3 1, 3) := by decide +kernel
theorem dX6_anyGoesTo_35 : decode cX6_anyGoesTo 35 = .ok (.goto (-33), 3) := by decide +kernel
theorem dX6_anyGoesTo_38 : decode cX6_anyGoesTo 38 = .ok (.iconst 0, 1) := by decide +kernel
theorem dX6_anyGoesTo_39 : decode cX6_anyGoesTo 39 = .ok (.ireturn, 1) := by decide +kernel
theorem dX6_targetsOf_0 : decode cX6_targetsOf 0 = .ok (.iconst 0, 1) := by decide +kernel
theorem dX6_targetsOf_1 : decode cX6_targetsOf 1 = .ok (.istore_n 2, 1) := by decide +kernel
theorem dX6_targetsOf_2 : decode cX6_targetsOf 2 = .ok (.aload_n 0, 1) := by decide +kernel
theorem dX6_targetsOf_3 : decode cX6_targetsOf 3 = .ok (.getfield 18, 3) := by decide +kernel
theorem dX6_targetsOf_6 : decode cX6_targetsOf 6 = .ok (.iload_n 1, 1) := by decide +kernel
theorem dX6_targetsOf_7 : decode cX6_targetsOf 7 = .ok (.iaload, 1) := by decide +kernel
theorem dX6_targetsOf_8 : decode cX6_targetsOf 8 = .ok (.iconst (-1), 1) := by decide +kernel
theorem dX6_targetsOf_9 : decode cX6_targetsOf 9 = .ok (.if_icmp .eq 14, 3) := by decide +kernel
theorem dX6_targetsOf_12 : decode cX6_targetsOf 12 = .ok (.iload_n 2, 1) := by decide +kernel
theorem dX6_targetsOf_13 : decode cX6_targetsOf 13 = .ok (.iconst 1, 1) := by decide +kernel
theorem dX6_targetsOf_14 : decode cX6_targetsOf 14 = .ok (.aload_n 0, 1) := by decide +kernel
theorem dX6_targetsOf_15 : decode cX6_targetsOf 15 = .ok (.getfield 18, 3) := by decide +kernel
theorem dX6_targetsOf_18 : decode cX6_targetsOf 18 = .ok (.iload_n 1, 1) := by decide +kernel
theorem dX6_targetsOf_19 : decode cX6_targetsOf 19 = .ok (.iaload, 1) := by decide +kernel
theorem dX6_targetsOf_20 : decode cX6_targetsOf 20 = .ok (.ishl, 1) := by decide +kernel
theorem dX6_targetsOf_21 : decode cX6_targetsOf 21 = .ok (.ior, 1) := by decide +kernel
theorem dX6_targetsOf_22 : decode cX6_targetsOf 22 = .ok (.istore_n 2, 1) := by decide +kernel
theorem dX6_targetsOf_23 : decode cX6_targetsOf 23 = .ok (.aload_n 0, 1) := by decide +kernel
theorem dX6_targetsOf_24 : decode cX6_targetsOf 24 = .ok (.getfield 21, 3) := by decide +kernel
theorem dX6_targetsOf_27 : decode cX6_targetsOf 27 = .ok (.iload_n 1, 1) := by decide +kernel
theorem dX6_targetsOf_28 : decode cX6_targetsOf 28 = .ok (.iaload, 1) := by decide +kernel
theorem dX6_targetsOf_29 : decode cX6_targetsOf 29 = .ok (.iconst (-1), 1) := by decide +kernel
theorem dX6_targetsOf_30 : decode cX6_targetsOf 30 = .ok (.if_icmp .eq 14, 3) := by decide +kernel
theorem dX6_targetsOf_33 : decode cX6_targetsOf 33 = .ok (.iload_n 2, 1) := by decide +kernel
theorem dX6_targetsOf_34 : decode cX6_targetsOf 34 = .ok (.iconst 1, 1) := by decide +kernel
theorem dX6_targetsOf_35 : decode cX6_targetsOf 35 = .ok (.aload_n 0, 1) := by decide +kernel
theorem dX6_targetsOf_36 : decode cX6_targetsOf 36 = .ok (.getfield 21, 3) := by decide +kernel
theorem dX6_targetsOf_39 : decode cX6_targetsOf 39 = .ok (.iload_n 1, 1) := by decide +kernel
theorem dX6_targetsOf_40 : decode cX6_targetsOf 40 = .ok (.iaload, 1) := by decide +kernel
theorem dX6_targetsOf_41 : decode cX6_targetsOf 41 = .ok (.ishl, 1) := by decide +kernel
theorem dX6_targetsOf_42 : decode cX6_targetsOf 42 = .ok (.ior, 1) := by decide +kernel
theorem dX6_targetsOf_43 : decode cX6_targetsOf 43 = .ok (.istore_n 2, 1) := by decide +kernel
theorem dX6_targetsOf_44 : decode cX6_targetsOf 44 = .ok (.iload_n 2, 1) := by decide +kernel
theorem dX6_targetsOf_45 : decode cX6_targetsOf 45 = .ok (.ireturn, 1) := by decide +kernel
theorem dX6_holds_0 : decode cX6_holds 0 = .ok (.iload_n 0, 1) := by decide +kernel
theorem dX6_holds_1 : decode cX6_holds 1 = .ok (.iload_n 1, 1) := by decide +kernel
theorem dX6_holds_2 : decode cX6_holds 2 = .ok (.ishr, 1) := by decide +kernel
theorem dX6_holds_3 : decode cX6_holds 3 = .ok (.iconst 1, 1) := by decide +kernel
theorem dX6_holds_4 : decode cX6_holds 4 = .ok (.iand, 1) := by decide +kernel
theorem dX6_holds_5 : decode cX6_holds 5 = .ok (.iconst 1, 1) := by decide +kernel
theorem dX6_holds_6 : decode cX6_holds 6 = .ok (.if_icmp .ne 7, 3) := by decide +kernel
theorem dX6_holds_9 : decode cX6_holds 9 = .ok (.iconst 1, 1) := by decide +kernel
theorem dX6_holds_10 : decode cX6_holds 10 = .ok (.goto 4, 3) := by decide +kernel
theorem dX6_holds_13 : decode cX6_holds 13 = .ok (.iconst 0, 1) := by decide +kernel
theorem dX6_holds_14 : decode cX6_holds 14 = .ok (.ireturn, 1) := by decide +kernel
theorem dX7_init_0 : decode cX7_init 0 = .ok (.aload_n 0, 1) := by decide +kernel
theorem dX7_init_1 : decode cX7_init 1 = .ok (.invokespecial 3, 3) := by decide +kernel
theorem dX7_init_4 : decode cX7_init 4 = .ok (.aload_n 0, 1) := by decide +kernel
theorem dX7_init_5 : decode cX7_init 5 = .ok (.new 9, 3) := by decide +kernel
theorem dX7_init_8 : decode cX7_init 8 = .ok (.dup, 1) := by decide +kernel
theorem dX7_init_9 : decode cX7_init 9 = .ok (.invokespecial 11, 3) := by decide +kernel
theorem dX7_init_12 : decode cX7_init 12 = .ok (.putfield 12, 3) := by decide +kernel
theorem dX7_init_15 : decode cX7_init 15 = .ok (.aload_n 0, 1) := by decide +kernel
theorem dX7_init_16 : decode cX7_init 16 = .ok (.new 16, 3) := by decide +kernel
theorem dX7_init_19 : decode cX7_init 19 = .ok (.dup, 1) := by decide +kernel
theorem dX7_init_20 : decode cX7_init 20 = .ok (.invokespecial 18, 3) := by decide +kernel
theorem dX7_init_23 : decode cX7_init 23 = .ok (.putfield 19, 3) := by decide +kernel
theorem dX7_init_26 : decode cX7_init 26 = .ok (.aload_n 0, 1) := by decide +kernel
theorem dX7_init_27 : decode cX7_init 27 = .ok (.new 23, 3) := by decide +kernel
theorem dX7_init_30 : decode cX7_init 30 = .ok (.dup, 1) := by decide +kernel
theorem dX7_init_31 : decode cX7_init 31 = .ok (.aload_n 0, 1) := by decide +kernel
theorem dX7_init_32 : decode cX7_init 32 = .ok (.getfield 12, 3) := by decide +kernel
theorem dX7_init_35 : decode cX7_init 35 = .ok (.aload_n 0, 1) := by decide +kernel
theorem dX7_init_36 : decode cX7_init 36 = .ok (.getfield 19, 3) := by decide +kernel
theorem dX7_init_39 : decode cX7_init 39 = .ok (.invokespecial 25, 3) := by decide +kernel
theorem dX7_init_42 : decode cX7_init 42 = .ok (.putfield 28, 3) := by decide +kernel
theorem dX7_init_45 : decode cX7_init 45 = .ok (.aload_n 0, 1) := by decide +kernel
theorem dX7_init_46 : decode cX7_init 46 = .ok (.new 32, 3) := by decide +kernel
theorem dX7_init_49 : decode cX7_init 49 = .ok (.dup, 1) := by decide +kernel
theorem dX7_init_50 : decode cX7_init 50 = .ok (.aload_n 0, 1) := by decide +kernel
theorem dX7_init_51 : decode cX7_init 51 = .ok (.getfield 12, 3) := by decide +kernel
theorem dX7_init_54 : decode cX7_init 54 = .ok (.aload_n 0, 1) := by decide +kernel
theorem dX7_init_55 : decode cX7_init 55 = .ok (.getfield 19, 3) := by decide +kernel
theorem dX7_init_58 : decode cX7_init 58 = .ok (.invokespecial 34, 3) := by decide +kernel
theorem dX7_init_61 : decode cX7_init 61 = .ok (.putfield 35, 3) := by decide +kernel
theorem dX7_init_64 : decode cX7_init 64 = .ok (.aload_n 0, 1) := by decide +kernel
theorem dX7_init_65 : decode cX7_init 65 = .ok (.new 39, 3) := by decide +kernel
theorem dX7_init_68 : decode cX7_init 68 = .ok (.dup, 1) := by decide +kernel
theorem dX7_init_69 : decode cX7_init 69 = .ok (.aload_n 0, 1) := by decide +kernel
theorem dX7_init_70 : decode cX7_init 70 = .ok (.getfield 12, 3) := by decide +kernel
theorem dX7_init_73 : decode cX7_init 73 = .ok (.invokespecial 41, 3) := by decide +kernel
theorem dX7_init_76 : decode cX7_init 76 = .ok (.putfield 44, 3) := by decide +kernel
theorem dX7_init_79 : decode cX7_init 79 = .ok (.aload_n 0, 1) := by decide +kernel
theorem dX7_init_80 : decode cX7_init 80 = .ok (.new 48, 3) := by decide +kernel
theorem dX7_init_83 : decode cX7_init 83 = .ok (.dup, 1) := by decide +kernel
theorem dX7_init_84 : decode cX7_init 84 = .ok (.invokespecial 50, 3) := by decide +kernel
theorem dX7_init_87 : decode cX7_init 87 = .ok (.putfield 51, 3) := by decide +kernel
theorem dX7_init_90 : decode cX7_init 90 = .ok (.aload_n 0, 1) := by decide +kernel
theorem dX7_init_91 : decode cX7_init 91 = .ok (.new 55, 3) := by decide +kernel
theorem dX7_init_94 : decode cX7_init 94 = .ok (.dup, 1) := by decide +kernel
theorem dX7_init_95 : decode cX7_init 95 = .ok (.invokespecial 57, 3) := by decide +kernel
theorem dX7_init_98 : decode cX7_init 98 = .ok (.putfield 58, 3) := by decide +kernel
theorem dX7_init_101 : decode cX7_init 101 = .ok (.aload_n 0, 1) := by decide +kernel
theorem dX7_init_102 : decode cX7_init 102 = .ok (.iconst 1, 1) := by decide +kernel
theorem dX7_init_103 : decode cX7_init 103 = .ok (.putfield 62, 3) := by decide +kernel
theorem dX7_init_106 : decode cX7_init 106 = .ok (.aload_n 0, 1) := by decide +kernel
theorem dX7_init_107 : decode cX7_init 107 = .ok (.getfield 12, 3) := by decide +kernel
theorem dX7_init_110 : decode cX7_init 110 = .ok (.iconst 1, 1) := by decide +kernel
theorem dX7_init_111 : decode cX7_init 111 = .ok (.invokevirtual 66, 3) := by decide +kernel
theorem dX7_init_114 : decode cX7_init 114 = .ok (.aload_n 0, 1) := by decide +kernel
theorem dX7_init_115 : decode cX7_init 115 = .ok (.getfield 19, 3) := by decide +kernel
theorem dX7_init_118 : decode cX7_init 118 = .ok (.iconst 1, 1) := by decide +kernel
theorem dX7_init_119 : decode cX7_init 119 = .ok (.invokevirtual 70, 3) := by decide +kernel
theorem dX7_init_122 : decode cX7_init 122 = .ok (.return_, 1) := by decide +kernel
theorem dX7_clear_0 : decode cX7_clear 0 = .ok (.iload_n 1, 1) := by decide +kernel
theorem dX7_clear_1 : decode cX7_clear 1 = .ok (.iconst 1, 1) := by decide +kernel
theorem dX7_clear_2 : decode cX7_clear 2 = .ok (.if_icmp .lt 9, 3) := by decide +kernel
theorem dX7_clear_5 : decode cX7_clear 5 = .ok (.iload_n 1, 1) := by decide +kernel
theorem dX7_clear_6 : decode cX7_clear 6 = .ok (.bipush 16, 2) := by decide +kernel
theorem dX7_clear_8 : decode cX7_clear 8 = .ok (.if_icmp .le 13, 3) := by decide +kernel
theorem dX7_clear_11 : decode cX7_clear 11 = .ok (.new 71, 3) := by decide +kernel
theorem dX7_clear_14 : decode cX7_clear 14 = .ok (.dup, 1) := by decide +kernel
theorem dX7_clear_15 : decode cX7_clear 15 = .ok (.ldc 73, 2) := by decide +kernel
theorem dX7_clear_17 : decode cX7_clear 17 = .ok (.invokespecial 75, 3) := by decide +kernel
theorem dX7_clear_20 : decode cX7_clear 20 = .ok (.athrow, 1) := by decide +kernel
theorem dX7_clear_21 : decode cX7_clear 21 = .ok (.aload_n 0, 1) := by decide +kernel
theorem dX7_clear_22 : decode cX7_clear 22 = .ok (.getfield 12, 3) := by decide +kernel
theorem dX7_clear_25 : decode cX7_clear 25 = .ok (.getfield 78, 3) := by decide +kernel
theorem dX7_clear_28 : decode cX7_clear 28 = .ok (.istore_n 2, 1) := by decide +kernel
theorem dX7_clear_29 : decode cX7_clear 29 = .ok (.aload_n 0, 1) := by decide +kernel
theorem dX7_clear_30 : decode cX7_clear 30 = .ok (.getfield 12, 3) := by decide +kernel
theorem dX7_clear_33 : decode cX7_clear 33 = .ok (.iload_n 1, 1) := by decide +kernel
theorem dX7_clear_34 : decode cX7_clear 34 = .ok (.invokevirtual 66, 3) := by decide +kernel
theorem dX7_clear_37 : decode cX7_clear 37 = .ok (.aload_n 0, 1) := by decide +kernel
theorem dX7_clear_38 : decode cX7_clear 38 = .ok (.getfield 19, 3) := by decide +kernel
theorem dX7_clear_41 : decode cX7_clear 41 = .ok (.iload_n 1, 1) := by decide +kernel
theorem dX7_clear_42 : decode cX7_clear 42 = .ok (.invokevirtual 70, 3) := by decide +kernel
theorem dX7_clear_45 : decode cX7_clear 45 = .ok (.aload_n 0, 1) := by decide +kernel
theorem dX7_clear_46 : decode cX7_clear 46 = .ok (.getfield 51, 3) := by decide +kernel
theorem dX7_clear_49 : decode cX7_clear 49 = .ok (.invokevirtual 81, 3) := by decide +kernel
theorem dX7_clear_52 : decode cX7_clear 52 = .ok (.iload_n 2, 1) := by decide +kernel
theorem dX7_clear_53 : decode cX7_clear 53 = .ok (.ireturn, 1) := by decide +kernel
theorem dX7_setSize_0 : decode cX7_setSize 0 = .ok (.aload_n 0, 1) := by decide +kernel
theorem dX7_setSize_1 : decode cX7_setSize 1 = .ok (.iload_n 1, 1) := by decide +kernel
theorem dX7_setSize_2 : decode cX7_setSize 2 = .ok (.invokevirtual 84, 3) := by decide +kernel
theorem dX7_setSize_5 : decode cX7_setSize 5 = .ok (.iload_n 2, 1) := by decide +kernel
theorem dX7_setSize_6 : decode cX7_setSize 6 = .ok (.ifCond .lt 9, 3) := by decide +kernel
theorem dX7_setSize_9 : decode cX7_setSize 9 = .ok (.iload_n 2, 1) := by decide +kernel
theorem dX7_setSize_10 : decode cX7_setSize 10 = .ok (.bipush 60, 2) := by decide +kernel
theorem dX7_setSize_12 : decode cX7_setSize 12 = .ok (.if_icmp .le 13, 3) := by decide +kernel
theorem dX7_setSize_15 : decode cX7_setSize 15 = .ok (.new 71, 3) := by decide +kernel
theorem dX7_setSize_18 : decode cX7_setSize 18 = .ok (.dup, 1) := by decide +kernel
theorem dX7_setSize_19 : decode cX7_setSize 19 = .ok (.ldc 87, 2) := by decide +kernel
theorem dX7_setSize_21 : decode cX7_setSize 21 = .ok (.invokespecial 75, 3) := by decide +kernel
theorem dX7_setSize_24 : decode cX7_setSize 24 = .ok (.athrow, 1) := by decide +kernel
theorem dX7_setSize_25 : decode cX7_setSize 25 = .ok (.aload_n 0, 1) := by decide +kernel
theorem dX7_setSize_26 : decode cX7_setSize 26 = .ok (.getfield 12, 3) := by decide +kernel
theorem dX7_setSize_29 : decode cX7_setSize 29 = .ok (.getfield 89, 3) := by decide +kernel
theorem dX7_setSize_32 : decode cX7_setSize 32 = .ok (.iload_n 1, 1) := by decide +kernel
theorem dX7_setSize_33 : decode cX7_setSize 33 = .ok (.iaload, 1) := by decide +kernel
theorem dX7_setSize_34 : decode cX7_setSize 34 = .ok (.istore_n 3, 1) := by decide +kernel
theorem dX7_setSize_35 : decode cX7_setSize 35 = .ok (.aload_n 0, 1) := by decide +kernel
theorem dX7_setSize_36 : decode cX7_setSize 36 = .ok (.getfield 12, 3) := by decide +kernel
theorem dX7_setSize_39 : decode cX7_setSize 39 = .ok (.getfield 89, 3) := by decide +kernel
theorem dX7_setSize_42 : decode cX7_setSize 42 = .ok (.iload_n 1, 1) := by decide +kernel
theorem dX7_setSize_43 : decode cX7_setSize 43 = .ok (.iload_n 2, 1) := by decide +kernel
theorem dX7_setSize_44 : decode cX7_setSize 44 = .ok (.iastore, 1) := by decide +kernel
theorem dX7_setSize_45 : decode cX7_setSize 45 = .ok (.iload_n 3, 1) := by decide +kernel
theorem dX7_setSize_46 : decode cX7_setSize 46 = .ok (.ireturn, 1) := by decide +kernel
theorem dX7_setGo_0 : decode cX7_setGo 0 = .ok (.aload_n 0, 1) := by decide +kernel
theorem dX7_setGo_1 : decode cX7_setGo 1 = .ok (.iload_n 1, 1) := by decide +kernel
theorem dX7_setGo_2 : decode cX7_setGo 2 = .ok (.invokevirtual 84, 3) := by decide +kernel
theorem dX7_setGo_5 : decode cX7_setGo 5 = .ok (.aload_n 0, 1) := by decide +kernel
theorem dX7_setGo_6 : decode cX7_setGo 6 = .ok (.iload_n 2, 1) := by decide +kernel
theorem dX7_setGo_7 : decode cX7_setGo 7 = .ok (.invokevirtual 84, 3) := by decide +kernel
theorem dX7_setGo_10 : decode cX7_setGo 10 = .ok (.aload_n 0, 1) := by decide +kernel
theorem dX7_setGo_11 : decode cX7_setGo 11 = .ok (.getfield 12, 3) := by decide +kernel
theorem dX7_setGo_14 : decode cX7_setGo 14 = .ok (.iload_n 1, 1) := by decide +kernel
theorem dX7_setGo_15 : decode cX7_setGo 15 = .ok (.iconst 0, 1) := by decide +kernel
theorem dX7_setGo_16 : decode cX7_setGo 16 = .ok (.iload_n 2, 1) := by decide +kernel
theorem dX7_setGo_17 : decode cX7_setGo 17 = .ok (.iconst (-1), 1) := by decide +kernel
theorem dX7_setGo_18 : decode cX7_setGo 18 = .ok (.iconst 0, 1) := by decide +kernel
theorem dX7_setGo_19 : decode cX7_setGo 19 = .ok (.invokevirtual 93, 3) := by decide +kernel
theorem dX7_setGo_22 : decode cX7_setGo 22 = .ok (.ireturn, 1) := by decide +kernel
theorem dX7_setIf_0 : decode cX7_setIf 0 = .ok (.aload_n 0, 1) := by decide +kernel
theorem dX7_setIf_1 : decode cX7_setIf 1 = .ok (.iload_n 1, 1) := by decide +kernel
theorem dX7_setIf_2 : decode cX7_setIf 2 = .ok (.invokevirtual 84, 3) := by decide +kernel
theorem dX7_setIf_5 : decode cX7_setIf 5 = .ok (.aload_n 0, 1) := by decide +kernel
theorem dX7_setIf_6 : decode cX7_setIf 6 = .ok (.iload_n 2, 1) := by decide +kernel
theorem dX7_setIf_7 : decode cX7_setIf 7 = .ok (.invokevirtual 84, 3) := by decide +kernel
theorem dX7_setIf_10 : decode cX7_setIf 10 = .ok (.aload_n 0, 1) := by decide +kernel
theorem dX7_setIf_11 : decode cX7_setIf 11 = .ok (.iload_n 3, 1) := by decide +kernel
theorem dX7_setIf_12 : decode cX7_setIf 12 = .ok (.invokevirtual 84, 3) := by decide +kernel
theorem dX7_setIf_15 : decode cX7_setIf 15 = .ok (.iload_n 2, 1) := by decide +kernel
theorem dX7_setIf_16 : decode cX7_setIf 16 = .ok (.iload_n 3, 1) := by decide +kernel
theorem dX7_setIf_17 : decode cX7_setIf 17 = .ok (.if_icmp .ne 13, 3) := by decide +kernel
theorem dX7_setIf_20 : decode cX7_setIf 20 = .ok (.new 71, 3) := by decide +kernel
theorem dX7_setIf_23 : decode cX7_setIf 23 = .ok (.dup, 1) := by decide +kernel
theorem dX7_setIf_24 : decode cX7_setIf 24 = .ok (.ldc 97, 2) := by decide +kernel
theorem dX7_setIf_26 : decode cX7_setIf 26 = .ok (.invokespecial 75, 3) := by decide +kernel
theorem dX7_setIf_29 : decode cX7_setIf 29 = .ok (.athrow, 1) := by decide +kernel
theorem dX7_setIf_30 : decode cX7_setIf 30 = .ok (.aload_n 0, 1) := by decide +kernel
theorem dX7_setIf_31 : decode cX7_setIf 31 = .ok (.getfield 12, 3) := by decide +kernel
theorem dX7_setIf_34 : decode cX7_setIf 34 = .ok (.iload_n 1, 1) := by decide +kernel
theorem dX7_setIf_35 : decode cX7_setIf 35 = .ok (.iconst 1, 1) := by decide +kernel
theorem dX7_setIf_36 : decode cX7_setIf 36 = .ok (.iload_n 2, 1) := by decide +kernel
theorem dX7_setIf_37 : decode cX7_setIf 37 = .ok (.iload_n 3, 1) := by decide +kernel
theorem dX7_setIf_38 : decode cX7_setIf 38 = .ok (.iload 4, 2) := by decide +kernel
theorem dX7_setIf_40 : decode cX7_setIf 40 = .ok (.invokevirtual 93, 3) := by decide +kernel
theorem dX7_setIf_43 : decode cX7_setIf 43 = .ok (.ireturn, 1) := by decide +kernel
theorem dX7_setStop_0 : decode cX7_setStop 0 = .ok (.aload_n 0, 1) := by decide +kernel
theorem dX7_setStop_1 : decode cX7_setStop 1 = .ok (.iload_n 1, 1) := by decide +kernel
theorem dX7_setStop_2 : decode cX7_setStop 2 = .ok (.invokevirtual 84, 3) := by decide +kernel
theorem dX7_setStop_5 : decode cX7_setStop 5 = .ok (.aload_n 0, 1) := by decide +kernel
theorem dX7_setStop_6 : decode cX7_setStop 6 = .ok (.getfield 12, 3) := by decide +kernel
theorem dX7_setStop_9 : decode cX7_setStop 9 = .ok (.iload_n 1, 1) := by decide +kernel
theorem dX7_setStop_10 : decode cX7_setStop 10 = .ok (.iconst 2, 1) := by decide +kernel
theorem dX7_setStop_11 : decode cX7_setStop 11 = .ok (.iconst (-1), 1) := by decide +kernel
theorem dX7_setStop_12 : decode cX7_setStop 12 = .ok (.iconst (-1), 1) := by decide +kernel
theorem dX7_setStop_13 : decode cX7_setStop 13 = .ok (.iconst 0, 1) := by decide +kernel
theorem dX7_setStop_14 : decode cX7_setStop 14 = .ok (.invokevirtual 93, 3) := by decide +kernel
theorem dX7_setStop_17 : decode cX7_setStop 17 = .ok (.ireturn, 1) := by decide +kernel
theorem dX7_invert_0 : decode cX7_invert 0 = .ok (.aload_n 0, 1) := by decide +kernel
theorem dX7_invert_1 : decode cX7_invert 1 = .ok (.iload_n 1, 1) := by decide +kernel
theorem dX7_invert_2 : decode cX7_invert 2 = .ok (.invokevirtual 84, 3) := by decide +kernel
theorem dX7_invert_5 : decode cX7_invert 5 = .ok (.aload_n 0, 1) := by decide +kernel
theorem dX7_invert_6 : decode cX7_invert 6 = .ok (.getfield 12, 3) := by decide +kernel
theorem dX7_invert_9 : decode cX7_invert 9 = .ok (.getfield 99, 3) := by decide +kernel
theorem dX7_invert_12 : decode cX7_invert 12 = .ok (.iload_n 1, 1) := by decide +kernel
theorem dX7_invert_13 : decode cX7_invert 13 = .ok (.iaload, 1) := by decide +kernel
theorem dX7_invert_14 : decode cX7_invert 14 = .ok (.iconst 1, 1) := by decide +kernel
theorem dX7_invert_15 : decode cX7_invert 15 = .ok (.if_icmp .eq 13, 3) := by decide +kernel
theorem dX7_invert_18 : decode cX7_invert 18 = .ok (.new 102, 3) := by decide +kernel
theorem dX7_invert_21 : decode cX7_invert 21 = .ok (.dup, 1) := by decide +kernel
theorem dX7_invert_22 : decode cX7_invert 22 = .ok (.ldc 104, 2) := by decide +kernel
theorem dX7_invert_24 : decode cX7_invert 24 = .ok (.invokespecial 106, 3) := by decide +kernel
theorem dX7_invert_27 : decode cX7_invert 27 = .ok (.athrow, 1) := by decide +kernel
theorem dX7_invert_28 : decode cX7_invert 28 = .ok (.aload_n 0, 1) := by decide +kernel
theorem dX7_invert_29 : decode cX7_invert 29 = .ok (.getfield 12, 3) := by decide +kernel
theorem dX7_invert_32 : decode cX7_invert 32 = .ok (.iload_n 1, 1) := by decide +kernel
theorem dX7_invert_33 : decode cX7_invert 33 = .ok (.invokevirtual 107, 3) := by decide +kernel
theorem dX7_invert_36 : decode cX7_invert 36 = .ok (.aload_n 0, 1) := by decide +kernel
theorem dX7_invert_37 : decode cX7_invert 37 = .ok (.getfield 12, 3) := by decide +kernel
theorem dX7_invert_40 : decode cX7_invert 40 = .ok (.getfield 110, 3) := by decide +kernel
theorem dX7_invert_43 : decode cX7_invert 43 = .ok (.iload_n 1, 1) := by decide +kernel
theorem dX7_invert_44 : decode cX7_invert 44 = .ok (.iaload, 1) := by decide +kernel
theorem dX7_invert_45 : decode cX7_invert 45 = .ok (.ireturn, 1) := by decide +kernel
theorem dX7_block_0 : decode cX7_block 0 = .ok (.aload_n 0, 1) := by decide +kernel
theorem dX7_block_1 : decode cX7_block 1 = .ok (.iload_n 1, 1) := by decide +kernel
theorem dX7_block_2 : decode cX7_block 2 = .ok (.invokevirtual 84, 3) := by decide +kernel
theorem dX7_block_5 : decode cX7_block 5 = .ok (.iload_n 2, 1) := by decide +kernel
theorem dX7_block_6 : decode cX7_block 6 = .ok (.tableswitch 133 0 7 #[46, 56, 66, 76, 86, 96, 106, 116], 46) := by decide +kernel
theorem dX7_block_52 : decode cX7_block 52 = .ok (.aload_n 0, 1) := by decide +kernel
theorem dX7_block_53 : decode cX7_block 53 = .ok (.getfield 12, 3) := by decide +kernel
theorem dX7_block_56 : decode cX7_block 56 = .ok (.getfield 89, 3) := by decide +kernel
theorem dX7_block_59 : decode cX7_block 59 = .ok (.iload_n 1, 1) := by decide +kernel
theorem dX7_block_60 : decode cX7_block 60 = .ok (.iaload, 1) := by decide +kernel
theorem dX7_block_61 : decode cX7_block 61 = .ok (.ireturn, 1) := by decide +kernel
theorem dX7_block_62 : decode cX7_block 62 = .ok (.aload_n 0, 1) := by decide +kernel
theorem dX7_block_63 : decode cX7_block 63 = .ok (.getfield 12, 3) := by decide +kernel
theorem dX7_block_66 : decode cX7_block 66 = .ok (.getfield 99, 3) := by decide +kernel
theorem dX7_block_69 : decode cX7_block 69 = .ok (.iload_n 1, 1) := by decide +kernel
theorem dX7_block_70 : decode cX7_block 70 = .ok (.iaload, 1) := by decide +kernel
theorem dX7_block_71 : decode cX7_block 71 = .ok (.ireturn, 1) := by decide +kernel
theorem dX7_block_72 : decode cX7_block 72 = .ok (.aload_n 0, 1) := by decide +kernel
theorem dX7_block_73 : decode cX7_block 73 = .ok (.getfield 12, 3) := by decide +kernel
theorem dX7_block_76 : decode cX7_block 76 = .ok (.getfield 110, 3) := by decide +kernel
theorem dX7_block_79 : decode cX7_block 79 = .ok (.iload_n 1, 1) := by decide +kernel
theorem dX7_block_80 : decode cX7_block 80 = .ok (.iaload, 1) := by decide +kernel
theorem dX7_block_81 : decode cX7_block 81 = .ok (.ireturn, 1) := by decide +kernel
theorem dX7_block_82 : decode cX7_block 82 = .ok (.aload_n 0, 1) := by decide +kernel
theorem dX7_block_83 : decode cX7_block 83 = .ok (.getfield 12, 3) := by decide +kernel
theorem dX7_block_86 : decode cX7_block 86 = .ok (.getfield 113, 3) := by decide +kernel
theorem dX7_block_89 : decode cX7_block 89 = .ok (.iload_n 1, 1) := by decide +kernel
theorem dX7_block_90 : decode cX7_block 90 = .ok (.iaload, 1) := by decide +kernel
theorem dX7_block_91 : decode cX7_block 91 = .ok (.ireturn, 1) := by decide +kernel
theorem dX7_block_92 : decode cX7_block 92 = .ok (.aload_n 0, 1) := by decide +kernel
theorem dX7_block_93 : decode cX7_block 93 = .ok (.getfield 12, 3) := by decide +kernel
theorem dX7_block_96 : decode cX7_block 96 = .ok (.getfield 116, 3) := by decide +kernel
theorem dX7_block_99 : decode cX7_block 99 = .ok (.iload_n 1, 1) := by decide +kernel
theorem dX7_block_100 : decode cX7_block 100 = .ok (.iaload, 1) := by decide +kernel
theorem dX7_block_101 : decode cX7_block 101 = .ok (.ireturn, 1) := by decide +kernel
theorem dX7_block_102 : decode cX7_block 102 = .ok (.aload_n 0, 1) := by decide +kernel
theorem dX7_block_103 : decode cX7_block 103 = .ok (.getfield 12, 3) := by decide +kernel
theorem dX7_block_106 : decode cX7_block 106 = .ok (.getfield 119, 3) := by decide +kernel
theorem dX7_block_109 : decode cX7_block 109 = .ok (.iload_n 1, 1) := by decide +kernel
theorem dX7_block_110 : decode cX7_block 110 = .ok (.iaload, 1) := by decide +kernel
theorem dX7_block_111 : decode cX7_block 111 = .ok (.ireturn, 1) := by decide +kernel
theorem dX7_block_112 : decode cX7_block 112 = .ok (.aload_n 0, 1) := by decide +kernel
theorem dX7_block_113 : decode cX7_block 113 = .ok (.getfield 12, 3) := by decide +kernel
theorem dX7_block_116 : decode cX7_block 116 = .ok (.getfield 122, 3) := by decide +kernel
theorem dX7_block_119 : decode cX7_block 119 = .ok (.iload_n 1, 1) := by decide +kernel
theorem dX7_block_120 : decode cX7_block 120 = .ok (.iaload, 1) := by decide +kernel
theorem dX7_block_121 : decode cX7_block 121 = .ok (.ireturn, 1) := by decide +kernel
theorem dX7_block_122 : decode cX7_block 122 = .ok (.aload_n 0, 1) := by decide +kernel
theorem dX7_block_123 : decode cX7_block 123 = .ok (.getfield 12, 3) := by decide +kernel
theorem dX7_block_126 : decode cX7_block 126 = .ok (.iload_n 1, 1) := by decide +kernel
theorem dX7_block_127 : decode cX7_block 127 = .ok (.invokevirtual 125, 3) := by decide +kernel
theorem dX7_block_130 : decode cX7_block 130 = .ok (.ifCond .eq 7, 3) := by decide +kernel
theorem dX7_block_133 : decode cX7_block 133 = .ok (.iconst 1, 1) := by decide +kernel
theorem dX7_block_134 : decode cX7_block 134 = .ok (.goto 4, 3) := by decide +kernel
theorem dX7_block_137 : decode cX7_block 137 = .ok (.iconst 0, 1) := by decide +kernel
theorem dX7_block_138 : decode cX7_block 138 = .ok (.ireturn, 1) := by decide +kernel
theorem dX7_block_139 : decode cX7_block 139 = .ok (.new 71, 3) := by decide +kernel
theorem dX7_block_142 : decode cX7_block 142 = .ok (.dup, 1) := by decide +kernel
theorem dX7_block_143 : decode cX7_block 143 = .ok (.ldc 129, 2) := by decide +kernel
theorem dX7_block_145 : decode cX7_block 145 = .ok (.invokespecial 75, 3) := by decide +kernel
theorem dX7_block_148 : decode cX7_block 148 = .ok (.athrow, 1) := by decide +kernel
theorem dX7_run_0 : decode cX7_run 0 = .ok (.aload_n 0, 1) := by decide +kernel
theorem dX7_run_1 : decode cX7_run 1 = .ok (.iload_n 1, 1) := by decide +kernel
theorem dX7_run_2 : decode cX7_run 2 = .ok (.invokevirtual 131, 3) := by decide +kernel
theorem dX7_run_5 : decode cX7_run 5 = .ok (.aload_n 0, 1) := by decide +kernel
theorem dX7_run_6 : decode cX7_run 6 = .ok (.getfield 44, 3) := by decide +kernel
theorem dX7_run_9 : decode cX7_run 9 = .ok (.invokevirtual 134, 3) := by decide +kernel
theorem dX7_run_12 : decode cX7_run 12 = .ok (.aload_n 0, 1) := by decide +kernel
theorem dX7_run_13 : decode cX7_run 13 = .ok (.getfield 44, 3) := by decide +kernel
theorem dX7_run_16 : decode cX7_run 16 = .ok (.getfield 137, 3) := by decide +kernel
theorem dX7_run_19 : decode cX7_run 19 = .ok (.ireturn, 1) := by decide +kernel
theorem dX7_runLayout_0 : decode cX7_runLayout 0 = .ok (.aload_n 0, 1) := by decide +kernel
theorem dX7_runLayout_1 : decode cX7_runLayout 1 = .ok (.iload_n 1, 1) := by decide +kernel
theorem dX7_runLayout_2 : decode cX7_runLayout 2 = .ok (.invokevirtual 131, 3) := by decide +kernel
theorem dX7_runLayout_5 : decode cX7_runLayout 5 = .ok (.aload_n 0, 1) := by decide +kernel
theorem dX7_runLayout_6 : decode cX7_runLayout 6 = .ok (.getfield 28, 3) := by decide +kernel
theorem dX7_runLayout_9 : decode cX7_runLayout 9 = .ok (.aload_n 0, 1) := by decide +kernel
theorem dX7_runLayout_10 : decode cX7_runLayout 10 = .ok (.getfield 19, 3) := by decide +kernel
theorem dX7_runLayout_13 : decode cX7_runLayout 13 = .ok (.getfield 140, 3) := by decide +kernel
theorem dX7_runLayout_16 : decode cX7_runLayout 16 = .ok (.aload_n 0, 1) := by decide +kernel
theorem dX7_runLayout_17 : decode cX7_runLayout 17 = .ok (.getfield 62, 3) := by decide +kernel
theorem dX7_runLayout_20 : decode cX7_runLayout 20 = .ok (.invokevirtual 143, 3) := by decide +kernel
theorem dX7_runLayout_23 : decode cX7_runLayout 23 = .ok (.aload_n 0, 1) := by decide +kernel
theorem dX7_runLayout_24 : decode cX7_runLayout 24 = .ok (.getfield 28, 3) := by decide +kernel
theorem dX7_runLayout_27 : decode cX7_runLayout 27 = .ok (.aload_n 0, 1) := by decide +kernel
theorem dX7_runLayout_28 : decode cX7_runLayout 28 = .ok (.getfield 44, 3) := by decide +kernel
theorem dX7_runLayout_31 : decode cX7_runLayout 31 = .ok (.invokevirtual 147, 3) := by decide +kernel
theorem dX7_runLayout_34 : decode cX7_runLayout 34 = .ok (.ireturn, 1) := by decide +kernel
theorem dX7_pathLength_0 : decode cX7_pathLength 0 = .ok (.aload_n 0, 1) := by decide +kernel
theorem dX7_pathLength_1 : decode cX7_pathLength 1 = .ok (.getfield 44, 3) := by decide +kernel
theorem dX7_pathLength_4 : decode cX7_pathLength 4 = .ok (.getfield 137, 3) := by decide +kernel
theorem dX7_pathLength_7 : decode cX7_pathLength 7 = .ok (.ireturn, 1) := by decide +kernel
theorem dX7_pathBlock_0 : decode cX7_pathBlock 0 = .ok (.iload_n 1, 1) := by decide +kernel
theorem dX7_pathBlock_1 : decode cX7_pathBlock 1 = .ok (.ifCond .lt 14, 3) := by decide +kernel
theorem dX7_pathBlock_4 : decode cX7_pathBlock 4 = .ok (.iload_n 1, 1) := by decide +kernel
theorem dX7_pathBlock_5 : decode cX7_pathBlock 5 = .ok (.aload_n 0, 1) := by decide +kernel
theorem dX7_pathBlock_6 : decode cX7_pathBlock 6 = .ok (.getfield 44, 3) := by decide +kernel
theorem dX7_pathBlock_9 : decode cX7_pathBlock 9 = .ok (.getfield 137, 3) := by decide +kernel
theorem dX7_pathBlock_12 : decode cX7_pathBlock 12 = .ok (.if_icmp .lt 13, 3) := by decide +kernel
theorem dX7_pathBlock_15 : decode cX7_pathBlock 15 = .ok (.new 151, 3) := by decide +kernel
theorem dX7_pathBlock_18 : decode cX7_pathBlock 18 = .ok (.dup, 1) := by decide +kernel
theorem dX7_pathBlock_19 : decode cX7_pathBlock 19 = .ok (.ldc 153, 2) := by decide +kernel
theorem dX7_pathBlock_21 : decode cX7_pathBlock 21 = .ok (.invokespecial 155, 3) := by decide +kernel
theorem dX7_pathBlock_24 : decode cX7_pathBlock 24 = .ok (.athrow, 1) := by decide +kernel
theorem dX7_pathBlock_25 : decode cX7_pathBlock 25 = .ok (.aload_n 0, 1) := by decide +kernel
theorem dX7_pathBlock_26 : decode cX7_pathBlock 26 = .ok (.getfield 44, 3) := by decide +kernel
theorem dX7_pathBlock_29 : decode cX7_pathBlock 29 = .ok (.getfield 156, 3) := by decide +kernel
theorem dX7_pathBlock_32 : decode cX7_pathBlock 32 = .ok (.iload_n 1, 1) := by decide +kernel
theorem dX7_pathBlock_33 : decode cX7_pathBlock 33 = .ok (.iaload, 1) := by decide +kernel
theorem dX7_pathBlock_34 : decode cX7_pathBlock 34 = .ok (.ireturn, 1) := by decide +kernel
theorem dX7_clearProfile_0 : decode cX7_clearProfile 0 = .ok (.aload_n 0, 1) := by decide +kernel
theorem dX7_clearProfile_1 : decode cX7_clearProfile 1 = .ok (.getfield 12, 3) := by decide +kernel
theorem dX7_clearProfile_4 : decode cX7_clearProfile 4 = .ok (.invokevirtual 159, 3) := by decide +kernel
theorem dX7_clearProfile_7 : decode cX7_clearProfile 7 = .ok (.istore_n 1, 1) := by decide +kernel
theorem dX7_clearProfile_8 : decode cX7_clearProfile 8 = .ok (.aload_n 0, 1) := by decide +kernel
theorem dX7_clearProfile_9 : decode cX7_clearProfile 9 = .ok (.getfield 12, 3) := by decide +kernel
theorem dX7_clearProfile_12 : decode cX7_clearProfile 12 = .ok (.invokevirtual 163, 3) := by decide +kernel
theorem dX7_clearProfile_15 : decode cX7_clearProfile 15 = .ok (.iload_n 1, 1) := by decide +kernel
theorem dX7_clearProfile_16 : decode cX7_clearProfile 16 = .ok (.ireturn, 1) := by decide +kernel
theorem dX7_setAlignment_0 : decode cX7_setAlignment 0 = .ok (.iload_n 1, 1) := by decide +kernel
theorem dX7_setAlignment_1 : decode cX7_setAlignment 1 = .ok (.iconst 1, 1) := by decide +kernel
theorem dX7_setAlignment_2 : decode cX7_setAlignment 2 = .ok (.if_icmp .lt 13, 3) := by decide +kernel
theorem dX7_setAlignment_5 : decode cX7_setAlignment 5 = .ok (.iload_n 1, 1) := by decide +kernel
theorem dX7_setAlignment_6 : decode cX7_setAlignment 6 = .ok (.bipush 32, 2) := by decide +kernel
theorem dX7_setAlignment_8 : decode cX7_setAlignment 8 = .ok (.if_icmp .gt 7, 3) := by decide +kernel
theorem dX7_setAlignment_11 : decode cX7_setAlignment 11 = .ok (.iconst 1, 1) := by decide +kernel
theorem dX7_setAlignment_12 : decode cX7_setAlignment 12 = .ok (.goto 4, 3) := by decide +kernel
theorem dX7_setAlignment_15 : decode cX7_setAlignment 15 = .ok (.iconst 0, 1) := by decide +kernel
theorem dX7_setAlignment_16 : decode cX7_setAlignment 16 = .ok (.istore_n 2, 1) := by decide +kernel
theorem dX7_setAlignment_17 : decode cX7_setAlignment 17 = .ok (.iload_n 2, 1) := by decide +kernel
theorem dX7_setAlignment_18 : decode cX7_setAlignment 18 = .ok (.ifCond .eq 11, 3) := by decide +kernel
theorem dX7_setAlignment_21 : decode cX7_setAlignment 21 = .ok (.iload_n 1, 1) := by decide +kernel
theorem dX7_setAlignment_22 : decode cX7_setAlignment 22 = .ok (.iload_n 1, 1) := by decide +kernel
theorem dX7_setAlignment_23 : decode cX7_setAlignment 23 = .ok (.iconst 1, 1) := by decide +kernel
theorem dX7_setAlignment_24 : decode cX7_setAlignment 24 = .ok (.isub, 1) := by decide +kernel
theorem dX7_setAlignment_25 : decode cX7_setAlignment 25 = .ok (.iand, 1) := by decide +kernel
theorem dX7_setAlignment_26 : decode cX7_setAlignment 26 = .ok (.ifCond .eq 13, 3) := by decide +kernel
theorem dX7_setAlignment_29 : decode cX7_setAlignment 29 = .ok (.new 71, 3) := by decide +kernel
theorem dX7_setAlignment_32 : decode cX7_setAlignment 32 = .ok (.dup, 1) := by decide +kernel
theorem dX7_setAlignment_33 : decode cX7_setAlignment 33 = .ok (.ldc 166, 2) := by decide +kernel
theorem dX7_setAlignment_35 : decode cX7_setAlignment 35 = .ok (.invokespecial 75, 3) := by decide +kernel
theorem dX7_setAlignment_38 : decode cX7_setAlignment 38 = .ok (.athrow, 1) := by decide +kernel
theorem dX7_setAlignment_39 : decode cX7_setAlignment 39 = .ok (.aload_n 0, 1) := by decide +kernel
theorem dX7_setAlignment_40 : decode cX7_setAlignment 40 = .ok (.getfield 51, 3) := by decide +kernel
theorem dX7_setAlignment_43 : decode cX7_setAlignment 43 = .ok (.aload_n 0, 1) := by decide +kernel
theorem dX7_setAlignment_44 : decode cX7_setAlignment 44 = .ok (.getfield 19, 3) := by decide +kernel
theorem dX7_setAlignment_47 : decode cX7_setAlignment 47 = .ok (.invokevirtual 168, 3) := by decide +kernel
theorem dX7_setAlignment_50 : decode cX7_setAlignment 50 = .ok (.aload_n 0, 1) := by decide +kernel
theorem dX7_setAlignment_51 : decode cX7_setAlignment 51 = .ok (.getfield 19, 3) := by decide +kernel
theorem dX7_setAlignment_54 : decode cX7_setAlignment 54 = .ok (.getfield 140, 3) := by decide +kernel
theorem dX7_setAlignment_57 : decode cX7_setAlignment 57 = .ok (.istore_n 3, 1) := by decide +kernel
theorem dX7_setAlignment_58 : decode cX7_setAlignment 58 = .ok (.aload_n 0, 1) := by decide +kernel
theorem dX7_setAlignment_59 : decode cX7_setAlignment 59 = .ok (.getfield 19, 3) := by decide +kernel
theorem dX7_setAlignment_62 : decode cX7_setAlignment 62 = .ok (.iload_n 1, 1) := by decide +kernel
theorem dX7_setAlignment_63 : decode cX7_setAlignment 63 = .ok (.putfield 140, 3) := by decide +kernel
theorem dX7_setAlignment_66 : decode cX7_setAlignment 66 = .ok (.iload_n 3, 1) := by decide +kernel
theorem dX7_setAlignment_67 : decode cX7_setAlignment 67 = .ok (.ireturn, 1) := by decide +kernel
theorem dX7_setLoopLimit_0 : decode cX7_setLoopLimit 0 = .ok (.iload_n 1, 1) := by decide +kernel
theorem dX7_setLoopLimit_1 : decode cX7_setLoopLimit 1 = .ok (.ifCond .lt 10, 3) := by decide +kernel
theorem dX7_setLoopLimit_4 : decode cX7_setLoopLimit 4 = .ok (.iload_n 1, 1) := by decide +kernel
theorem dX7_setLoopLimit_5 : decode cX7_setLoopLimit 5 = .ok (.sipush 9999, 3) := by decide +kernel
theorem dX7_setLoopLimit_8 : decode cX7_setLoopLimit 8 = .ok (.if_icmp .le 13, 3) := by decide +kernel
theorem dX7_setLoopLimit_11 : decode cX7_setLoopLimit 11 = .ok (.new 71, 3) := by decide +kernel
theorem dX7_setLoopLimit_14 : decode cX7_setLoopLimit 14 = .ok (.dup, 1) := by decide +kernel
theorem dX7_setLoopLimit_15 : decode cX7_setLoopLimit 15 = .ok (.ldc 172, 2) := by decide +kernel
theorem dX7_setLoopLimit_17 : decode cX7_setLoopLimit 17 = .ok (.invokespecial 75, 3) := by decide +kernel
theorem dX7_setLoopLimit_20 : decode cX7_setLoopLimit 20 = .ok (.athrow, 1) := by decide +kernel
theorem dX7_setLoopLimit_21 : decode cX7_setLoopLimit 21 = .ok (.aload_n 0, 1) := by decide +kernel
theorem dX7_setLoopLimit_22 : decode cX7_setLoopLimit 22 = .ok (.getfield 62, 3) := by decide +kernel
theorem dX7_setLoopLimit_25 : decode cX7_setLoopLimit 25 = .ok (.istore_n 2, 1) := by decide +kernel
theorem dX7_setLoopLimit_26 : decode cX7_setLoopLimit 26 = .ok (.aload_n 0, 1) := by decide +kernel
theorem dX7_setLoopLimit_27 : decode cX7_setLoopLimit 27 = .ok (.iload_n 1, 1) := by decide +kernel
theorem dX7_setLoopLimit_28 : decode cX7_setLoopLimit 28 = .ok (.putfield 62, 3) := by decide +kernel
theorem dX7_setLoopLimit_31 : decode cX7_setLoopLimit 31 = .ok (.iload_n 2, 1) := by decide +kernel
theorem dX7_setLoopLimit_32 : decode cX7_setLoopLimit 32 = .ok (.ireturn, 1) := by decide +kernel
theorem dX7_arrange_0 : decode cX7_arrange 0 = .ok (.iload_n 1, 1) := by decide +kernel
theorem dX7_arrange_1 : decode cX7_arrange 1 = .ok (.ifCond .lt 8, 3) := by decide +kernel
theorem dX7_arrange_4 : decode cX7_arrange 4 = .ok (.iload_n 1, 1) := by decide +kernel
theorem dX7_arrange_5 : decode cX7_arrange 5 = .ok (.iconst 2, 1) := by decide +kernel
theorem dX7_arrange_6 : decode cX7_arrange 6 = .ok (.if_icmp .le 13, 3) := by decide +kernel
theorem dX7_arrange_9 : decode cX7_arrange 9 = .ok (.new 71, 3) := by decide +kernel
theorem dX7_arrange_12 : decode cX7_arrange 12 = .ok (.dup, 1) := by decide +kernel
theorem dX7_arrange_13 : decode cX7_arrange 13 = .ok (.ldc 174, 2) := by decide +kernel
theorem dX7_arrange_15 : decode cX7_arrange 15 = .ok (.invokespecial 75, 3) := by decide +kernel
theorem dX7_arrange_18 : decode cX7_arrange 18 = .ok (.athrow, 1) := by decide +kernel
theorem dX7_arrange_19 : decode cX7_arrange 19 = .ok (.iload_n 2, 1) := by decide +kernel
theorem dX7_arrange_20 : decode cX7_arrange 20 = .ok (.iconst (-1), 1) := by decide +kernel
theorem dX7_arrange_21 : decode cX7_arrange 21 = .ok (.if_icmp .lt 10, 3) := by decide +kernel
theorem dX7_arrange_24 : decode cX7_arrange 24 = .ok (.iload_n 2, 1) := by decide +kernel
theorem dX7_arrange_25 : decode cX7_arrange 25 = .ok (.sipush 9999, 3) := by decide +kernel
theorem dX7_arrange_28 : decode cX7_arrange 28 = .ok (.if_icmp .le 13, 3) := by decide +kernel
theorem dX7_arrange_31 : decode cX7_arrange 31 = .ok (.new 71, 3) := by decide +kernel
theorem dX7_arrange_34 : decode cX7_arrange 34 = .ok (.dup, 1) := by decide +kernel
theorem dX7_arrange_35 : decode cX7_arrange 35 = .ok (.ldc 176, 2) := by decide +kernel
theorem dX7_arrange_37 : decode cX7_arrange 37 = .ok (.invokespecial 75, 3) := by decide +kernel
theorem dX7_arrange_40 : decode cX7_arrange 40 = .ok (.athrow, 1) := by decide +kernel
theorem dX7_arrange_41 : decode cX7_arrange 41 = .ok (.aload_n 0, 1) := by decide +kernel
theorem dX7_arrange_42 : decode cX7_arrange 42 = .ok (.getfield 35, 3) := by decide +kernel
theorem dX7_arrange_45 : decode cX7_arrange 45 = .ok (.iload_n 2, 1) := by decide +kernel
theorem dX7_arrange_46 : decode cX7_arrange 46 = .ok (.invokevirtual 178, 3) := by decide +kernel
theorem dX7_arrange_49 : decode cX7_arrange 49 = .ok (.iload_n 1, 1) := by decide +kernel
theorem dX7_arrange_50 : decode cX7_arrange 50 = .ok (.iconst 2, 1) := by decide +kernel
theorem dX7_arrange_51 : decode cX7_arrange 51 = .ok (.if_icmp .ne 25, 3) := by decide +kernel
theorem dX7_arrange_54 : decode cX7_arrange 54 = .ok (.aload_n 0, 1) := by decide +kernel
theorem dX7_arrange_55 : decode cX7_arrange 55 = .ok (.getfield 35, 3) := by decide +kernel
theorem dX7_arrange_58 : decode cX7_arrange 58 = .ok (.getfield 181, 3) := by decide +kernel
theorem dX7_arrange_61 : decode cX7_arrange 61 = .ok (.bipush 7, 2) := by decide +kernel
theorem dX7_arrange_63 : decode cX7_arrange 63 = .ok (.if_icmp .le 13, 3) := by decide +kernel
theorem dX7_arrange_66 : decode cX7_arrange 66 = .ok (.new 102, 3) := by decide +kernel
theorem dX7_arrange_69 : decode cX7_arrange 69 = .ok (.dup, 1) := by decide +kernel
theorem dX7_arrange_70 : decode cX7_arrange 70 = .ok (.ldc 184, 2) := by decide +kernel
theorem dX7_arrange_72 : decode cX7_arrange 72 = .ok (.invokespecial 106, 3) := by decide +kernel
theorem dX7_arrange_75 : decode cX7_arrange 75 = .ok (.athrow, 1) := by decide +kernel
theorem dX7_arrange_76 : decode cX7_arrange 76 = .ok (.aload_n 0, 1) := by decide +kernel
theorem dX7_arrange_77 : decode cX7_arrange 77 = .ok (.getfield 51, 3) := by decide +kernel
theorem dX7_arrange_80 : decode cX7_arrange 80 = .ok (.aload_n 0, 1) := by decide +kernel
theorem dX7_arrange_81 : decode cX7_arrange 81 = .ok (.getfield 19, 3) := by decide +kernel
theorem dX7_arrange_84 : decode cX7_arrange 84 = .ok (.invokevirtual 168, 3) := by decide +kernel
theorem dX7_arrange_87 : decode cX7_arrange 87 = .ok (.aload_n 0, 1) := by decide +kernel
theorem dX7_arrange_88 : decode cX7_arrange 88 = .ok (.getfield 35, 3) := by decide +kernel
theorem dX7_arrange_91 : decode cX7_arrange 91 = .ok (.iload_n 1, 1) := by decide +kernel
theorem dX7_arrange_92 : decode cX7_arrange 92 = .ok (.invokevirtual 186, 3) := by decide +kernel
theorem dX7_arrange_95 : decode cX7_arrange 95 = .ok (.aload_n 0, 1) := by decide +kernel
theorem dX7_arrange_96 : decode cX7_arrange 96 = .ok (.getfield 28, 3) := by decide +kernel
theorem dX7_arrange_99 : decode cX7_arrange 99 = .ok (.invokevirtual 189, 3) := by decide +kernel
theorem dX7_arrange_102 : decode cX7_arrange 102 = .ok (.aload_n 0, 1) := by decide +kernel
theorem dX7_arrange_103 : decode cX7_arrange 103 = .ok (.getfield 28, 3) := by decide +kernel
theorem dX7_arrange_106 : decode cX7_arrange 106 = .ok (.aload_n 0, 1) := by decide +kernel
theorem dX7_arrange_107 : decode cX7_arrange 107 = .ok (.getfield 19, 3) := by decide +kernel
theorem dX7_arrange_110 : decode cX7_arrange 110 = .ok (.getfield 192, 3) := by decide +kernel
theorem dX7_arrange_113 : decode cX7_arrange 113 = .ok (.invokevirtual 195, 3) := by decide +kernel
theorem dX7_arrange_116 : decode cX7_arrange 116 = .ok (.ireturn, 1) := by decide +kernel
theorem dX7_exchange_0 : decode cX7_exchange 0 = .ok (.aload_n 0, 1) := by decide +kernel
theorem dX7_exchange_1 : decode cX7_exchange 1 = .ok (.iload_n 1, 1) := by decide +kernel
theorem dX7_exchange_2 : decode cX7_exchange 2 = .ok (.invokevirtual 199, 3) := by decide +kernel
theorem dX7_exchange_5 : decode cX7_exchange 5 = .ok (.aload_n 0, 1) := by decide +kernel
theorem dX7_exchange_6 : decode cX7_exchange 6 = .ok (.iload_n 2, 1) := by decide +kernel
theorem dX7_exchange_7 : decode cX7_exchange 7 = .ok (.invokevirtual 199, 3) := by decide +kernel
theorem dX7_exchange_10 : decode cX7_exchange 10 = .ok (.iload_n 1, 1) := by decide +kernel
theorem dX7_exchange_11 : decode cX7_exchange 11 = .ok (.ifCond .eq 7, 3) := by decide +kernel
theorem dX7_exchange_14 : decode cX7_exchange 14 = .ok (.iload_n 2, 1) := by decide +kernel
theorem dX7_exchange_15 : decode cX7_exchange 15 = .ok (.ifCond .ne 13, 3) := by decide +kernel
theorem dX7_exchange_18 : decode cX7_exchange 18 = .ok (.new 71, 3) := by decide +kernel
theorem dX7_exchange_21 : decode cX7_exchange 21 = .ok (.dup, 1) := by decide +kernel
theorem dX7_exchange_22 : decode cX7_exchange 22 = .ok (.ldc 202, 2) := by decide +kernel
theorem dX7_exchange_24 : decode cX7_exchange 24 = .ok (.invokespecial 75, 3) := by decide +kernel
theorem dX7_exchange_27 : decode cX7_exchange 27 = .ok (.athrow, 1) := by decide +kernel
theorem dX7_exchange_28 : decode cX7_exchange 28 = .ok (.aload_n 0, 1) := by decide +kernel
theorem dX7_exchange_29 : decode cX7_exchange 29 = .ok (.getfield 51, 3) := by decide +kernel
theorem dX7_exchange_32 : decode cX7_exchange 32 = .ok (.aload_n 0, 1) := by decide +kernel
theorem dX7_exchange_33 : decode cX7_exchange 33 = .ok (.getfield 19, 3) := by decide +kernel
theorem dX7_exchange_36 : decode cX7_exchange 36 = .ok (.invokevirtual 168, 3) := by decide +kernel
theorem dX7_exchange_39 : decode cX7_exchange 39 = .ok (.aload_n 0, 1) := by decide +kernel
theorem dX7_exchange_40 : decode cX7_exchange 40 = .ok (.getfield 19, 3) := by decide +kernel
theorem dX7_exchange_43 : decode cX7_exchange 43 = .ok (.getfield 204, 3) := by decide +kernel
theorem dX7_exchange_46 : decode cX7_exchange 46 = .ok (.iload_n 1, 1) := by decide +kernel
theorem dX7_exchange_47 : decode cX7_exchange 47 = .ok (.iaload, 1) := by decide +kernel
theorem dX7_exchange_48 : decode cX7_exchange 48 = .ok (.istore_n 3, 1) := by decide +kernel
theorem dX7_exchange_49 : decode cX7_exchange 49 = .ok (.aload_n 0, 1) := by decide +kernel
theorem dX7_exchange_50 : decode cX7_exchange 50 = .ok (.getfield 19, 3) := by decide +kernel
theorem dX7_exchange_53 : decode cX7_exchange 53 = .ok (.getfield 204, 3) := by decide +kernel
theorem dX7_exchange_56 : decode cX7_exchange 56 = .ok (.iload_n 1, 1) := by decide +kernel
theorem dX7_exchange_57 : decode cX7_exchange 57 = .ok (.aload_n 0, 1) := by decide +kernel
theorem dX7_exchange_58 : decode cX7_exchange 58 = .ok (.getfield 19, 3) := by decide +kernel
theorem dX7_exchange_61 : decode cX7_exchange 61 = .ok (.getfield 204, 3) := by decide +kernel
theorem dX7_exchange_64 : decode cX7_exchange 64 = .ok (.iload_n 2, 1) := by decide +kernel
theorem dX7_exchange_65 : decode cX7_exchange 65 = .ok (.iaload, 1) := by decide +kernel
theorem dX7_exchange_66 : decode cX7_exchange 66 = .ok (.iastore, 1) := by decide +kernel
theorem dX7_exchange_67 : decode cX7_exchange 67 = .ok (.aload_n 0, 1) := by decide +kernel
theorem dX7_exchange_68 : decode cX7_exchange 68 = .ok (.getfield 19, 3) := by decide +kernel
theorem dX7_exchange_71 : decode cX7_exchange 71 = .ok (.getfield 204, 3) := by decide +kernel
theorem dX7_exchange_74 : decode cX7_exchange 74 = .ok (.iload_n 2, 1) := by decide +kernel
theorem dX7_exchange_75 : decode cX7_exchange 75 = .ok (.iload_n 3, 1) := by decide +kernel
theorem dX7_exchange_76 : decode cX7_exchange 76 = .ok (.iastore, 1) := by decide +kernel
theorem dX7_exchange_77 : decode cX7_exchange 77 = .ok (.aload_n 0, 1) := by decide +kernel
theorem dX7_exchange_78 : decode cX7_exchange 78 = .ok (.getfield 19, 3) := by decide +kernel
theorem dX7_exchange_81 : decode cX7_exchange 81 = .ok (.getfield 204, 3) := by decide +kernel
theorem dX7_exchange_84 : decode cX7_exchange 84 = .ok (.iload_n 1, 1) := by decide +kernel
theorem dX7_exchange_85 : decode cX7_exchange 85 = .ok (.iaload, 1) := by decide +kernel
theorem dX7_exchange_86 : decode cX7_exchange 86 = .ok (.ireturn, 1) := by decide +kernel
theorem dX7_setHot_0 : decode cX7_setHot 0 = .ok (.iload_n 1, 1) := by decide +kernel
theorem dX7_setHot_1 : decode cX7_setHot 1 = .ok (.iconst 1, 1) := by decide +kernel
theorem dX7_setHot_2 : decode cX7_setHot 2 = .ok (.if_icmp .lt 14, 3) := by decide +kernel
theorem dX7_setHot_5 : decode cX7_setHot 5 = .ok (.iload_n 1, 1) := by decide +kernel
theorem dX7_setHot_6 : decode cX7_setHot 6 = .ok (.aload_n 0, 1) := by decide +kernel
theorem dX7_setHot_7 : decode cX7_setHot 7 = .ok (.getfield 12, 3) := by decide +kernel
theorem dX7_setHot_10 : decode cX7_setHot 10 = .ok (.getfield 78, 3) := by decide +kernel
theorem dX7_setHot_13 : decode cX7_setHot 13 = .ok (.if_icmp .le 13, 3) := by decide +kernel
theorem dX7_setHot_16 : decode cX7_setHot 16 = .ok (.new 71, 3) := by decide +kernel
theorem dX7_setHot_19 : decode cX7_setHot 19 = .ok (.dup, 1) := by decide +kernel
theorem dX7_setHot_20 : decode cX7_setHot 20 = .ok (.ldc 207, 2) := by decide +kernel
theorem dX7_setHot_22 : decode cX7_setHot 22 = .ok (.invokespecial 75, 3) := by decide +kernel
theorem dX7_setHot_25 : decode cX7_setHot 25 = .ok (.athrow, 1) := by decide +kernel
theorem dX7_setHot_26 : decode cX7_setHot 26 = .ok (.aload_n 0, 1) := by decide +kernel
theorem dX7_setHot_27 : decode cX7_setHot 27 = .ok (.getfield 51, 3) := by decide +kernel
theorem dX7_setHot_30 : decode cX7_setHot 30 = .ok (.aload_n 0, 1) := by decide +kernel
theorem dX7_setHot_31 : decode cX7_setHot 31 = .ok (.getfield 19, 3) := by decide +kernel
theorem dX7_setHot_34 : decode cX7_setHot 34 = .ok (.invokevirtual 168, 3) := by decide +kernel
theorem dX7_setHot_37 : decode cX7_setHot 37 = .ok (.aload_n 0, 1) := by decide +kernel
theorem dX7_setHot_38 : decode cX7_setHot 38 = .ok (.getfield 19, 3) := by decide +kernel
theorem dX7_setHot_41 : decode cX7_setHot 41 = .ok (.getfield 192, 3) := by decide +kernel
theorem dX7_setHot_44 : decode cX7_setHot 44 = .ok (.istore_n 2, 1) := by decide +kernel
theorem dX7_setHot_45 : decode cX7_setHot 45 = .ok (.aload_n 0, 1) := by decide +kernel
theorem dX7_setHot_46 : decode cX7_setHot 46 = .ok (.getfield 19, 3) := by decide +kernel
theorem dX7_setHot_49 : decode cX7_setHot 49 = .ok (.iload_n 1, 1) := by decide +kernel
theorem dX7_setHot_50 : decode cX7_setHot 50 = .ok (.putfield 192, 3) := by decide +kernel
theorem dX7_setHot_53 : decode cX7_setHot 53 = .ok (.iload_n 2, 1) := by decide +kernel
theorem dX7_setHot_54 : decode cX7_setHot 54 = .ok (.ireturn, 1) := by decide +kernel
theorem dX7_order_0 : decode cX7_order 0 = .ok (.aload_n 0, 1) := by decide +kernel
theorem dX7_order_1 : decode cX7_order 1 = .ok (.iload_n 1, 1) := by decide +kernel
theorem dX7_order_2 : decode cX7_order 2 = .ok (.invokevirtual 199, 3) := by decide +kernel
theorem dX7_order_5 : decode cX7_order 5 = .ok (.aload_n 0, 1) := by decide +kernel
theorem dX7_order_6 : decode cX7_order 6 = .ok (.getfield 19, 3) := by decide +kernel
theorem dX7_order_9 : decode cX7_order 9 = .ok (.getfield 204, 3) := by decide +kernel
theorem dX7_order_12 : decode cX7_order 12 = .ok (.iload_n 1, 1) := by decide +kernel
theorem dX7_order_13 : decode cX7_order 13 = .ok (.iaload, 1) := by decide +kernel
theorem dX7_order_14 : decode cX7_order 14 = .ok (.ireturn, 1) := by decide +kernel
theorem dX7_place_0 : decode cX7_place 0 = .ok (.aload_n 0, 1) := by decide +kernel
theorem dX7_place_1 : decode cX7_place 1 = .ok (.iload_n 1, 1) := by decide +kernel
theorem dX7_place_2 : decode cX7_place 2 = .ok (.invokevirtual 84, 3) := by decide +kernel
theorem dX7_place_5 : decode cX7_place 5 = .ok (.iload_n 2, 1) := by decide +kernel
theorem dX7_place_6 : decode cX7_place 6 = .ok (.iconst 3, 1) := by decide +kernel
theorem dX7_place_7 : decode cX7_place 7 = .ok (.invokestatic 209, 3) := by decide +kernel
theorem dX7_place_10 : decode cX7_place 10 = .ok (.aload_n 0, 1) := by decide +kernel
theorem dX7_place_11 : decode cX7_place 11 = .ok (.getfield 28, 3) := by decide +kernel
theorem dX7_place_14 : decode cX7_place 14 = .ok (.aload_n 0, 1) := by decide +kernel
theorem dX7_place_15 : decode cX7_place 15 = .ok (.getfield 19, 3) := by decide +kernel
theorem dX7_place_18 : decode cX7_place 18 = .ok (.getfield 140, 3) := by decide +kernel
theorem dX7_place_21 : decode cX7_place 21 = .ok (.aload_n 0, 1) := by decide +kernel
theorem dX7_place_22 : decode cX7_place 22 = .ok (.getfield 62, 3) := by decide +kernel
theorem dX7_place_25 : decode cX7_place 25 = .ok (.invokevirtual 143, 3) := by decide +kernel
theorem dX7_place_28 : decode cX7_place 28 = .ok (.iload_n 2, 1) := by decide +kernel
theorem dX7_place_29 : decode cX7_place 29 = .ok (.tableswitch 57 0 2 #[27, 37, 47], 27) := by decide +kernel
theorem dX7_place_56 : decode cX7_place 56 = .ok (.aload_n 0, 1) := by decide +kernel
theorem dX7_place_57 : decode cX7_place 57 = .ok (.getfield 28, 3) := by decide +kernel
theorem dX7_place_60 : decode cX7_place 60 = .ok (.getfield 212, 3) := by decide +kernel
theorem dX7_place_63 : decode cX7_place 63 = .ok (.iload_n 1, 1) := by decide +kernel
theorem dX7_place_64 : decode cX7_place 64 = .ok (.iaload, 1) := by decide +kernel
theorem dX7_place_65 : decode cX7_place 65 = .ok (.ireturn, 1) := by decide +kernel
theorem dX7_place_66 : decode cX7_place 66 = .ok (.aload_n 0, 1) := by decide +kernel
theorem dX7_place_67 : decode cX7_place 67 = .ok (.getfield 28, 3) := by decide +kernel
theorem dX7_place_70 : decode cX7_place 70 = .ok (.getfield 215, 3) := by decide +kernel
theorem dX7_place_73 : decode cX7_place 73 = .ok (.iload_n 1, 1) := by decide +kernel
theorem dX7_place_74 : decode cX7_place 74 = .ok (.iaload, 1) := by decide +kernel
theorem dX7_place_75 : decode cX7_place 75 = .ok (.ireturn, 1) := by decide +kernel
theorem dX7_place_76 : decode cX7_place 76 = .ok (.aload_n 0, 1) := by decide +kernel
theorem dX7_place_77 : decode cX7_place 77 = .ok (.getfield 28, 3) := by decide +kernel
theorem dX7_place_80 : decode cX7_place 80 = .ok (.getfield 218, 3) := by decide +kernel
theorem dX7_place_83 : decode cX7_place 83 = .ok (.iload_n 1, 1) := by decide +kernel
theorem dX7_place_84 : decode cX7_place 84 = .ok (.iaload, 1) := by decide +kernel
theorem dX7_place_85 : decode cX7_place 85 = .ok (.ireturn, 1) := by decide +kernel
theorem dX7_place_86 : decode cX7_place 86 = .ok (.aload_n 0, 1) := by decide +kernel
theorem dX7_place_87 : decode cX7_place 87 = .ok (.getfield 28, 3) := by decide +kernel
theorem dX7_place_90 : decode cX7_place 90 = .ok (.getfield 212, 3) := by decide +kernel
theorem dX7_place_93 : decode cX7_place 93 = .ok (.iload_n 1, 1) := by decide +kernel
theorem dX7_place_94 : decode cX7_place 94 = .ok (.iaload, 1) := by decide +kernel
theorem dX7_place_95 : decode cX7_place 95 = .ok (.aload_n 0, 1) := by decide +kernel
theorem dX7_place_96 : decode cX7_place 96 = .ok (.getfield 19, 3) := by decide +kernel
theorem dX7_place_99 : decode cX7_place 99 = .ok (.getfield 192, 3) := by decide +kernel
theorem dX7_place_102 : decode cX7_place 102 = .ok (.if_icmp .ge 7, 3) := by decide +kernel
theorem dX7_place_105 : decode cX7_place 105 = .ok (.iconst 1, 1) := by decide +kernel
theorem dX7_place_106 : decode cX7_place 106 = .ok (.goto 4, 3) := by decide +kernel
theorem dX7_place_109 : decode cX7_place 109 = .ok (.iconst 0, 1) := by decide +kernel
theorem dX7_place_110 : decode cX7_place 110 = .ok (.ireturn, 1) := by decide +kernel
theorem dX7_end_0 : decode cX7_end 0 = .ok (.aload_n 0, 1) := by decide +kernel
theorem dX7_end_1 : decode cX7_end 1 = .ok (.iload_n 1, 1) := by decide +kernel
theorem dX7_end_2 : decode cX7_end 2 = .ok (.invokevirtual 84, 3) := by decide +kernel
theorem dX7_end_5 : decode cX7_end 5 = .ok (.iload_n 2, 1) := by decide +kernel
theorem dX7_end_6 : decode cX7_end 6 = .ok (.iconst 3, 1) := by decide +kernel
theorem dX7_end_7 : decode cX7_end 7 = .ok (.invokestatic 209, 3) := by decide +kernel
theorem dX7_end_10 : decode cX7_end 10 = .ok (.aload_n 0, 1) := by decide +kernel
theorem dX7_end_11 : decode cX7_end 11 = .ok (.getfield 28, 3) := by decide +kernel
theorem dX7_end_14 : decode cX7_end 14 = .ok (.aload_n 0, 1) := by decide +kernel
theorem dX7_end_15 : decode cX7_end 15 = .ok (.getfield 19, 3) := by decide +kernel
theorem dX7_end_18 : decode cX7_end 18 = .ok (.getfield 140, 3) := by decide +kernel
theorem dX7_end_21 : decode cX7_end 21 = .ok (.aload_n 0, 1) := by decide +kernel
theorem dX7_end_22 : decode cX7_end 22 = .ok (.getfield 62, 3) := by decide +kernel
theorem dX7_end_25 : decode cX7_end 25 = .ok (.invokevirtual 143, 3) := by decide +kernel
theorem dX7_end_28 : decode cX7_end 28 = .ok (.iload_n 2, 1) := by decide +kernel
theorem dX7_end_29 : decode cX7_end 29 = .ok (.tableswitch 63 0 2 #[27, 37, 46], 27) := by decide +kernel
theorem dX7_end_56 : decode cX7_end 56 = .ok (.aload_n 0, 1) := by decide +kernel
theorem dX7_end_57 : decode cX7_end 57 = .ok (.getfield 28, 3) := by decide +kernel
theorem dX7_end_60 : decode cX7_end 60 = .ok (.getfield 221, 3) := by decide +kernel
theorem dX7_end_63 : decode cX7_end 63 = .ok (.iload_n 1, 1) := by decide +kernel
theorem dX7_end_64 : decode cX7_end 64 = .ok (.iaload, 1) := by decide +kernel
theorem dX7_end_65 : decode cX7_end 65 = .ok (.ireturn, 1) := by decide +kernel
theorem dX7_end_66 : decode cX7_end 66 = .ok (.aload_n 0, 1) := by decide +kernel
theorem dX7_end_67 : decode cX7_end 67 = .ok (.getfield 28, 3) := by decide +kernel
theorem dX7_end_70 : decode cX7_end 70 = .ok (.iload_n 1, 1) := by decide +kernel
theorem dX7_end_71 : decode cX7_end 71 = .ok (.invokevirtual 224, 3) := by decide +kernel
theorem dX7_end_74 : decode cX7_end 74 = .ok (.ireturn, 1) := by decide +kernel
theorem dX7_end_75 : decode cX7_end 75 = .ok (.aload_n 0, 1) := by decide +kernel
theorem dX7_end_76 : decode cX7_end 76 = .ok (.getfield 28, 3) := by decide +kernel
theorem dX7_end_79 : decode cX7_end 79 = .ok (.iload_n 1, 1) := by decide +kernel
theorem dX7_end_80 : decode cX7_end 80 = .ok (.invokevirtual 227, 3) := by decide +kernel
theorem dX7_end_83 : decode cX7_end 83 = .ok (.ifCond .eq 7, 3) := by decide +kernel
theorem dX7_end_86 : decode cX7_end 86 = .ok (.iconst 1, 1) := by decide +kernel
theorem dX7_end_87 : decode cX7_end 87 = .ok (.goto 4, 3) := by decide +kernel
theorem dX7_end_90 : decode cX7_end 90 = .ok (.iconst 0, 1) := by decide +kernel
theorem dX7_end_91 : decode cX7_end 91 = .ok (.ireturn, 1) := by decide +kernel
theorem dX7_end_92 : decode cX7_end 92 = .ok (.aload_n 0, 1) := by decide +kernel
theorem dX7_end_93 : decode cX7_end 93 = .ok (.getfield 28, 3) := by decide +kernel
theorem dX7_end_96 : decode cX7_end 96 = .ok (.iload_n 1, 1) := by decide +kernel
theorem dX7_end_97 : decode cX7_end 97 = .ok (.invokevirtual 230, 3) := by decide +kernel
theorem dX7_end_100 : decode cX7_end 100 = .ok (.ifCond .eq 7, 3) := by decide +kernel
theorem dX7_end_103 : decode cX7_end 103 = .ok (.iconst 1, 1) := by decide +kernel
theorem dX7_end_104 : decode cX7_end 104 = .ok (.goto 4, 3) := by decide +kernel
theorem dX7_end_107 : decode cX7_end 107 = .ok (.iconst 0, 1) := by decide +kernel
theorem dX7_end_108 : decode cX7_end 108 = .ok (.ireturn, 1) := by decide +kernel
theorem dX7_layout_0 : decode cX7_layout 0 = .ok (.iload_n 1, 1) := by decide +kernel
theorem dX7_layout_1 : decode cX7_layout 1 = .ok (.bipush 8, 2) := by decide +kernel
theorem dX7_layout_3 : decode cX7_layout 3 = .ok (.invokestatic 209, 3) := by decide +kernel
theorem dX7_layout_6 : decode cX7_layout 6 = .ok (.aload_n 0, 1) := by decide +kernel
theorem dX7_layout_7 : decode cX7_layout 7 = .ok (.getfield 28, 3) := by decide +kernel
theorem dX7_layout_10 : decode cX7_layout 10 = .ok (.aload_n 0, 1) := by decide +kernel
theorem dX7_layout_11 : decode cX7_layout 11 = .ok (.getfield 19, 3) := by decide +kernel
theorem dX7_layout_14 : decode cX7_layout 14 = .ok (.getfield 140, 3) := by decide +kernel
theorem dX7_layout_17 : decode cX7_layout 17 = .ok (.aload_n 0, 1) := by decide +kernel
theorem dX7_layout_18 : decode cX7_layout 18 = .ok (.getfield 62, 3) := by decide +kernel
theorem dX7_layout_21 : decode cX7_layout 21 = .ok (.invokevirtual 143, 3) := by decide +kernel
theorem dX7_layout_24 : decode cX7_layout 24 = .ok (.iload_n 1, 1) := by decide +kernel
theorem dX7_layout_25 : decode cX7_layout 25 = .ok (.tableswitch 119 0 7 #[47, 55, 63, 71, 79, 87, 102, 111], 47) := by decide +kernel
theorem dX7_layout_72 : decode cX7_layout 72 = .ok (.aload_n 0, 1) := by decide +kernel
theorem dX7_layout_73 : decode cX7_layout 73 = .ok (.getfield 28, 3) := by decide +kernel
theorem dX7_layout_76 : decode cX7_layout 76 = .ok (.getfield 233, 3) := by decide +kernel
theorem dX7_layout_79 : decode cX7_layout 79 = .ok (.ireturn, 1) := by decide +kernel
theorem dX7_layout_80 : decode cX7_layout 80 = .ok (.aload_n 0, 1) := by decide +kernel
theorem dX7_layout_81 : decode cX7_layout 81 = .ok (.getfield 28, 3) := by decide +kernel
theorem dX7_layout_84 : decode cX7_layout 84 = .ok (.getfield 236, 3) := by decide +kernel
theorem dX7_layout_87 : decode cX7_layout 87 = .ok (.ireturn, 1) := by decide +kernel
theorem dX7_layout_88 : decode cX7_layout 88 = .ok (.aload_n 0, 1) := by decide +kernel
theorem dX7_layout_89 : decode cX7_layout 89 = .ok (.getfield 19, 3) := by decide +kernel
theorem dX7_layout_92 : decode cX7_layout 92 = .ok (.getfield 192, 3) := by decide +kernel
theorem dX7_layout_95 : decode cX7_layout 95 = .ok (.ireturn, 1) := by decide +kernel
theorem dX7_layout_96 : decode cX7_layout 96 = .ok (.aload_n 0, 1) := by decide +kernel
theorem dX7_layout_97 : decode cX7_layout 97 = .ok (.getfield 28, 3) := by decide +kernel
theorem dX7_layout_100 : decode cX7_layout 100 = .ok (.invokevirtual 239, 3) := by decide +kernel
theorem dX7_layout_103 : decode cX7_layout 103 = .ok (.ireturn, 1) := by decide +kernel
theorem dX7_layout_104 : decode cX7_layout 104 = .ok (.aload_n 0, 1) := by decide +kernel
theorem dX7_layout_105 : decode cX7_layout 105 = .ok (.getfield 28, 3) := by decide +kernel
theorem dX7_layout_108 : decode cX7_layout 108 = .ok (.invokevirtual 242, 3) := by decide +kernel
theorem dX7_layout_111 : decode cX7_layout 111 = .ok (.ireturn, 1) := by decide +kernel
theorem dX7_layout_112 : decode cX7_layout 112 = .ok (.aload_n 0, 1) := by decide +kernel
theorem dX7_layout_113 : decode cX7_layout 113 = .ok (.getfield 28, 3) := by decide +kernel
theorem dX7_layout_116 : decode cX7_layout 116 = .ok (.aload_n 0, 1) := by decide +kernel
theorem dX7_layout_117 : decode cX7_layout 117 = .ok (.getfield 12, 3) := by decide +kernel
theorem dX7_layout_120 : decode cX7_layout 120 = .ok (.getfield 78, 3) := by decide +kernel
theorem dX7_layout_123 : decode cX7_layout 123 = .ok (.invokevirtual 195, 3) := by decide +kernel
theorem dX7_layout_126 : decode cX7_layout 126 = .ok (.ireturn, 1) := by decide +kernel
theorem dX7_layout_127 : decode cX7_layout 127 = .ok (.aload_n 0, 1) := by decide +kernel
theorem dX7_layout_128 : decode cX7_layout 128 = .ok (.getfield 28, 3) := by decide +kernel
theorem dX7_layout_131 : decode cX7_layout 131 = .ok (.iconst 3, 1) := by decide +kernel
theorem dX7_layout_132 : decode cX7_layout 132 = .ok (.invokevirtual 245, 3) := by decide +kernel
theorem dX7_layout_135 : decode cX7_layout 135 = .ok (.ireturn, 1) := by decide +kernel
theorem dX7_layout_136 : decode cX7_layout 136 = .ok (.aload_n 0, 1) := by decide +kernel
theorem dX7_layout_137 : decode cX7_layout 137 = .ok (.getfield 19, 3) := by decide +kernel
theorem dX7_layout_140 : decode cX7_layout 140 = .ok (.getfield 140, 3) := by decide +kernel
theorem dX7_layout_143 : decode cX7_layout 143 = .ok (.ireturn, 1) := by decide +kernel
theorem dX7_layout_144 : decode cX7_layout 144 = .ok (.aload_n 0, 1) := by decide +kernel
theorem dX7_layout_145 : decode cX7_layout 145 = .ok (.getfield 62, 3) := by decide +kernel
theorem dX7_layout_148 : decode cX7_layout 148 = .ok (.ireturn, 1) := by decide +kernel
theorem dX7_cycles_0 : decode cX7_cycles 0 = .ok (.aload_n 0, 1) := by decide +kernel
theorem dX7_cycles_1 : decode cX7_cycles 1 = .ok (.aload_n 0, 1) := by decide +kernel
theorem dX7_cycles_2 : decode cX7_cycles 2 = .ok (.getfield 19, 3) := by decide +kernel
theorem dX7_cycles_5 : decode cX7_cycles 5 = .ok (.getfield 140, 3) := by decide +kernel
theorem dX7_cycles_8 : decode cX7_cycles 8 = .ok (.invokevirtual 248, 3) := by decide +kernel
theorem dX7_cycles_11 : decode cX7_cycles 11 = .ok (.ireturn, 1) := by decide +kernel
theorem dX7_meanCycles_0 : decode cX7_meanCycles 0 = .ok (.aload_n 0, 1) := by decide +kernel
theorem dX7_meanCycles_1 : decode cX7_meanCycles 1 = .ok (.getfield 12, 3) := by decide +kernel
theorem dX7_meanCycles_4 : decode cX7_meanCycles 4 = .ok (.invokevirtual 159, 3) := by decide +kernel
theorem dX7_meanCycles_7 : decode cX7_meanCycles 7 = .ok (.istore_n 1, 1) := by decide +kernel
theorem dX7_meanCycles_8 : decode cX7_meanCycles 8 = .ok (.iload_n 1, 1) := by decide +kernel
theorem dX7_meanCycles_9 : decode cX7_meanCycles 9 = .ok (.ifCond .ne 13, 3) := by decide +kernel
theorem dX7_meanCycles_12 : decode cX7_meanCycles 12 = .ok (.new 251, 3) := by decide +kernel
theorem dX7_meanCycles_15 : decode cX7_meanCycles 15 = .ok (.dup, 1) := by decide +kernel
theorem dX7_meanCycles_16 : decode cX7_meanCycles 16 = .ok (.ldc 253, 2) := by decide +kernel
theorem dX7_meanCycles_18 : decode cX7_meanCycles 18 = .ok (.invokespecial 255, 3) := by decide +kernel
theorem dX7_meanCycles_21 : decode cX7_meanCycles 21 = .ok (.athrow, 1) := by decide +kernel
theorem dX7_meanCycles_22 : decode cX7_meanCycles 22 = .ok (.aload_n 0, 1) := by decide +kernel
theorem dX7_meanCycles_23 : decode cX7_meanCycles 23 = .ok (.aload_n 0, 1) := by decide +kernel
theorem dX7_meanCycles_24 : decode cX7_meanCycles 24 = .ok (.getfield 19, 3) := by decide +kernel
theorem dX7_meanCycles_27 : decode cX7_meanCycles 27 = .ok (.getfield 140, 3) := by decide +kernel
theorem dX7_meanCycles_30 : decode cX7_meanCycles 30 = .ok (.invokevirtual 248, 3) := by decide +kernel
theorem dX7_meanCycles_33 : decode cX7_meanCycles 33 = .ok (.i2d, 1) := by decide +kernel
theorem dX7_meanCycles_34 : decode cX7_meanCycles 34 = .ok (.iload_n 1, 1) := by decide +kernel
theorem dX7_meanCycles_35 : decode cX7_meanCycles 35 = .ok (.i2d, 1) := by decide +kernel
theorem dX7_meanCycles_36 : decode cX7_meanCycles 36 = .ok (.ddiv, 1) := by decide +kernel
theorem dX7_meanCycles_37 : decode cX7_meanCycles 37 = .ok (.dreturn, 1) := by decide +kernel
theorem dX7_bestAlignment_0 : decode cX7_bestAlignment 0 = .ok (.iconst 1, 1) := by decide +kernel
theorem dX7_bestAlignment_1 : decode cX7_bestAlignment 1 = .ok (.istore_n 1, 1) := by decide +kernel
theorem dX7_bestAlignment_2 : decode cX7_bestAlignment 2 = .ok (.aload_n 0, 1) := by decide +kernel
theorem dX7_bestAlignment_3 : decode cX7_bestAlignment 3 = .ok (.iconst 1, 1) := by decide +kernel
theorem dX7_bestAlignment_4 : decode cX7_bestAlignment 4 = .ok (.invokevirtual 248, 3) := by decide +kernel
theorem dX7_bestAlignment_7 : decode cX7_bestAlignment 7 = .ok (.istore_n 2, 1) := by decide +kernel
theorem dX7_bestAlignment_8 : decode cX7_bestAlignment 8 = .ok (.aload_n 0, 1) := by decide +kernel
theorem dX7_bestAlignment_9 : decode cX7_bestAlignment 9 = .ok (.getfield 28, 3) := by decide +kernel
theorem dX7_bestAlignment_12 : decode cX7_bestAlignment 12 = .ok (.getfield 236, 3) := by decide +kernel
theorem dX7_bestAlignment_15 : decode cX7_bestAlignment 15 = .ok (.istore_n 3, 1) := by decide +kernel
theorem dX7_bestAlignment_16 : decode cX7_bestAlignment 16 = .ok (.iconst 2, 1) := by decide +kernel
theorem dX7_bestAlignment_17 : decode cX7_bestAlignment 17 = .ok (.istore 4, 2) := by decide +kernel
theorem dX7_bestAlignment_19 : decode cX7_bestAlignment 19 = .ok (.iload 4, 2) := by decide +kernel
theorem dX7_bestAlignment_21 : decode cX7_bestAlignment 21 = .ok (.bipush 32, 2) := by decide +kernel
theorem dX7_bestAlignment_23 : decode cX7_bestAlignment 23 = .ok (.if_icmp .gt 69, 3) := by decide +kernel
theorem dX7_bestAlignment_26 : decode cX7_bestAlignment 26 = .ok (.aload_n 0, 1) := by decide +kernel
theorem dX7_bestAlignment_27 : decode cX7_bestAlignment 27 = .ok (.iload 4, 2) := by decide +kernel
theorem dX7_bestAlignment_29 : decode cX7_bestAlignment 29 = .ok (.invokevirtual 248, 3) := by decide +kernel
theorem dX7_bestAlignment_32 : decode cX7_bestAlignment 32 = .ok (.istore 5, 2) := by decide +kernel
theorem dX7_bestAlignment_34 : decode cX7_bestAlignment 34 = .ok (.iload 5, 2) := by decide +kernel
theorem dX7_bestAlignment_36 : decode cX7_bestAlignment 36 = .ok (.iload_n 2, 1) := by decide +kernel
theorem dX7_bestAlignment_37 : decode cX7_bestAlignment 37 = .ok (.if_icmp .ne 18, 3) := by decide +kernel
theorem dX7_bestAlignment_40 : decode cX7_bestAlignment 40 = .ok (.aload_n 0, 1) := by decide +kernel
theorem dX7_bestAlignment_41 : decode cX7_bestAlignment 41 = .ok (.getfield 28, 3) := by decide +kernel
theorem dX7_bestAlignment_44 : decode cX7_bestAlignment 44 = .ok (.getfield 236, 3) := by decide +kernel
theorem dX7_bestAlignment_47 : decode cX7_bestAlignment 47 = .ok (.iload_n 3, 1) := by decide +kernel
theorem dX7_bestAlignment_48 : decode cX7_bestAlignment 48 = .ok (.if_icmp .ge 7, 3) := by decide +kernel
theorem dX7_bestAlignment_51 : decode cX7_bestAlignment 51 = .ok (.iconst 1, 1) := by decide +kernel
theorem dX7_bestAlignment_52 : decode cX7_bestAlignment 52 = .ok (.goto 4, 3) := by decide +kernel
theorem dX7_bestAlignment_55 : decode cX7_bestAlignment 55 = .ok (.iconst 0, 1) := by decide +kernel
theorem dX7_bestAlignment_56 : decode cX7_bestAlignment 56 = .ok (.istore 6, 2) := by decide +kernel
theorem dX7_bestAlignment_58 : decode cX7_bestAlignment 58 = .ok (.iload 5, 2) := by decide +kernel
theorem dX7_bestAlignment_60 : decode cX7_bestAlignment 60 = .ok (.iload_n 2, 1) := by decide +kernel
theorem dX7_bestAlignment_61 : decode cX7_bestAlignment 61 = .ok (.if_icmp .lt 8, 3) := by decide +kernel
theorem dX7_bestAlignment_64 : decode cX7_bestAlignment 64 = .ok (.iload 6, 2) := by decide +kernel
theorem dX7_bestAlignment_66 : decode cX7_bestAlignment 66 = .ok (.ifCond .eq 17, 3) := by decide +kernel
theorem dX7_bestAlignment_69 : decode cX7_bestAlignment 69 = .ok (.iload 4, 2) := by decide +kernel
theorem dX7_bestAlignment_71 : decode cX7_bestAlignment 71 = .ok (.istore_n 1, 1) := by decide +kernel
theorem dX7_bestAlignment_72 : decode cX7_bestAlignment 72 = .ok (.iload 5, 2) := by decide +kernel
theorem dX7_bestAlignment_74 : decode cX7_bestAlignment 74 = .ok (.istore_n 2, 1) := by decide +kernel
theorem dX7_bestAlignment_75 : decode cX7_bestAlignment 75 = .ok (.aload_n 0, 1) := by decide +kernel
theorem dX7_bestAlignment_76 : decode cX7_bestAlignment 76 = .ok (.getfield 28, 3) := by decide +kernel
theorem dX7_bestAlignment_79 : decode cX7_bestAlignment 79 = .ok (.getfield 236, 3) := by decide +kernel
theorem dX7_bestAlignment_82 : decode cX7_bestAlignment 82 = .ok (.istore_n 3, 1) := by decide +kernel
theorem dX7_bestAlignment_83 : decode cX7_bestAlignment 83 = .ok (.iload 4, 2) := by decide +kernel
theorem dX7_bestAlignment_85 : decode cX7_bestAlignment 85 = .ok (.iconst 2, 1) := by decide +kernel
theorem dX7_bestAlignment_86 : decode cX7_bestAlignment 86 = .ok (.imul, 1) := by decide +kernel
theorem dX7_bestAlignment_87 : decode cX7_bestAlignment 87 = .ok (.istore 4, 2) := by decide +kernel
theorem dX7_bestAlignment_89 : decode cX7_bestAlignment 89 = .ok (.goto (-70), 3) := by decide +kernel
theorem dX7_bestAlignment_92 : decode cX7_bestAlignment 92 = .ok (.iload_n 1, 1) := by decide +kernel
theorem dX7_bestAlignment_93 : decode cX7_bestAlignment 93 = .ok (.ireturn, 1) := by decide +kernel
theorem dX7_feed_0 : decode cX7_feed 0 = .ok (.aload_n 0, 1) := by decide +kernel
theorem dX7_feed_1 : decode cX7_feed 1 = .ok (.getfield 58, 3) := by decide +kernel
theorem dX7_feed_4 : decode cX7_feed 4 = .ok (.iload_n 1, 1) := by decide +kernel
theorem dX7_feed_5 : decode cX7_feed 5 = .ok (.invokevirtual 256, 3) := by decide +kernel
theorem dX7_feed_8 : decode cX7_feed 8 = .ok (.ifCond .ne 14, 3) := by decide +kernel
theorem dX7_feed_11 : decode cX7_feed 11 = .ok (.new 260, 3) := by decide +kernel
theorem dX7_feed_14 : decode cX7_feed 14 = .ok (.dup, 1) := by decide +kernel
theorem dX7_feed_15 : decode cX7_feed 15 = .ok (.ldc_w 262, 3) := by decide +kernel
theorem dX7_feed_18 : decode cX7_feed 18 = .ok (.invokespecial 264, 3) := by decide +kernel
theorem dX7_feed_21 : decode cX7_feed 21 = .ok (.athrow, 1) := by decide +kernel
theorem dX7_feed_22 : decode cX7_feed 22 = .ok (.aload_n 0, 1) := by decide +kernel
theorem dX7_feed_23 : decode cX7_feed 23 = .ok (.getfield 58, 3) := by decide +kernel
theorem dX7_feed_26 : decode cX7_feed 26 = .ok (.getfield 265, 3) := by decide +kernel
theorem dX7_feed_29 : decode cX7_feed 29 = .ok (.ireturn, 1) := by decide +kernel
theorem dX7_read_0 : decode cX7_read 0 = .ok (.aload_n 0, 1) := by decide +kernel
theorem dX7_read_1 : decode cX7_read 1 = .ok (.iload_n 1, 1) := by decide +kernel
theorem dX7_read_2 : decode cX7_read 2 = .ok (.invokevirtual 84, 3) := by decide +kernel
theorem dX7_read_5 : decode cX7_read 5 = .ok (.aload_n 0, 1) := by decide +kernel
theorem dX7_read_6 : decode cX7_read 6 = .ok (.getfield 58, 3) := by decide +kernel
theorem dX7_read_9 : decode cX7_read 9 = .ok (.invokevirtual 266, 3) := by decide +kernel
theorem dX7_read_12 : decode cX7_read 12 = .ok (.istore_n 2, 1) := by decide +kernel
theorem dX7_read_13 : decode cX7_read 13 = .ok (.aload_n 0, 1) := by decide +kernel
theorem dX7_read_14 : decode cX7_read 14 = .ok (.getfield 58, 3) := by decide +kernel
theorem dX7_read_17 : decode cX7_read 17 = .ok (.iconst 0, 1) := by decide +kernel
theorem dX7_read_18 : decode cX7_read 18 = .ok (.putfield 265, 3) := by decide +kernel
theorem dX7_read_21 : decode cX7_read 21 = .ok (.iload_n 2, 1) := by decide +kernel
theorem dX7_read_22 : decode cX7_read 22 = .ok (.ifCond .ne 14, 3) := by decide +kernel
theorem dX7_read_25 : decode cX7_read 25 = .ok (.bipush (-100), 2) := by decide +kernel
theorem dX7_read_27 : decode cX7_read 27 = .ok (.aload_n 0, 1) := by decide +kernel
theorem dX7_read_28 : decode cX7_read 28 = .ok (.getfield 58, 3) := by decide +kernel
theorem dX7_read_31 : decode cX7_read 31 = .ok (.getfield 270, 3) := by decide +kernel
theorem dX7_read_34 : decode cX7_read 34 = .ok (.isub, 1) := by decide +kernel
theorem dX7_read_35 : decode cX7_read 35 = .ok (.ireturn, 1) := by decide +kernel
theorem dX7_read_36 : decode cX7_read 36 = .ok (.aload_n 0, 1) := by decide +kernel
theorem dX7_read_37 : decode cX7_read 37 = .ok (.getfield 58, 3) := by decide +kernel
theorem dX7_read_40 : decode cX7_read 40 = .ok (.getfield 273, 3) := by decide +kernel
theorem dX7_read_43 : decode cX7_read 43 = .ok (.bipush 60, 2) := by decide +kernel
theorem dX7_read_45 : decode cX7_read 45 = .ok (.if_icmp .gt 10, 3) := by decide +kernel
theorem dX7_read_48 : decode cX7_read 48 = .ok (.aload_n 0, 1) := by decide +kernel
theorem dX7_read_49 : decode cX7_read 49 = .ok (.invokevirtual 275, 3) := by decide +kernel
theorem dX7_read_52 : decode cX7_read 52 = .ok (.ifCond .ne 14, 3) := by decide +kernel
theorem dX7_read_55 : decode cX7_read 55 = .ok (.new 71, 3) := by decide +kernel
theorem dX7_read_58 : decode cX7_read 58 = .ok (.dup, 1) := by decide +kernel
theorem dX7_read_59 : decode cX7_read 59 = .ok (.ldc_w 278, 3) := by decide +kernel
theorem dX7_read_62 : decode cX7_read 62 = .ok (.invokespecial 75, 3) := by decide +kernel
theorem dX7_read_65 : decode cX7_read 65 = .ok (.athrow, 1) := by decide +kernel
theorem dX7_read_66 : decode cX7_read 66 = .ok (.aload_n 0, 1) := by decide +kernel
theorem dX7_read_67 : decode cX7_read 67 = .ok (.getfield 12, 3) := by decide +kernel
theorem dX7_read_70 : decode cX7_read 70 = .ok (.getfield 89, 3) := by decide +kernel
theorem dX7_read_73 : decode cX7_read 73 = .ok (.iload_n 1, 1) := by decide +kernel
theorem dX7_read_74 : decode cX7_read 74 = .ok (.aload_n 0, 1) := by decide +kernel
theorem dX7_read_75 : decode cX7_read 75 = .ok (.getfield 58, 3) := by decide +kernel
theorem dX7_read_78 : decode cX7_read 78 = .ok (.getfield 273, 3) := by decide +kernel
theorem dX7_read_81 : decode cX7_read 81 = .ok (.iastore, 1) := by decide +kernel
theorem dX7_read_82 : decode cX7_read 82 = .ok (.aload_n 0, 1) := by decide +kernel
theorem dX7_read_83 : decode cX7_read 83 = .ok (.getfield 12, 3) := by decide +kernel
theorem dX7_read_86 : decode cX7_read 86 = .ok (.iload_n 1, 1) := by decide +kernel
theorem dX7_read_87 : decode cX7_read 87 = .ok (.aload_n 0, 1) := by decide +kernel
theorem dX7_read_88 : decode cX7_read 88 = .ok (.getfield 58, 3) := by decide +kernel
theorem dX7_read_91 : decode cX7_read 91 = .ok (.getfield 280, 3) := by decide +kernel
theorem dX7_read_94 : decode cX7_read 94 = .ok (.aload_n 0, 1) := by decide +kernel
theorem dX7_read_95 : decode cX7_read 95 = .ok (.getfield 58, 3) := by decide +kernel
theorem dX7_read_98 : decode cX7_read 98 = .ok (.getfield 282, 3) := by decide +kernel
theorem dX7_read_101 : decode cX7_read 101 = .ok (.aload_n 0, 1) := by decide +kernel
theorem dX7_read_102 : decode cX7_read 102 = .ok (.getfield 58, 3) := by decide +kernel
theorem dX7_read_105 : decode cX7_read 105 = .ok (.getfield 284, 3) := by decide +kernel
theorem dX7_read_108 : decode cX7_read 108 = .ok (.aload_n 0, 1) := by decide +kernel
theorem dX7_read_109 : decode cX7_read 109 = .ok (.getfield 58, 3) := by decide +kernel
theorem dX7_read_112 : decode cX7_read 112 = .ok (.getfield 286, 3) := by decide +kernel
theorem dX7_read_115 : decode cX7_read 115 = .ok (.invokevirtual 93, 3) := by decide +kernel
theorem dX7_read_118 : decode cX7_read 118 = .ok (.pop, 1) := by decide +kernel
theorem dX7_read_119 : decode cX7_read 119 = .ok (.aload_n 0, 1) := by decide +kernel
theorem dX7_read_120 : decode cX7_read 120 = .ok (.getfield 58, 3) := by decide +kernel
theorem dX7_read_123 : decode cX7_read 123 = .ok (.getfield 280, 3) := by decide +kernel
theorem dX7_read_126 : decode cX7_read 126 = .ok (.ireturn, 1) := by decide +kernel
theorem dX7_undo_0 : decode cX7_undo 0 = .ok (.aload_n 0, 1) := by decide +kernel
theorem dX7_undo_1 : decode cX7_undo 1 = .ok (.getfield 51, 3) := by decide +kernel
theorem dX7_undo_4 : decode cX7_undo 4 = .ok (.aload_n 0, 1) := by decide +kernel
theorem dX7_undo_5 : decode cX7_undo 5 = .ok (.getfield 19, 3) := by decide +kernel
theorem dX7_undo_8 : decode cX7_undo 8 = .ok (.invokevirtual 289, 3) := by decide +kernel
theorem dX7_undo_11 : decode cX7_undo 11 = .ok (.ifCond .ne 14, 3) := by decide +kernel
theorem dX7_undo_14 : decode cX7_undo 14 = .ok (.new 293, 3) := by decide +kernel
theorem dX7_undo_17 : decode cX7_undo 17 = .ok (.dup, 1) := by decide +kernel
theorem dX7_undo_18 : decode cX7_undo 18 = .ok (.ldc_w 295, 3) := by decide +kernel
theorem dX7_undo_21 : decode cX7_undo 21 = .ok (.invokespecial 297, 3) := by decide +kernel
theorem dX7_undo_24 : decode cX7_undo 24 = .ok (.athrow, 1) := by decide +kernel
theorem dX7_undo_25 : decode cX7_undo 25 = .ok (.aload_n 0, 1) := by decide +kernel
theorem dX7_undo_26 : decode cX7_undo 26 = .ok (.getfield 51, 3) := by decide +kernel
theorem dX7_undo_29 : decode cX7_undo 29 = .ok (.getfield 298, 3) := by decide +kernel
theorem dX7_undo_32 : decode cX7_undo 32 = .ok (.ireturn, 1) := by decide +kernel
theorem dX7_checkBlock_0 : decode cX7_checkBlock 0 = .ok (.aload_n 0, 1) := by decide +kernel
theorem dX7_checkBlock_1 : decode cX7_checkBlock 1 = .ok (.getfield 12, 3) := by decide +kernel
theorem dX7_checkBlock_4 : decode cX7_checkBlock 4 = .ok (.iload_n 1, 1) := by decide +kernel
theorem dX7_checkBlock_5 : decode cX7_checkBlock 5 = .ok (.invokevirtual 301, 3) := by decide +kernel
theorem dX7_checkBlock_8 : decode cX7_checkBlock 8 = .ok (.ifCond .ne 14, 3) := by decide +kernel
theorem dX7_checkBlock_11 : decode cX7_checkBlock 11 = .ok (.new 151, 3) := by decide +kernel
theorem dX7_checkBlock_14 : decode cX7_checkBlock 14 = .ok (.dup, 1) := by decide +kernel
theorem dX7_checkBlock_15 : decode cX7_checkBlock 15 = .ok (.ldc_w 304, 3) := by decide +kernel
theorem dX7_checkBlock_18 : decode cX7_checkBlock 18 = .ok (.invokespecial 155, 3) := by decide +kernel
theorem dX7_checkBlock_21 : decode cX7_checkBlock 21 = .ok (.athrow, 1) := by decide +kernel
theorem dX7_checkBlock_22 : decode cX7_checkBlock 22 = .ok (.return_, 1) := by decide +kernel
theorem dX7_checkPosition_0 : decode cX7_checkPosition 0 = .ok (.aload_n 0, 1) := by decide +kernel
theorem dX7_checkPosition_1 : decode cX7_checkPosition 1 = .ok (.getfield 12, 3) := by decide +kernel
theorem dX7_checkPosition_4 : decode cX7_checkPosition 4 = .ok (.iload_n 1, 1) := by decide +kernel
theorem dX7_checkPosition_5 : decode cX7_checkPosition 5 = .ok (.invokevirtual 301, 3) := by decide +kernel
theorem dX7_checkPosition_8 : decode cX7_checkPosition 8 = .ok (.ifCond .ne 14, 3) := by decide +kernel
theorem dX7_checkPosition_11 : decode cX7_checkPosition 11 = .ok (.new 151, 3) := by decide +kernel
theorem dX7_checkPosition_14 : decode cX7_checkPosition 14 = .ok (.dup, 1) := by decide +kernel
theorem dX7_checkPosition_15 : decode cX7_checkPosition 15 = .ok (.ldc_w 306, 3) := by decide +kernel
theorem dX7_checkPosition_18 : decode cX7_checkPosition 18 = .ok (.invokespecial 155, 3) := by decide +kernel
theorem dX7_checkPosition_21 : decode cX7_checkPosition 21 = .ok (.athrow, 1) := by decide +kernel
theorem dX7_checkPosition_22 : decode cX7_checkPosition 22 = .ok (.return_, 1) := by decide +kernel
theorem dX7_checkWhat_0 : decode cX7_checkWhat 0 = .ok (.iload_n 0, 1) := by decide +kernel
theorem dX7_checkWhat_1 : decode cX7_checkWhat 1 = .ok (.ifCond .lt 8, 3) := by decide +kernel
theorem dX7_checkWhat_4 : decode cX7_checkWhat 4 = .ok (.iload_n 0, 1) := by decide +kernel
theorem dX7_checkWhat_5 : decode cX7_checkWhat 5 = .ok (.iload_n 1, 1) := by decide +kernel
theorem dX7_checkWhat_6 : decode cX7_checkWhat 6 = .ok (.if_icmp .le 14, 3) := by decide +kernel
theorem dX7_checkWhat_9 : decode cX7_checkWhat 9 = .ok (.new 71, 3) := by decide +kernel
theorem dX7_checkWhat_12 : decode cX7_checkWhat 12 = .ok (.dup, 1) := by decide +kernel
theorem dX7_checkWhat_13 : decode cX7_checkWhat 13 = .ok (.ldc_w 308, 3) := by decide +kernel
theorem dX7_checkWhat_16 : decode cX7_checkWhat 16 = .ok (.invokespecial 75, 3) := by decide +kernel
theorem dX7_checkWhat_19 : decode cX7_checkWhat 19 = .ok (.athrow, 1) := by decide +kernel
theorem dX7_checkWhat_20 : decode cX7_checkWhat 20 = .ok (.return_, 1) := by decide +kernel
theorem dX7_executeWithin_0 : decode cX7_executeWithin 0 = .ok (.iload_n 1, 1) := by decide +kernel
theorem dX7_executeWithin_1 : decode cX7_executeWithin 1 = .ok (.iconst 1, 1) := by decide +kernel
theorem dX7_executeWithin_2 : decode cX7_executeWithin 2 = .ok (.if_icmp .lt 10, 3) := by decide +kernel
theorem dX7_executeWithin_5 : decode cX7_executeWithin 5 = .ok (.iload_n 1, 1) := by decide +kernel
theorem dX7_executeWithin_6 : decode cX7_executeWithin 6 = .ok (.sipush 500, 3) := by decide +kernel
theorem dX7_executeWithin_9 : decode cX7_executeWithin 9 = .ok (.if_icmp .le 14, 3) := by decide +kernel
theorem dX7_executeWithin_12 : decode cX7_executeWithin 12 = .ok (.new 71, 3) := by decide +kernel
theorem dX7_executeWithin_15 : decode cX7_executeWithin 15 = .ok (.dup, 1) := by decide +kernel
theorem dX7_executeWithin_16 : decode cX7_executeWithin 16 = .ok (.ldc_w 310, 3) := by decide +kernel
theorem dX7_executeWithin_19 : decode cX7_executeWithin 19 = .ok (.invokespecial 75, 3) := by decide +kernel
theorem dX7_executeWithin_22 : decode cX7_executeWithin 22 = .ok (.athrow, 1) := by decide +kernel
theorem dX7_executeWithin_23 : decode cX7_executeWithin 23 = .ok (.aload_n 0, 1) := by decide +kernel
theorem dX7_executeWithin_24 : decode cX7_executeWithin 24 = .ok (.getfield 44, 3) := by decide +kernel
theorem dX7_executeWithin_27 : decode cX7_executeWithin 27 = .ok (.iload_n 1, 1) := by decide +kernel
theorem dX7_executeWithin_28 : decode cX7_executeWithin 28 = .ok (.invokevirtual 312, 3) := by decide +kernel
theorem dX7_executeWithin_31 : decode cX7_executeWithin 31 = .ok (.ifCond .ne 14, 3) := by decide +kernel
theorem dX7_executeWithin_34 : decode cX7_executeWithin 34 = .ok (.new 251, 3) := by decide +kernel
theorem dX7_executeWithin_37 : decode cX7_executeWithin 37 = .ok (.dup, 1) := by decide +kernel
theorem dX7_executeWithin_38 : decode cX7_executeWithin 38 = .ok (.ldc_w 315, 3) := by decide +kernel
theorem dX7_executeWithin_41 : decode cX7_executeWithin 41 = .ok (.invokespecial 255, 3) := by decide +kernel
theorem dX7_executeWithin_44 : decode cX7_executeWithin 44 = .ok (.athrow, 1) := by decide +kernel
theorem dX7_executeWithin_45 : decode cX7_executeWithin 45 = .ok (.return_, 1) := by decide +kernel
theorem dX7_cyclesAligned_0 : decode cX7_cyclesAligned 0 = .ok (.aload_n 0, 1) := by decide +kernel
theorem dX7_cyclesAligned_1 : decode cX7_cyclesAligned 1 = .ok (.getfield 28, 3) := by decide +kernel
theorem dX7_cyclesAligned_4 : decode cX7_cyclesAligned 4 = .ok (.iload_n 1, 1) := by decide +kernel
theorem dX7_cyclesAligned_5 : decode cX7_cyclesAligned 5 = .ok (.aload_n 0, 1) := by decide +kernel
theorem dX7_cyclesAligned_6 : decode cX7_cyclesAligned 6 = .ok (.getfield 62, 3) := by decide +kernel
theorem dX7_cyclesAligned_9 : decode cX7_cyclesAligned 9 = .ok (.invokevirtual 143, 3) := by decide +kernel
theorem dX7_cyclesAligned_12 : decode cX7_cyclesAligned 12 = .ok (.aload_n 0, 1) := by decide +kernel
theorem dX7_cyclesAligned_13 : decode cX7_cyclesAligned 13 = .ok (.getfield 28, 3) := by decide +kernel
theorem dX7_cyclesAligned_16 : decode cX7_cyclesAligned 16 = .ok (.invokevirtual 317, 3) := by decide +kernel
theorem dX7_cyclesAligned_19 : decode cX7_cyclesAligned 19 = .ok (.ireturn, 1) := by decide +kernel
theorem dX7_areTargetsFit_0 : decode cX7_areTargetsFit 0 = .ok (.aload_n 0, 1) := by decide +kernel
theorem dX7_areTargetsFit_1 : decode cX7_areTargetsFit 1 = .ok (.getfield 58, 3) := by decide +kernel
theorem dX7_areTargetsFit_4 : decode cX7_areTargetsFit 4 = .ok (.getfield 280, 3) := by decide +kernel
theorem dX7_areTargetsFit_7 : decode cX7_areTargetsFit 7 = .ok (.ifCond .ne 18, 3) := by decide +kernel
theorem dX7_areTargetsFit_10 : decode cX7_areTargetsFit 10 = .ok (.aload_n 0, 1) := by decide +kernel
theorem dX7_areTargetsFit_11 : decode cX7_areTargetsFit 11 = .ok (.getfield 12, 3) := by decide +kernel
theorem dX7_areTargetsFit_14 : decode cX7_areTargetsFit 14 = .ok (.aload_n 0, 1) := by decide +kernel
theorem dX7_areTargetsFit_15 : decode cX7_areTargetsFit 15 = .ok (.getfield 58, 3) := by decide +kernel
theorem dX7_areTargetsFit_18 : decode cX7_areTargetsFit 18 = .ok (.getfield 282, 3) := by decide +kernel
theorem dX7_areTargetsFit_21 : decode cX7_areTargetsFit 21 = .ok (.invokevirtual 301, 3) := by decide +kernel
theorem dX7_areTargetsFit_24 : decode cX7_areTargetsFit 24 = .ok (.ireturn, 1) := by decide +kernel
theorem dX7_areTargetsFit_25 : decode cX7_areTargetsFit 25 = .ok (.aload_n 0, 1) := by decide +kernel
theorem dX7_areTargetsFit_26 : decode cX7_areTargetsFit 26 = .ok (.getfield 58, 3) := by decide +kernel
theorem dX7_areTargetsFit_29 : decode cX7_areTargetsFit 29 = .ok (.getfield 280, 3) := by decide +kernel
theorem dX7_areTargetsFit_32 : decode cX7_areTargetsFit 32 = .ok (.iconst 1, 1) := by decide +kernel
theorem dX7_areTargetsFit_33 : decode cX7_areTargetsFit 33 = .ok (.if_icmp .ne 60, 3) := by decide +kernel
theorem dX7_areTargetsFit_36 : decode cX7_areTargetsFit 36 = .ok (.aload_n 0, 1) := by decide +kernel
theorem dX7_areTargetsFit_37 : decode cX7_areTargetsFit 37 = .ok (.getfield 12, 3) := by decide +kernel
theorem dX7_areTargetsFit_40 : decode cX7_areTargetsFit 40 = .ok (.aload_n 0, 1) := by decide +kernel
theorem dX7_areTargetsFit_41 : decode cX7_areTargetsFit 41 = .ok (.getfield 58, 3) := by decide +kernel
theorem dX7_areTargetsFit_44 : decode cX7_areTargetsFit 44 = .ok (.getfield 282, 3) := by decide +kernel
theorem dX7_areTargetsFit_47 : decode cX7_areTargetsFit 47 = .ok (.invokevirtual 301, 3) := by decide +kernel
theorem dX7_areTargetsFit_50 : decode cX7_areTargetsFit 50 = .ok (.ifCond .eq 41, 3) := by decide +kernel
theorem dX7_areTargetsFit_53 : decode cX7_areTargetsFit 53 = .ok (.aload_n 0, 1) := by decide +kernel
theorem dX7_areTargetsFit_54 : decode cX7_areTargetsFit 54 = .ok (.getfield 12, 3) := by decide +kernel
theorem dX7_areTargetsFit_57 : decode cX7_areTargetsFit 57 = .ok (.aload_n 0, 1) := by decide +kernel
theorem dX7_areTargetsFit_58 : decode cX7_areTargetsFit 58 = .ok (.getfield 58, 3) := by decide +kernel
theorem dX7_areTargetsFit_61 : decode cX7_areTargetsFit 61 = .ok (.getfield 284, 3) := by decide +kernel
theorem dX7_areTargetsFit_64 : decode cX7_areTargetsFit 64 = .ok (.invokevirtual 301, 3) := by decide +kernel
theorem dX7_areTargetsFit_67 : decode cX7_areTargetsFit 67 = .ok (.ifCond .eq 24, 3) := by decide +kernel
theorem dX7_areTargetsFit_70 : decode cX7_areTargetsFit 70 = .ok (.aload_n 0, 1) := by decide +kernel
theorem dX7_areTargetsFit_71 : decode cX7_areTargetsFit 71 = .ok (.getfield 58, 3) := by decide +kernel
theorem dX7_areTargetsFit_74 : decode cX7_areTargetsFit 74 = .ok (.getfield 282, 3) := by decide +kernel
theorem dX7_areTargetsFit_77 : decode cX7_areTargetsFit 77 = .ok (.aload_n 0, 1) := by decide +kernel
theorem dX7_areTargetsFit_78 : decode cX7_areTargetsFit 78 = .ok (.getfield 58, 3) := by decide +kernel
theorem dX7_areTargetsFit_81 : decode cX7_areTargetsFit 81 = .ok (.getfield 284, 3) := by decide +kernel
theorem dX7_areTargetsFit_84 : decode cX7_areTargetsFit 84 = .ok (.if_icmp .eq 7, 3) := by decide +kernel
theorem dX7_areTargetsFit_87 : decode cX7_areTargetsFit 87 = .ok (.iconst 1, 1) := by decide +kernel
theorem dX7_areTargetsFit_88 : decode cX7_areTargetsFit 88 = .ok (.goto 4, 3) := by decide +kernel
theorem dX7_areTargetsFit_91 : decode cX7_areTargetsFit 91 = .ok (.iconst 0, 1) := by decide +kernel
theorem dX7_areTargetsFit_92 : decode cX7_areTargetsFit 92 = .ok (.ireturn, 1) := by decide +kernel
theorem dX7_areTargetsFit_93 : decode cX7_areTargetsFit 93 = .ok (.iconst 1, 1) := by decide +kernel
theorem dX7_areTargetsFit_94 : decode cX7_areTargetsFit 94 = .ok (.ireturn, 1) := by decide +kernel
theorem dJx00060_init_a7421_0 : decode cJx00060_init_a7421 0 = .ok (.aload_n 0, 1) := by decide +kernel
theorem dJx00060_init_a7421_1 : decode cJx00060_init_a7421 1 = .ok (.aload_n 1, 1) := by decide +kernel
theorem dJx00060_init_a7421_2 : decode cJx00060_init_a7421 2 = .ok (.invokespecial 7, 3) := by decide +kernel
theorem dJx00060_init_a7421_5 : decode cJx00060_init_a7421 5 = .ok (.return_, 1) := by decide +kernel
theorem dJ9_min_7cf53_0 : decode cJ9_min_7cf53 0 = .ok (.iload_n 0, 1) := by decide +kernel
theorem dJ9_min_7cf53_1 : decode cJ9_min_7cf53 1 = .ok (.iload_n 1, 1) := by decide +kernel
theorem dJ9_min_7cf53_2 : decode cJ9_min_7cf53 2 = .ok (.if_icmp .gt 7, 3) := by decide +kernel
theorem dJ9_min_7cf53_5 : decode cJ9_min_7cf53 5 = .ok (.iload_n 0, 1) := by decide +kernel
theorem dJ9_min_7cf53_6 : decode cJ9_min_7cf53 6 = .ok (.goto 4, 3) := by decide +kernel
theorem dJ9_min_7cf53_9 : decode cJ9_min_7cf53 9 = .ok (.iload_n 1, 1) := by decide +kernel
theorem dJ9_min_7cf53_10 : decode cJ9_min_7cf53 10 = .ok (.ireturn, 1) := by decide +kernel
theorem dJ0_length_8abf5_0 : decode cJ0_length_8abf5 0 = .ok (.aload_n 0, 1) := by decide +kernel
theorem dJ0_length_8abf5_1 : decode cJ0_length_8abf5 1 = .ok (.getfield 9, 3) := by decide +kernel
theorem dJ0_length_8abf5_4 : decode cJ0_length_8abf5 4 = .ok (.arraylength, 1) := by decide +kernel
theorem dJ0_length_8abf5_5 : decode cJ0_length_8abf5 5 = .ok (.aload_n 0, 1) := by decide +kernel
theorem dJ0_length_8abf5_6 : decode cJ0_length_8abf5 6 = .ok (.invokevirtual 335, 3) := by decide +kernel
theorem dJ0_length_8abf5_9 : decode cJ0_length_8abf5 9 = .ok (.ishr, 1) := by decide +kernel
theorem dJ0_length_8abf5_10 : decode cJ0_length_8abf5 10 = .ok (.ireturn, 1) := by decide +kernel
theorem dJ0_charAt_5068e_0 : decode cJ0_charAt_5068e 0 = .ok (.aload_n 0, 1) := by decide +kernel
theorem dJ0_charAt_5068e_1 : decode cJ0_charAt_5068e 1 = .ok (.invokevirtual 492, 3) := by decide +kernel
theorem dJ0_charAt_5068e_4 : decode cJ0_charAt_5068e 4 = .ok (.ifCond .eq 12, 3) := by decide +kernel
theorem dJ0_charAt_5068e_7 : decode cJ0_charAt_5068e 7 = .ok (.aload_n 0, 1) := by decide +kernel
theorem dJ0_charAt_5068e_8 : decode cJ0_charAt_5068e 8 = .ok (.getfield 9, 3) := by decide +kernel
theorem dJ0_charAt_5068e_11 : decode cJ0_charAt_5068e 11 = .ok (.iload_n 1, 1) := by decide +kernel
theorem dJ0_charAt_5068e_12 : decode cJ0_charAt_5068e 12 = .ok (.invokestatic 495, 3) := by decide +kernel
theorem dJ0_charAt_5068e_15 : decode cJ0_charAt_5068e 15 = .ok (.ireturn, 1) := by decide +kernel
theorem dJ0_charAt_5068e_16 : decode cJ0_charAt_5068e 16 = .ok (.aload_n 0, 1) := by decide +kernel
theorem dJ0_charAt_5068e_17 : decode cJ0_charAt_5068e 17 = .ok (.getfield 9, 3) := by decide +kernel
theorem dJ0_charAt_5068e_20 : decode cJ0_charAt_5068e 20 = .ok (.iload_n 1, 1) := by decide +kernel
theorem dJ0_charAt_5068e_21 : decode cJ0_charAt_5068e 21 = .ok (.invokestatic 498, 3) := by decide +kernel
theorem dJ0_charAt_5068e_24 : decode cJ0_charAt_5068e 24 = .ok (.ireturn, 1) := by decide +kernel
theorem dJ0_coder_7d493_0 : decode cJ0_coder_7d493 0 = .ok (.getstatic 38, 3) := by decide +kernel
theorem dJ0_coder_7d493_3 : decode cJ0_coder_7d493 3 = .ok (.ifCond .eq 10, 3) := by decide +kernel
theorem dJ0_coder_7d493_6 : decode cJ0_coder_7d493 6 = .ok (.aload_n 0, 1) := by decide +kernel
theorem dJ0_coder_7d493_7 : decode cJ0_coder_7d493 7 = .ok (.getfield 15, 3) := by decide +kernel
theorem dJ0_coder_7d493_10 : decode cJ0_coder_7d493 10 = .ok (.goto 4, 3) := by decide +kernel
theorem dJ0_coder_7d493_13 : decode cJ0_coder_7d493 13 = .ok (.iconst 1, 1) := by decide +kernel
theorem dJ0_coder_7d493_14 : decode cJ0_coder_7d493 14 = .ok (.ireturn, 1) := by decide +kernel
theorem dJ0_isLatin1_aae02_0 : decode cJ0_isLatin1_aae02 0 = .ok (.getstatic 38, 3) := by decide +kernel
theorem dJ0_isLatin1_aae02_3 : decode cJ0_isLatin1_aae02 3 = .ok (.ifCond .eq 14, 3) := by decide +kernel
theorem dJ0_isLatin1_aae02_6 : decode cJ0_isLatin1_aae02 6 = .ok (.aload_n 0, 1) := by decide +kernel
theorem dJ0_isLatin1_aae02_7 : decode cJ0_isLatin1_aae02 7 = .ok (.getfield 15, 3) := by decide +kernel
theorem dJ0_isLatin1_aae02_10 : decode cJ0_isLatin1_aae02 10 = .ok (.ifCond .ne 7, 3) := by decide +kernel
theorem dJ0_isLatin1_aae02_13 : decode cJ0_isLatin1_aae02 13 = .ok (.iconst 1, 1) := by decide +kernel
theorem dJ0_isLatin1_aae02_14 : decode cJ0_isLatin1_aae02 14 = .ok (.goto 4, 3) := by decide +kernel
theorem dJ0_isLatin1_aae02_17 : decode cJ0_isLatin1_aae02 17 = .ok (.iconst 0, 1) := by decide +kernel
theorem dJ0_isLatin1_aae02_18 : decode cJ0_isLatin1_aae02 18 = .ok (.ireturn, 1) := by decide +kernel
theorem dJ0_checkIndex_df160_0 : decode cJ0_checkIndex_df160 0 = .ok (.iload_n 0, 1) := by decide +kernel
theorem dJ0_checkIndex_df160_1 : decode cJ0_checkIndex_df160 1 = .ok (.iload_n 1, 1) := by decide +kernel
theorem dJ0_checkIndex_df160_2 : decode cJ0_checkIndex_df160 2 = .ok (.getstatic 1053, 3) := by decide +kernel
theorem dJ0_checkIndex_df160_5 : decode cJ0_checkIndex_df160 5 = .ok (.invokestatic 1059, 3) := by decide +kernel
theorem dJ0_checkIndex_df160_8 : decode cJ0_checkIndex_df160 8 = .ok (.pop, 1) := by decide +kernel
theorem dJ0_checkIndex_df160_9 : decode cJ0_checkIndex_df160 9 = .ok (.return_, 1) := by decide +kernel
theorem dJ1_charAt_3b067_0 : decode cJ1_charAt_3b067 0 = .ok (.iload_n 1, 1) := by decide +kernel
theorem dJ1_charAt_3b067_1 : decode cJ1_charAt_3b067 1 = .ok (.aload_n 0, 1) := by decide +kernel
theorem dJ1_charAt_3b067_2 : decode cJ1_charAt_3b067 2 = .ok (.arraylength, 1) := by decide +kernel
theorem dJ1_charAt_3b067_3 : decode cJ1_charAt_3b067 3 = .ok (.invokestatic 9, 3) := by decide +kernel
theorem dJ1_charAt_3b067_6 : decode cJ1_charAt_3b067 6 = .ok (.aload_n 0, 1) := by decide +kernel
theorem dJ1_charAt_3b067_7 : decode cJ1_charAt_3b067 7 = .ok (.iload_n 1, 1) := by decide +kernel
theorem dJ1_charAt_3b067_8 : decode cJ1_charAt_3b067 8 = .ok (.baload, 1) := by decide +kernel
theorem dJ1_charAt_3b067_9 : decode cJ1_charAt_3b067 9 = .ok (.sipush 255, 3) := by decide +kernel
theorem dJ1_charAt_3b067_12 : decode cJ1_charAt_3b067 12 = .ok (.iand, 1) := by decide +kernel
theorem dJ1_charAt_3b067_13 : decode cJ1_charAt_3b067 13 = .ok (.i2c, 1) := by decide +kernel
theorem dJ1_charAt_3b067_14 : decode cJ1_charAt_3b067 14 = .ok (.ireturn, 1) := by decide +kernel
theorem dJ2_getChar_3b067_0 : decode cJ2_getChar_3b067 0 = .ok (.getstatic 44, 3) := by decide +kernel
theorem dJ2_getChar_3b067_3 : decode cJ2_getChar_3b067 3 = .ok (.ifCond .ne 25, 3) := by decide +kernel
theorem dJ2_getChar_3b067_6 : decode cJ2_getChar_3b067 6 = .ok (.iload_n 1, 1) := by decide +kernel
theorem dJ2_getChar_3b067_7 : decode cJ2_getChar_3b067 7 = .ok (.ifCond .lt 11, 3) := by decide +kernel
theorem dJ2_getChar_3b067_10 : decode cJ2_getChar_3b067 10 = .ok (.iload_n 1, 1) := by decide +kernel
theorem dJ2_getChar_3b067_11 : decode cJ2_getChar_3b067 11 = .ok (.aload_n 0, 1) := by decide +kernel
theorem dJ2_getChar_3b067_12 : decode cJ2_getChar_3b067 12 = .ok (.invokestatic 48, 3) := by decide +kernel
theorem dJ2_getChar_3b067_15 : decode cJ2_getChar_3b067 15 = .ok (.if_icmp .lt 13, 3) := by decide +kernel
theorem dJ2_getChar_3b067_18 : decode cJ2_getChar_3b067 18 = .ok (.new 52, 3) := by decide +kernel
theorem dJ2_getChar_3b067_21 : decode cJ2_getChar_3b067 21 = .ok (.dup, 1) := by decide +kernel
theorem dJ2_getChar_3b067_22 : decode cJ2_getChar_3b067 22 = .ok (.ldc 54, 2) := by decide +kernel
theorem dJ2_getChar_3b067_24 : decode cJ2_getChar_3b067 24 = .ok (.invokespecial 56, 3) := by decide +kernel
theorem dJ2_getChar_3b067_27 : decode cJ2_getChar_3b067 27 = .ok (.athrow, 1) := by decide +kernel
theorem dJ2_getChar_3b067_28 : decode cJ2_getChar_3b067 28 = .ok (.iload_n 1, 1) := by decide +kernel
theorem dJ2_getChar_3b067_29 : decode cJ2_getChar_3b067 29 = .ok (.iconst 1, 1) := by decide +kernel
theorem dJ2_getChar_3b067_30 : decode cJ2_getChar_3b067 30 = .ok (.ishl, 1) := by decide +kernel
theorem dJ2_getChar_3b067_31 : decode cJ2_getChar_3b067 31 = .ok (.istore_n 1, 1) := by decide +kernel
theorem dJ2_getChar_3b067_32 : decode cJ2_getChar_3b067 32 = .ok (.aload_n 0, 1) := by decide +kernel
theorem dJ2_getChar_3b067_33 : decode cJ2_getChar_3b067 33 = .ok (.iload_n 1, 1) := by decide +kernel
theorem dJ2_getChar_3b067_34 : decode cJ2_getChar_3b067 34 = .ok (.iinc 1 1, 3) := by decide +kernel
theorem dJ2_getChar_3b067_37 : decode cJ2_getChar_3b067 37 = .ok (.baload, 1) := by decide +kernel
theorem dJ2_getChar_3b067_38 : decode cJ2_getChar_3b067 38 = .ok (.sipush 255, 3) := by decide +kernel
theorem dJ2_getChar_3b067_41 : decode cJ2_getChar_3b067 41 = .ok (.iand, 1) := by decide +kernel
theorem dJ2_getChar_3b067_42 : decode cJ2_getChar_3b067 42 = .ok (.getstatic 59, 3) := by decide +kernel
theorem dJ2_getChar_3b067_45 : decode cJ2_getChar_3b067 45 = .ok (.ishl, 1) := by decide +kernel
theorem dJ2_getChar_3b067_46 : decode cJ2_getChar_3b067 46 = .ok (.aload_n 0, 1) := by decide +kernel
theorem dJ2_getChar_3b067_47 : decode cJ2_getChar_3b067 47 = .ok (.iload_n 1, 1) := by decide +kernel
theorem dJ2_getChar_3b067_48 : decode cJ2_getChar_3b067 48 = .ok (.baload, 1) := by decide +kernel
theorem dJ2_getChar_3b067_49 : decode cJ2_getChar_3b067 49 = .ok (.sipush 255, 3) := by decide +kernel
theorem dJ2_getChar_3b067_52 : decode cJ2_getChar_3b067 52 = .ok (.iand, 1) := by decide +kernel
theorem dJ2_getChar_3b067_53 : decode cJ2_getChar_3b067 53 = .ok (.getstatic 63, 3) := by decide +kernel
theorem dJ2_getChar_3b067_56 : decode cJ2_getChar_3b067 56 = .ok (.ishl, 1) := by decide +kernel
theorem dJ2_getChar_3b067_57 : decode cJ2_getChar_3b067 57 = .ok (.ior, 1) := by decide +kernel
theorem dJ2_getChar_3b067_58 : decode cJ2_getChar_3b067 58 = .ok (.i2c, 1) := by decide +kernel
theorem dJ2_getChar_3b067_59 : decode cJ2_getChar_3b067 59 = .ok (.ireturn, 1) := by decide +kernel
theorem dJ2_length_9d52b_0 : decode cJ2_length_9d52b 0 = .ok (.aload_n 0, 1) := by decide +kernel
theorem dJ2_length_9d52b_1 : decode cJ2_length_9d52b 1 = .ok (.arraylength, 1) := by decide +kernel
theorem dJ2_length_9d52b_2 : decode cJ2_length_9d52b 2 = .ok (.iconst 1, 1) := by decide +kernel
theorem dJ2_length_9d52b_3 : decode cJ2_length_9d52b 3 = .ok (.ishr, 1) := by decide +kernel
theorem dJ2_length_9d52b_4 : decode cJ2_length_9d52b 4 = .ok (.ireturn, 1) := by decide +kernel
theorem dJ2_charAt_3b067_0 : decode cJ2_charAt_3b067 0 = .ok (.iload_n 1, 1) := by decide +kernel
theorem dJ2_charAt_3b067_1 : decode cJ2_charAt_3b067 1 = .ok (.aload_n 0, 1) := by decide +kernel
theorem dJ2_charAt_3b067_2 : decode cJ2_charAt_3b067 2 = .ok (.invokestatic 67, 3) := by decide +kernel
theorem dJ2_charAt_3b067_5 : decode cJ2_charAt_3b067 5 = .ok (.aload_n 0, 1) := by decide +kernel
theorem dJ2_charAt_3b067_6 : decode cJ2_charAt_3b067 6 = .ok (.iload_n 1, 1) := by decide +kernel
theorem dJ2_charAt_3b067_7 : decode cJ2_charAt_3b067 7 = .ok (.invokestatic 71, 3) := by decide +kernel
theorem dJ2_charAt_3b067_10 : decode cJ2_charAt_3b067 10 = .ok (.ireturn, 1) := by decide +kernel
theorem dJ2_checkIndex_2214a_0 : decode cJ2_checkIndex_2214a 0 = .ok (.iload_n 0, 1) := by decide +kernel
theorem dJ2_checkIndex_2214a_1 : decode cJ2_checkIndex_2214a 1 = .ok (.aload_n 1, 1) := by decide +kernel
theorem dJ2_checkIndex_2214a_2 : decode cJ2_checkIndex_2214a 2 = .ok (.invokestatic 48, 3) := by decide +kernel
theorem dJ2_checkIndex_2214a_5 : decode cJ2_checkIndex_2214a 5 = .ok (.invokestatic 414, 3) := by decide +kernel
theorem dJ2_checkIndex_2214a_8 : decode cJ2_checkIndex_2214a 8 = .ok (.return_, 1) := by decide +kernel
theorem dJ3_checkIndex_8e157_0 : decode cJ3_checkIndex_8e157 0 = .ok (.iload_n 0, 1) := by decide +kernel
theorem dJ3_checkIndex_8e157_1 : decode cJ3_checkIndex_8e157 1 = .ok (.ifCond .lt 8, 3) := by decide +kernel
theorem dJ3_checkIndex_8e157_4 : decode cJ3_checkIndex_8e157 4 = .ok (.iload_n 0, 1) := by decide +kernel
theorem dJ3_checkIndex_8e157_5 : decode cJ3_checkIndex_8e157 5 = .ok (.iload_n 1, 1) := by decide +kernel
theorem dJ3_checkIndex_8e157_6 : decode cJ3_checkIndex_8e157 6 = .ok (.if_icmp .lt 10, 3) := by decide +kernel
theorem dJ3_checkIndex_8e157_9 : decode cJ3_checkIndex_8e157 9 = .ok (.aload_n 2, 1) := by decide +kernel
theorem dJ3_checkIndex_8e157_10 : decode cJ3_checkIndex_8e157 10 = .ok (.iload_n 0, 1) := by decide +kernel
theorem dJ3_checkIndex_8e157_11 : decode cJ3_checkIndex_8e157 11 = .ok (.iload_n 1, 1) := by decide +kernel
theorem dJ3_checkIndex_8e157_12 : decode cJ3_checkIndex_8e157 12 = .ok (.invokestatic 95, 3) := by decide +kernel
theorem dJ3_checkIndex_8e157_15 : decode cJ3_checkIndex_8e157 15 = .ok (.athrow, 1) := by decide +kernel
theorem dJ3_checkIndex_8e157_16 : decode cJ3_checkIndex_8e157 16 = .ok (.iload_n 0, 1) := by decide +kernel
theorem dJ3_checkIndex_8e157_17 : decode cJ3_checkIndex_8e157 17 = .ok (.ireturn, 1) := by decide +kernel
end
section
theorem dX8_init_0 : decode cX8_init 0 = .ok (.aload_n 0, 1) := by decide +kernel
theorem dX8_init_1 : decode cX8_init 1 = .ok (.invokespecial 1, 3) := by decide +kernel
theorem dX8_init_4 : decode cX8_init 4 = .ok (.aload_n 0, 1) := by decide +kernel
theorem dX8_init_5 : decode cX8_init 5 = .ok (.iconst 1, 1) := by decide +kernel
theorem dX8_init_6 : decode cX8_init 6 = .ok (.putfield 7, 3) := by decide +kernel
theorem dX8_init_9 : decode cX8_init 9 = .ok (.aload_n 0, 1) := by decide +kernel
theorem dX8_init_10 : decode cX8_init 10 = .ok (.iconst 1, 1) := by decide +kernel
theorem dX8_init_11 : decode cX8_init 11 = .ok (.putfield 13, 3) := by decide +kernel
theorem dX8_init_14 : decode cX8_init 14 = .ok (.aload_n 0, 1) := by decide +kernel
theorem dX8_init_15 : decode cX8_init 15 = .ok (.bipush 16, 2) := by decide +kernel
theorem dX8_init_17 : decode cX8_init 17 = .ok (.newarray .int, 2) := by decide +kernel
theorem dX8_init_19 : decode cX8_init 19 = .ok (.putfield 16, 3) := by decide +kernel
theorem dX8_init_22 : decode cX8_init 22 = .ok (.aload_n 0, 1) := by decide +kernel
theorem dX8_init_23 : decode cX8_init 23 = .ok (.bipush 16, 2) := by decide +kernel
theorem dX8_init_25 : decode cX8_init 25 = .ok (.newarray .int, 2) := by decide +kernel
theorem dX8_init_27 : decode cX8_init 27 = .ok (.putfield 20, 3) := by decide +kernel
theorem dX8_init_30 : decode cX8_init 30 = .ok (.aload_n 0, 1) := by decide +kernel
theorem dX8_init_31 : decode cX8_init 31 = .ok (.bipush 16, 2) := by decide +kernel
theorem dX8_init_33 : decode cX8_init 33 = .ok (.newarray .int, 2) := by decide +kernel
theorem dX8_init_35 : decode cX8_init 35 = .ok (.putfield 23, 3) := by decide +kernel
theorem dX8_init_38 : decode cX8_init 38 = .ok (.aload_n 0, 1) := by decide +kernel
theorem dX8_init_39 : decode cX8_init 39 = .ok (.bipush 16, 2) := by decide +kernel
theorem dX8_init_41 : decode cX8_init 41 = .ok (.newarray .int, 2) := by decide +kernel
theorem dX8_init_43 : decode cX8_init 43 = .ok (.putfield 26, 3) := by decide +kernel
theorem dX8_init_46 : decode cX8_init 46 = .ok (.aload_n 0, 1) := by decide +kernel
theorem dX8_init_47 : decode cX8_init 47 = .ok (.bipush 16, 2) := by decide +kernel
theorem dX8_init_49 : decode cX8_init 49 = .ok (.newarray .int, 2) := by decide +kernel
theorem dX8_init_51 : decode cX8_init 51 = .ok (.putfield 29, 3) := by decide +kernel
theorem dX8_init_54 : decode cX8_init 54 = .ok (.aload_n 0, 1) := by decide +kernel
theorem dX8_init_55 : decode cX8_init 55 = .ok (.bipush 16, 2) := by decide +kernel
theorem dX8_init_57 : decode cX8_init 57 = .ok (.newarray .int, 2) := by decide +kernel
theorem dX8_init_59 : decode cX8_init 59 = .ok (.putfield 32, 3) := by decide +kernel
theorem dX8_init_62 : decode cX8_init 62 = .ok (.aload_n 0, 1) := by decide +kernel
theorem dX8_init_63 : decode cX8_init 63 = .ok (.bipush 16, 2) := by decide +kernel
theorem dX8_init_65 : decode cX8_init 65 = .ok (.newarray .int, 2) := by decide +kernel
theorem dX8_init_67 : decode cX8_init 67 = .ok (.putfield 35, 3) := by decide +kernel
theorem dX8_init_70 : decode cX8_init 70 = .ok (.aload_n 0, 1) := by decide +kernel
theorem dX8_init_71 : decode cX8_init 71 = .ok (.bipush 16, 2) := by decide +kernel
theorem dX8_init_73 : decode cX8_init 73 = .ok (.newarray .int, 2) := by decide +kernel
theorem dX8_init_75 : decode cX8_init 75 = .ok (.putfield 38, 3) := by decide +kernel
theorem dX8_init_78 : decode cX8_init 78 = .ok (.aload_n 0, 1) := by decide +kernel
theorem dX8_init_79 : decode cX8_init 79 = .ok (.bipush 16, 2) := by decide +kernel
theorem dX8_init_81 : decode cX8_init 81 = .ok (.newarray .int, 2) := by decide +kernel
theorem dX8_init_83 : decode cX8_init 83 = .ok (.putfield 41, 3) := by decide +kernel
theorem dX8_init_86 : decode cX8_init 86 = .ok (.aload_n 0, 1) := by decide +kernel
theorem dX8_init_87 : decode cX8_init 87 = .ok (.sipush 500, 3) := by decide +kernel
theorem dX8_init_90 : decode cX8_init 90 = .ok (.newarray .int, 2) := by decide +kernel
theorem dX8_init_92 : decode cX8_init 92 = .ok (.putfield 44, 3) := by decide +kernel
theorem dX8_init_95 : decode cX8_init 95 = .ok (.aload_n 0, 1) := by decide +kernel
theorem dX8_init_96 : decode cX8_init 96 = .ok (.sipush 500, 3) := by decide +kernel
theorem dX8_init_99 : decode cX8_init 99 = .ok (.newarray .int, 2) := by decide +kernel
theorem dX8_init_101 : decode cX8_init 101 = .ok (.putfield 47, 3) := by decide +kernel
theorem dX8_init_104 : decode cX8_init 104 = .ok (.aload_n 0, 1) := by decide +kernel
theorem dX8_init_105 : decode cX8_init 105 = .ok (.bipush 16, 2) := by decide +kernel
theorem dX8_init_107 : decode cX8_init 107 = .ok (.newarray .int, 2) := by decide +kernel
theorem dX8_init_109 : decode cX8_init 109 = .ok (.putfield 50, 3) := by decide +kernel
theorem dX8_init_112 : decode cX8_init 112 = .ok (.aload_n 0, 1) := by decide +kernel
theorem dX8_init_113 : decode cX8_init 113 = .ok (.sipush 500, 3) := by decide +kernel
theorem dX8_init_116 : decode cX8_init 116 = .ok (.newarray .boolean, 2) := by decide +kernel
theorem dX8_init_118 : decode cX8_init 118 = .ok (.putfield 53, 3) := by decide +kernel
theorem dX8_init_121 : decode cX8_init 121 = .ok (.aload_n 0, 1) := by decide +kernel
theorem dX8_init_122 : decode cX8_init 122 = .ok (.bipush 16, 2) := by decide +kernel
theorem dX8_init_124 : decode cX8_init 124 = .ok (.newarray .int, 2) := by decide +kernel
theorem dX8_init_126 : decode cX8_init 126 = .ok (.putfield 57, 3) := by decide +kernel
theorem dX8_init_129 : decode cX8_init 129 = .ok (.aload_n 0, 1) := by decide +kernel
theorem dX8_init_130 : decode cX8_init 130 = .ok (.bipush 16, 2) := by decide +kernel
theorem dX8_init_132 : decode cX8_init 132 = .ok (.newarray .int, 2) := by decide +kernel
theorem dX8_init_134 : decode cX8_init 134 = .ok (.putfield 60, 3) := by decide +kernel
theorem dX8_init_137 : decode cX8_init 137 = .ok (.aload_n 0, 1) := by decide +kernel
theorem dX8_init_138 : decode cX8_init 138 = .ok (.bipush 16, 2) := by decide +kernel
theorem dX8_init_140 : decode cX8_init 140 = .ok (.newarray .int, 2) := by decide +kernel
theorem dX8_init_142 : decode cX8_init 142 = .ok (.putfield 63, 3) := by decide +kernel
theorem dX8_init_145 : decode cX8_init 145 = .ok (.aload_n 0, 1) := by decide +kernel
theorem dX8_init_146 : decode cX8_init 146 = .ok (.bipush 16, 2) := by decide +kernel
theorem dX8_init_148 : decode cX8_init 148 = .ok (.newarray .boolean, 2) := by decide +kernel
theorem dX8_init_150 : decode cX8_init 150 = .ok (.putfield 66, 3) := by decide +kernel
theorem dX8_init_153 : decode cX8_init 153 = .ok (.aload_n 0, 1) := by decide +kernel
theorem dX8_init_154 : decode cX8_init 154 = .ok (.bipush 16, 2) := by decide +kernel
theorem dX8_init_156 : decode cX8_init 156 = .ok (.newarray .boolean, 2) := by decide +kernel
theorem dX8_init_158 : decode cX8_init 158 = .ok (.putfield 69, 3) := by decide +kernel
theorem dX8_init_161 : decode cX8_init 161 = .ok (.aload_n 0, 1) := by decide +kernel
theorem dX8_init_162 : decode cX8_init 162 = .ok (.sipush 160, 3) := by decide +kernel
theorem dX8_init_165 : decode cX8_init 165 = .ok (.newarray .int, 2) := by decide +kernel
theorem dX8_init_167 : decode cX8_init 167 = .ok (.putfield 72, 3) := by decide +kernel
theorem dX8_init_170 : decode cX8_init 170 = .ok (.aload_n 0, 1) := by decide +kernel
theorem dX8_init_171 : decode cX8_init 171 = .ok (.bipush 10, 2) := by decide +kernel
theorem dX8_init_173 : decode cX8_init 173 = .ok (.newarray .int, 2) := by decide +kernel
theorem dX8_init_175 : decode cX8_init 175 = .ok (.putfield 75, 3) := by decide +kernel
theorem dX8_init_178 : decode cX8_init 178 = .ok (.aload_n 0, 1) := by decide +kernel
theorem dX8_init_179 : decode cX8_init 179 = .ok (.bipush 10, 2) := by decide +kernel
theorem dX8_init_181 : decode cX8_init 181 = .ok (.newarray .int, 2) := by decide +kernel
theorem dX8_init_183 : decode cX8_init 183 = .ok (.putfield 78, 3) := by decide +kernel
theorem dX8_init_186 : decode cX8_init 186 = .ok (.aload_n 0, 1) := by decide +kernel
theorem dX8_init_187 : decode cX8_init 187 = .ok (.bipush 16, 2) := by decide +kernel
theorem dX8_init_189 : decode cX8_init 189 = .ok (.newarray .int, 2) := by decide +kernel
theorem dX8_init_191 : decode cX8_init 191 = .ok (.putfield 81, 3) := by decide +kernel
theorem dX8_init_194 : decode cX8_init 194 = .ok (.aload_n 0, 1) := by decide +kernel
theorem dX8_init_195 : decode cX8_init 195 = .ok (.bipush 16, 2) := by decide +kernel
theorem dX8_init_197 : decode cX8_init 197 = .ok (.newarray .int, 2) := by decide +kernel
theorem dX8_init_199 : decode cX8_init 199 = .ok (.putfield 84, 3) := by decide +kernel
theorem dX8_init_202 : decode cX8_init 202 = .ok (.aload_n 0, 1) := by decide +kernel
theorem dX8_init_203 : decode cX8_init 203 = .ok (.bipush 8, 2) := by decide +kernel
theorem dX8_init_205 : decode cX8_init 205 = .ok (.newarray .int, 2) := by decide +kernel
theorem dX8_init_207 : decode cX8_init 207 = .ok (.putfield 87, 3) := by decide +kernel
theorem dX8_init_210 : decode cX8_init 210 = .ok (.aload_n 0, 1) := by decide +kernel
theorem dX8_init_211 : decode cX8_init 211 = .ok (.bipush 8, 2) := by decide +kernel
theorem dX8_init_213 : decode cX8_init 213 = .ok (.newarray .int, 2) := by decide +kernel
theorem dX8_init_215 : decode cX8_init 215 = .ok (.putfield 90, 3) := by decide +kernel
theorem dX8_init_218 : decode cX8_init 218 = .ok (.aload_n 0, 1) := by decide +kernel
theorem dX8_init_219 : decode cX8_init 219 = .ok (.bipush 60, 2) := by decide +kernel
theorem dX8_init_221 : decode cX8_init 221 = .ok (.newarray .int, 2) := by decide +kernel
theorem dX8_init_223 : decode cX8_init 223 = .ok (.putfield 93, 3) := by decide +kernel
theorem dX8_init_226 : decode cX8_init 226 = .ok (.aload_n 0, 1) := by decide +kernel
theorem dX8_init_227 : decode cX8_init 227 = .ok (.iconst 1, 1) := by decide +kernel
theorem dX8_init_228 : decode cX8_init 228 = .ok (.invokevirtual 96, 3) := by decide +kernel
theorem dX8_init_231 : decode cX8_init 231 = .ok (.aload_n 0, 1) := by decide +kernel
theorem dX8_init_232 : decode cX8_init 232 = .ok (.invokevirtual 100, 3) := by decide +kernel
theorem dX8_init_235 : decode cX8_init 235 = .ok (.return_, 1) := by decide +kernel
theorem dX8_thrown_0 : decode cX8_thrown 0 = .ok (.aload_n 0, 1) := by decide +kernel
theorem dX8_thrown_1 : decode cX8_thrown 1 = .ok (.getfield 103, 3) := by decide +kernel
theorem dX8_thrown_4 : decode cX8_thrown 4 = .ok (.ireturn, 1) := by decide +kernel
theorem dX8_isIn_0 : decode cX8_isIn 0 = .ok (.iload_n 0, 1) := by decide +kernel
theorem dX8_isIn_1 : decode cX8_isIn 1 = .ok (.iload_n 1, 1) := by decide +kernel
theorem dX8_isIn_2 : decode cX8_isIn 2 = .ok (.if_icmp .lt 12, 3) := by decide +kernel
theorem dX8_isIn_5 : decode cX8_isIn 5 = .ok (.iload_n 0, 1) := by decide +kernel
theorem dX8_isIn_6 : decode cX8_isIn 6 = .ok (.iload_n 2, 1) := by decide +kernel
theorem dX8_isIn_7 : decode cX8_isIn 7 = .ok (.if_icmp .gt 7, 3) := by decide +kernel
theorem dX8_isIn_10 : decode cX8_isIn 10 = .ok (.iconst 1, 1) := by decide +kernel
theorem dX8_isIn_11 : decode cX8_isIn 11 = .ok (.goto 4, 3) := by decide +kernel
theorem dX8_isIn_14 : decode cX8_isIn 14 = .ok (.iconst 0, 1) := by decide +kernel
theorem dX8_isIn_15 : decode cX8_isIn 15 = .ok (.ireturn, 1) := by decide +kernel
theorem dX8_isBlock_0 : decode cX8_isBlock 0 = .ok (.iload_n 1, 1) := by decide +kernel
theorem dX8_isBlock_1 : decode cX8_isBlock 1 = .ok (.iconst 0, 1) := by decide +kernel
theorem dX8_isBlock_2 : decode cX8_isBlock 2 = .ok (.aload_n 0, 1) := by decide +kernel
theorem dX8_isBlock_3 : decode cX8_isBlock 3 = .ok (.getfield 106, 3) := by decide +kernel
theorem dX8_isBlock_6 : decode cX8_isBlock 6 = .ok (.iconst 1, 1) := by decide +kernel
theorem dX8_isBlock_7 : decode cX8_isBlock 7 = .ok (.isub, 1) := by decide +kernel
theorem dX8_isBlock_8 : decode cX8_isBlock 8 = .ok (.invokestatic 109, 3) := by decide +kernel
theorem dX8_isBlock_11 : decode cX8_isBlock 11 = .ok (.ireturn, 1) := by decide +kernel
theorem dX8_begins_0 : decode cX8_begins 0 = .ok (.aload_n 0, 1) := by decide +kernel
theorem dX8_begins_1 : decode cX8_begins 1 = .ok (.iload_n 1, 1) := by decide +kernel
theorem dX8_begins_2 : decode cX8_begins 2 = .ok (.putfield 106, 3) := by decide +kernel
theorem dX8_begins_5 : decode cX8_begins 5 = .ok (.iconst 0, 1) := by decide +kernel
theorem dX8_begins_6 : decode cX8_begins 6 = .ok (.istore_n 2, 1) := by decide +kernel
theorem dX8_begins_7 : decode cX8_begins 7 = .ok (.iload_n 2, 1) := by decide +kernel
theorem dX8_begins_8 : decode cX8_begins 8 = .ok (.bipush 16, 2) := by decide +kernel
theorem dX8_begins_10 : decode cX8_begins 10 = .ok (.if_icmp .ge 65, 3) := by decide +kernel
theorem dX8_begins_13 : decode cX8_begins 13 = .ok (.aload_n 0, 1) := by decide +kernel
theorem dX8_begins_14 : decode cX8_begins 14 = .ok (.getfield 16, 3) := by decide +kernel
theorem dX8_begins_17 : decode cX8_begins 17 = .ok (.iload_n 2, 1) := by decide +kernel
theorem dX8_begins_18 : decode cX8_begins 18 = .ok (.iconst 0, 1) := by decide +kernel
theorem dX8_begins_19 : decode cX8_begins 19 = .ok (.iastore, 1) := by decide +kernel
theorem dX8_begins_20 : decode cX8_begins 20 = .ok (.aload_n 0, 1) := by decide +kernel
theorem dX8_begins_21 : decode cX8_begins 21 = .ok (.getfield 20, 3) := by decide +kernel
theorem dX8_begins_24 : decode cX8_begins 24 = .ok (.iload_n 2, 1) := by decide +kernel
theorem dX8_begins_25 : decode cX8_begins 25 = .ok (.iconst 2, 1) := by decide +kernel
theorem dX8_begins_26 : decode cX8_begins 26 = .ok (.iastore, 1) := by decide +kernel
theorem dX8_begins_27 : decode cX8_begins 27 = .ok (.aload_n 0, 1) := by decide +kernel
theorem dX8_begins_28 : decode cX8_begins 28 = .ok (.getfield 23, 3) := by decide +kernel
theorem dX8_begins_31 : decode cX8_begins 31 = .ok (.iload_n 2, 1) := by decide +kernel
theorem dX8_begins_32 : decode cX8_begins 32 = .ok (.iconst (-1), 1) := by decide +kernel
theorem dX8_begins_33 : decode cX8_begins 33 = .ok (.iastore, 1) := by decide +kernel
theorem dX8_begins_34 : decode cX8_begins 34 = .ok (.aload_n 0, 1) := by decide +kernel
theorem dX8_begins_35 : decode cX8_begins 35 = .ok (.getfield 26, 3) := by decide +kernel
theorem dX8_begins_38 : decode cX8_begins 38 = .ok (.iload_n 2, 1) := by decide +kernel
theorem dX8_begins_39 : decode cX8_begins 39 = .ok (.iconst (-1), 1) := by decide +kernel
theorem dX8_begins_40 : decode cX8_begins 40 = .ok (.iastore, 1) := by decide +kernel
theorem dX8_begins_41 : decode cX8_begins 41 = .ok (.aload_n 0, 1) := by decide +kernel
theorem dX8_begins_42 : decode cX8_begins 42 = .ok (.getfield 29, 3) := by decide +kernel
theorem dX8_begins_45 : decode cX8_begins 45 = .ok (.iload_n 2, 1) := by decide +kernel
theorem dX8_begins_46 : decode cX8_begins 46 = .ok (.iconst 0, 1) := by decide +kernel
theorem dX8_begins_47 : decode cX8_begins 47 = .ok (.iastore, 1) := by decide +kernel
theorem dX8_begins_48 : decode cX8_begins 48 = .ok (.aload_n 0, 1) := by decide +kernel
theorem dX8_begins_49 : decode cX8_begins 49 = .ok (.getfield 32, 3) := by decide +kernel
theorem dX8_begins_52 : decode cX8_begins 52 = .ok (.iload_n 2, 1) := by decide +kernel
theorem dX8_begins_53 : decode cX8_begins 53 = .ok (.iconst 0, 1) := by decide +kernel
theorem dX8_begins_54 : decode cX8_begins 54 = .ok (.iastore, 1) := by decide +kernel
theorem dX8_begins_55 : decode cX8_begins 55 = .ok (.aload_n 0, 1) := by decide +kernel
theorem dX8_begins_56 : decode cX8_begins 56 = .ok (.getfield 35, 3) := by decide +kernel
theorem dX8_begins_59 : decode cX8_begins 59 = .ok (.iload_n 2, 1) := by decide +kernel
theorem dX8_begins_60 : decode cX8_begins 60 = .ok (.iconst 0, 1) := by decide +kernel
theorem dX8_begins_61 : decode cX8_begins 61 = .ok (.iastore, 1) := by decide +kernel
theorem dX8_begins_62 : decode cX8_begins 62 = .ok (.aload_n 0, 1) := by decide +kernel
theorem dX8_begins_63 : decode cX8_begins 63 = .ok (.getfield 38, 3) := by decide +kernel
theorem dX8_begins_66 : decode cX8_begins 66 = .ok (.iload_n 2, 1) := by decide +kernel
theorem dX8_begins_67 : decode cX8_begins 67 = .ok (.iconst 0, 1) := by decide +kernel
theorem dX8_begins_68 : decode cX8_begins 68 = .ok (.iastore, 1) := by decide +kernel
theorem dX8_begins_69 : decode cX8_begins 69 = .ok (.iinc 2 1, 3) := by decide +kernel
theorem dX8_begins_72 : decode cX8_begins 72 = .ok (.goto (-65), 3) := by decide +kernel
theorem dX8_begins_75 : decode cX8_begins 75 = .ok (.return_, 1) := by decide +kernel
theorem dX8_ascends_0 : decode cX8_ascends 0 = .ok (.aload_n 0, 1) := by decide +kernel
theorem dX8_ascends_1 : decode cX8_ascends 1 = .ok (.aload_n 0, 1) := by decide +kernel
theorem dX8_ascends_2 : decode cX8_ascends 2 = .ok (.getfield 106, 3) := by decide +kernel
theorem dX8_ascends_5 : decode cX8_ascends 5 = .ok (.putfield 113, 3) := by decide +kernel
theorem dX8_ascends_8 : decode cX8_ascends 8 = .ok (.iconst 0, 1) := by decide +kernel
theorem dX8_ascends_9 : decode cX8_ascends 9 = .ok (.istore_n 1, 1) := by decide +kernel
theorem dX8_ascends_10 : decode cX8_ascends 10 = .ok (.iload_n 1, 1) := by decide +kernel
theorem dX8_ascends_11 : decode cX8_ascends 11 = .ok (.bipush 16, 2) := by decide +kernel
theorem dX8_ascends_13 : decode cX8_ascends 13 = .ok (.if_icmp .ge 16, 3) := by decide +kernel
theorem dX8_ascends_16 : decode cX8_ascends 16 = .ok (.aload_n 0, 1) := by decide +kernel
theorem dX8_ascends_17 : decode cX8_ascends 17 = .ok (.getfield 41, 3) := by decide +kernel
theorem dX8_ascends_20 : decode cX8_ascends 20 = .ok (.iload_n 1, 1) := by decide +kernel
theorem dX8_ascends_21 : decode cX8_ascends 21 = .ok (.iload_n 1, 1) := by decide +kernel
theorem dX8_ascends_22 : decode cX8_ascends 22 = .ok (.iastore, 1) := by decide +kernel
theorem dX8_ascends_23 : decode cX8_ascends 23 = .ok (.iinc 1 1, 3) := by decide +kernel
theorem dX8_ascends_26 : decode cX8_ascends 26 = .ok (.goto (-16), 3) := by decide +kernel
theorem dX8_ascends_29 : decode cX8_ascends 29 = .ok (.return_, 1) := by decide +kernel
theorem dX8_clear_0 : decode cX8_clear 0 = .ok (.aload_n 0, 1) := by decide +kernel
theorem dX8_clear_1 : decode cX8_clear 1 = .ok (.iload_n 1, 1) := by decide +kernel
theorem dX8_clear_2 : decode cX8_clear 2 = .ok (.iconst 1, 1) := by decide +kernel
theorem dX8_clear_3 : decode cX8_clear 3 = .ok (.bipush 16, 2) := by decide +kernel
theorem dX8_clear_5 : decode cX8_clear 5 = .ok (.invokestatic 109, 3) := by decide +kernel
theorem dX8_clear_8 : decode cX8_clear 8 = .ok (.ifCond .eq 7, 3) := by decide +kernel
theorem dX8_clear_11 : decode cX8_clear 11 = .ok (.iconst 0, 1) := by decide +kernel
theorem dX8_clear_12 : decode cX8_clear 12 = .ok (.goto 4, 3) := by decide +kernel
theorem dX8_clear_15 : decode cX8_clear 15 = .ok (.iconst 1, 1) := by decide +kernel
theorem dX8_clear_16 : decode cX8_clear 16 = .ok (.putfield 103, 3) := by decide +kernel
theorem dX8_clear_19 : decode cX8_clear 19 = .ok (.aload_n 0, 1) := by decide +kernel
theorem dX8_clear_20 : decode cX8_clear 20 = .ok (.getfield 103, 3) := by decide +kernel
theorem dX8_clear_23 : decode cX8_clear 23 = .ok (.ifCond .eq 5, 3) := by decide +kernel
theorem dX8_clear_26 : decode cX8_clear 26 = .ok (.iconst 0, 1) := by decide +kernel
theorem dX8_clear_27 : decode cX8_clear 27 = .ok (.ireturn, 1) := by decide +kernel
theorem dX8_clear_28 : decode cX8_clear 28 = .ok (.aload_n 0, 1) := by decide +kernel
theorem dX8_clear_29 : decode cX8_clear 29 = .ok (.getfield 106, 3) := by decide +kernel
theorem dX8_clear_32 : decode cX8_clear 32 = .ok (.istore_n 2, 1) := by decide +kernel
theorem dX8_clear_33 : decode cX8_clear 33 = .ok (.aload_n 0, 1) := by decide +kernel
theorem dX8_clear_34 : decode cX8_clear 34 = .ok (.iload_n 1, 1) := by decide +kernel
theorem dX8_clear_35 : decode cX8_clear 35 = .ok (.invokevirtual 96, 3) := by decide +kernel
theorem dX8_clear_38 : decode cX8_clear 38 = .ok (.aload_n 0, 1) := by decide +kernel
theorem dX8_clear_39 : decode cX8_clear 39 = .ok (.invokevirtual 100, 3) := by decide +kernel
theorem dX8_clear_42 : decode cX8_clear 42 = .ok (.aload_n 0, 1) := by decide +kernel
theorem dX8_clear_43 : decode cX8_clear 43 = .ok (.iconst 0, 1) := by decide +kernel
theorem dX8_clear_44 : decode cX8_clear 44 = .ok (.putfield 116, 3) := by decide +kernel
theorem dX8_clear_47 : decode cX8_clear 47 = .ok (.iload_n 2, 1) := by decide +kernel
theorem dX8_clear_48 : decode cX8_clear 48 = .ok (.ireturn, 1) := by decide +kernel
theorem dX8_setSize_0 : decode cX8_setSize 0 = .ok (.aload_n 0, 1) := by decide +kernel
theorem dX8_setSize_1 : decode cX8_setSize 1 = .ok (.aload_n 0, 1) := by decide +kernel
theorem dX8_setSize_2 : decode cX8_setSize 2 = .ok (.iload_n 1, 1) := by decide +kernel
theorem dX8_setSize_3 : decode cX8_setSize 3 = .ok (.invokevirtual 119, 3) := by decide +kernel
theorem dX8_setSize_6 : decode cX8_setSize 6 = .ok (.ifCond .ne 7, 3) := by decide +kernel
theorem dX8_setSize_9 : decode cX8_setSize 9 = .ok (.iconst 1, 1) := by decide +kernel
theorem dX8_setSize_10 : decode cX8_setSize 10 = .ok (.goto 18, 3) := by decide +kernel
theorem dX8_setSize_13 : decode cX8_setSize 13 = .ok (.iload_n 2, 1) := by decide +kernel
theorem dX8_setSize_14 : decode cX8_setSize 14 = .ok (.iconst 0, 1) := by decide +kernel
theorem dX8_setSize_15 : decode cX8_setSize 15 = .ok (.bipush 60, 2) := by decide +kernel
theorem dX8_setSize_17 : decode cX8_setSize 17 = .ok (.invokestatic 109, 3) := by decide +kernel
theorem dX8_setSize_20 : decode cX8_setSize 20 = .ok (.ifCond .eq 7, 3) := by decide +kernel
theorem dX8_setSize_23 : decode cX8_setSize 23 = .ok (.iconst 0, 1) := by decide +kernel
theorem dX8_setSize_24 : decode cX8_setSize 24 = .ok (.goto 4, 3) := by decide +kernel
theorem dX8_setSize_27 : decode cX8_setSize 27 = .ok (.iconst 2, 1) := by decide +kernel
theorem dX8_setSize_28 : decode cX8_setSize 28 = .ok (.putfield 103, 3) := by decide +kernel
theorem dX8_setSize_31 : decode cX8_setSize 31 = .ok (.aload_n 0, 1) := by decide +kernel
theorem dX8_setSize_32 : decode cX8_setSize 32 = .ok (.getfield 103, 3) := by decide +kernel
theorem dX8_setSize_35 : decode cX8_setSize 35 = .ok (.ifCond .eq 5, 3) := by decide +kernel
theorem dX8_setSize_38 : decode cX8_setSize 38 = .ok (.iconst 0, 1) := by decide +kernel
theorem dX8_setSize_39 : decode cX8_setSize 39 = .ok (.ireturn, 1) := by decide +kernel
theorem dX8_setSize_40 : decode cX8_setSize 40 = .ok (.aload_n 0, 1) := by decide +kernel
theorem dX8_setSize_41 : decode cX8_setSize 41 = .ok (.getfield 16, 3) := by decide +kernel
theorem dX8_setSize_44 : decode cX8_setSize 44 = .ok (.iload_n 1, 1) := by decide +kernel
theorem dX8_setSize_45 : decode cX8_setSize 45 = .ok (.iaload, 1) := by decide +kernel
theorem dX8_setSize_46 : decode cX8_setSize 46 = .ok (.istore_n 3, 1) := by decide +kernel
theorem dX8_setSize_47 : decode cX8_setSize 47 = .ok (.aload_n 0, 1) := by decide +kernel
theorem dX8_setSize_48 : decode cX8_setSize 48 = .ok (.getfield 16, 3) := by decide +kernel
theorem dX8_setSize_51 : decode cX8_setSize 51 = .ok (.iload_n 1, 1) := by decide +kernel
theorem dX8_setSize_52 : decode cX8_setSize 52 = .ok (.iload_n 2, 1) := by decide +kernel
theorem dX8_setSize_53 : decode cX8_setSize 53 = .ok (.iastore, 1) := by decide +kernel
theorem dX8_setSize_54 : decode cX8_setSize 54 = .ok (.iload_n 3, 1) := by decide +kernel
theorem dX8_setSize_55 : decode cX8_setSize 55 = .ok (.ireturn, 1) := by decide +kernel
theorem dX8_ends_0 : decode cX8_ends 0 = .ok (.aload_n 0, 1) := by decide +kernel
theorem dX8_ends_1 : decode cX8_ends 1 = .ok (.getfield 20, 3) := by decide +kernel
theorem dX8_ends_4 : decode cX8_ends 4 = .ok (.iload_n 1, 1) := by decide +kernel
theorem dX8_ends_5 : decode cX8_ends 5 = .ok (.iaload, 1) := by decide +kernel
theorem dX8_ends_6 : decode cX8_ends 6 = .ok (.istore 6, 2) := by decide +kernel
theorem dX8_ends_8 : decode cX8_ends 8 = .ok (.aload_n 0, 1) := by decide +kernel
theorem dX8_ends_9 : decode cX8_ends 9 = .ok (.getfield 20, 3) := by decide +kernel
theorem dX8_ends_12 : decode cX8_ends 12 = .ok (.iload_n 1, 1) := by decide +kernel
theorem dX8_ends_13 : decode cX8_ends 13 = .ok (.iload_n 2, 1) := by decide +kernel
theorem dX8_ends_14 : decode cX8_ends 14 = .ok (.iastore, 1) := by decide +kernel
theorem dX8_ends_15 : decode cX8_ends 15 = .ok (.aload_n 0, 1) := by decide +kernel
theorem dX8_ends_16 : decode cX8_ends 16 = .ok (.getfield 23, 3) := by decide +kernel
theorem dX8_ends_19 : decode cX8_ends 19 = .ok (.iload_n 1, 1) := by decide +kernel
theorem dX8_ends_20 : decode cX8_ends 20 = .ok (.iload_n 3, 1) := by decide +kernel
theorem dX8_ends_21 : decode cX8_ends 21 = .ok (.iastore, 1) := by decide +kernel
theorem dX8_ends_22 : decode cX8_ends 22 = .ok (.aload_n 0, 1) := by decide +kernel
theorem dX8_ends_23 : decode cX8_ends 23 = .ok (.getfield 26, 3) := by decide +kernel
theorem dX8_ends_26 : decode cX8_ends 26 = .ok (.iload_n 1, 1) := by decide +kernel
theorem dX8_ends_27 : decode cX8_ends 27 = .ok (.iload 4, 2) := by decide +kernel
theorem dX8_ends_29 : decode cX8_ends 29 = .ok (.iastore, 1) := by decide +kernel
theorem dX8_ends_30 : decode cX8_ends 30 = .ok (.aload_n 0, 1) := by decide +kernel
theorem dX8_ends_31 : decode cX8_ends 31 = .ok (.getfield 29, 3) := by decide +kernel
theorem dX8_ends_34 : decode cX8_ends 34 = .ok (.iload_n 1, 1) := by decide +kernel
theorem dX8_ends_35 : decode cX8_ends 35 = .ok (.iload 5, 2) := by decide +kernel
theorem dX8_ends_37 : decode cX8_ends 37 = .ok (.iastore, 1) := by decide +kernel
theorem dX8_ends_38 : decode cX8_ends 38 = .ok (.aload_n 0, 1) := by decide +kernel
theorem dX8_ends_39 : decode cX8_ends 39 = .ok (.getfield 35, 3) := by decide +kernel
theorem dX8_ends_42 : decode cX8_ends 42 = .ok (.iload_n 1, 1) := by decide +kernel
theorem dX8_ends_43 : decode cX8_ends 43 = .ok (.iconst 0, 1) := by decide +kernel
theorem dX8_ends_44 : decode cX8_ends 44 = .ok (.iastore, 1) := by decide +kernel
theorem dX8_ends_45 : decode cX8_ends 45 = .ok (.aload_n 0, 1) := by decide +kernel
theorem dX8_ends_46 : decode cX8_ends 46 = .ok (.getfield 38, 3) := by decide +kernel
theorem dX8_ends_49 : decode cX8_ends 49 = .ok (.iload_n 1, 1) := by decide +kernel
theorem dX8_ends_50 : decode cX8_ends 50 = .ok (.iconst 0, 1) := by decide +kernel
theorem dX8_ends_51 : decode cX8_ends 51 = .ok (.iastore, 1) := by decide +kernel
theorem dX8_ends_52 : decode cX8_ends 52 = .ok (.iload 6, 2) := by decide +kernel
theorem dX8_ends_54 : decode cX8_ends 54 = .ok (.ireturn, 1) := by decide +kernel
theorem dX8_setGo_0 : decode cX8_setGo 0 = .ok (.aload_n 0, 1) := by decide +kernel
theorem dX8_setGo_1 : decode cX8_setGo 1 = .ok (.aload_n 0, 1) := by decide +kernel
theorem dX8_setGo_2 : decode cX8_setGo 2 = .ok (.iload_n 1, 1) := by decide +kernel
theorem dX8_setGo_3 : decode cX8_setGo 3 = .ok (.invokevirtual 119, 3) := by decide +kernel
theorem dX8_setGo_6 : decode cX8_setGo 6 = .ok (.ifCond .eq 15, 3) := by decide +kernel
theorem dX8_setGo_9 : decode cX8_setGo 9 = .ok (.aload_n 0, 1) := by decide +kernel
theorem dX8_setGo_10 : decode cX8_setGo 10 = .ok (.iload_n 2, 1) := by decide +kernel
theorem dX8_setGo_11 : decode cX8_setGo 11 = .ok (.invokevirtual 119, 3) := by decide +kernel
theorem dX8_setGo_14 : decode cX8_setGo 14 = .ok (.ifCond .eq 7, 3) := by decide +kernel
theorem dX8_setGo_17 : decode cX8_setGo 17 = .ok (.iconst 0, 1) := by decide +kernel
theorem dX8_setGo_18 : decode cX8_setGo 18 = .ok (.goto 4, 3) := by decide +kernel
theorem dX8_setGo_21 : decode cX8_setGo 21 = .ok (.iconst 1, 1) := by decide +kernel
theorem dX8_setGo_22 : decode cX8_setGo 22 = .ok (.putfield 103, 3) := by decide +kernel
theorem dX8_setGo_25 : decode cX8_setGo 25 = .ok (.aload_n 0, 1) := by decide +kernel
theorem dX8_setGo_26 : decode cX8_setGo 26 = .ok (.getfield 103, 3) := by decide +kernel
theorem dX8_setGo_29 : decode cX8_setGo 29 = .ok (.ifCond .ne 15, 3) := by decide +kernel
theorem dX8_setGo_32 : decode cX8_setGo 32 = .ok (.aload_n 0, 1) := by decide +kernel
theorem dX8_setGo_33 : decode cX8_setGo 33 = .ok (.iload_n 1, 1) := by decide +kernel
theorem dX8_setGo_34 : decode cX8_setGo 34 = .ok (.iconst 0, 1) := by decide +kernel
theorem dX8_setGo_35 : decode cX8_setGo 35 = .ok (.iload_n 2, 1) := by decide +kernel
theorem dX8_setGo_36 : decode cX8_setGo 36 = .ok (.iconst (-1), 1) := by decide +kernel
theorem dX8_setGo_37 : decode cX8_setGo 37 = .ok (.iconst 0, 1) := by decide +kernel
theorem dX8_setGo_38 : decode cX8_setGo 38 = .ok (.invokevirtual 123, 3) := by decide +kernel
theorem dX8_setGo_41 : decode cX8_setGo 41 = .ok (.goto 4, 3) := by decide +kernel
theorem dX8_setGo_44 : decode cX8_setGo 44 = .ok (.iconst 0, 1) := by decide +kernel
theorem dX8_setGo_45 : decode cX8_setGo 45 = .ok (.ireturn, 1) := by decide +kernel
theorem dX8_setIf_0 : decode cX8_setIf 0 = .ok (.aload_n 0, 1) := by decide +kernel
theorem dX8_setIf_1 : decode cX8_setIf 1 = .ok (.aload_n 0, 1) := by decide +kernel
theorem dX8_setIf_2 : decode cX8_setIf 2 = .ok (.iload_n 1, 1) := by decide +kernel
theorem dX8_setIf_3 : decode cX8_setIf 3 = .ok (.invokevirtual 119, 3) := by decide +kernel
theorem dX8_setIf_6 : decode cX8_setIf 6 = .ok (.ifCond .eq 19, 3) := by decide +kernel
theorem dX8_setIf_9 : decode cX8_setIf 9 = .ok (.aload_n 0, 1) := by decide +kernel
theorem dX8_setIf_10 : decode cX8_setIf 10 = .ok (.iload_n 2, 1) := by decide +kernel
theorem dX8_setIf_11 : decode cX8_setIf 11 = .ok (.invokevirtual 119, 3) := by decide +kernel
theorem dX8_setIf_14 : decode cX8_setIf 14 = .ok (.ifCond .eq 11, 3) := by decide +kernel
theorem dX8_setIf_17 : decode cX8_setIf 17 = .ok (.aload_n 0, 1) := by decide +kernel
theorem dX8_setIf_18 : decode cX8_setIf 18 = .ok (.iload_n 3, 1) := by decide +kernel
theorem dX8_setIf_19 : decode cX8_setIf 19 = .ok (.invokevirtual 119, 3) := by decide +kernel
theorem dX8_setIf_22 : decode cX8_setIf 22 = .ok (.ifCond .ne 7, 3) := by decide +kernel
theorem dX8_setIf_25 : decode cX8_setIf 25 = .ok (.iconst 1, 1) := by decide +kernel
theorem dX8_setIf_26 : decode cX8_setIf 26 = .ok (.goto 13, 3) := by decide +kernel
theorem dX8_setIf_29 : decode cX8_setIf 29 = .ok (.iload_n 2, 1) := by decide +kernel
theorem dX8_setIf_30 : decode cX8_setIf 30 = .ok (.iload_n 3, 1) := by decide +kernel
theorem dX8_setIf_31 : decode cX8_setIf 31 = .ok (.if_icmp .ne 7, 3) := by decide +kernel
theorem dX8_setIf_34 : decode cX8_setIf 34 = .ok (.iconst 2, 1) := by decide +kernel
theorem dX8_setIf_35 : decode cX8_setIf 35 = .ok (.goto 4, 3) := by decide +kernel
theorem dX8_setIf_38 : decode cX8_setIf 38 = .ok (.iconst 0, 1) := by decide +kernel
theorem dX8_setIf_39 : decode cX8_setIf 39 = .ok (.putfield 103, 3) := by decide +kernel
theorem dX8_setIf_42 : decode cX8_setIf 42 = .ok (.aload_n 0, 1) := by decide +kernel
theorem dX8_setIf_43 : decode cX8_setIf 43 = .ok (.getfield 103, 3) := by decide +kernel
theorem dX8_setIf_46 : decode cX8_setIf 46 = .ok (.ifCond .ne 16, 3) := by decide +kernel
theorem dX8_setIf_49 : decode cX8_setIf 49 = .ok (.aload_n 0, 1) := by decide +kernel
theorem dX8_setIf_50 : decode cX8_setIf 50 = .ok (.iload_n 1, 1) := by decide +kernel
theorem dX8_setIf_51 : decode cX8_setIf 51 = .ok (.iconst 1, 1) := by decide +kernel
theorem dX8_setIf_52 : decode cX8_setIf 52 = .ok (.iload_n 2, 1) := by decide +kernel
theorem dX8_setIf_53 : decode cX8_setIf 53 = .ok (.iload_n 3, 1) := by decide +kernel
theorem dX8_setIf_54 : decode cX8_setIf 54 = .ok (.iload 4, 2) := by decide +kernel
theorem dX8_setIf_56 : decode cX8_setIf 56 = .ok (.invokevirtual 123, 3) := by decide +kernel
theorem dX8_setIf_59 : decode cX8_setIf 59 = .ok (.goto 4, 3) := by decide +kernel
theorem dX8_setIf_62 : decode cX8_setIf 62 = .ok (.iconst 0, 1) := by decide +kernel
theorem dX8_setIf_63 : decode cX8_setIf 63 = .ok (.ireturn, 1) := by decide +kernel
theorem dX8_setStop_0 : decode cX8_setStop 0 = .ok (.aload_n 0, 1) := by decide +kernel
theorem dX8_setStop_1 : decode cX8_setStop 1 = .ok (.aload_n 0, 1) := by decide +kernel
theorem dX8_setStop_2 : decode cX8_setStop 2 = .ok (.iload_n 1, 1) := by decide +kernel
theorem dX8_setStop_3 : decode cX8_setStop 3 = .ok (.invokevirtual 119, 3) := by decide +kernel
theorem dX8_setStop_6 : decode cX8_setStop 6 = .ok (.ifCond .eq 7, 3) := by decide +kernel
theorem dX8_setStop_9 : decode cX8_setStop 9 = .ok (.iconst 0, 1) := by decide +kernel
theorem dX8_setStop_10 : decode cX8_setStop 10 = .ok (.goto 4, 3) := by decide +kernel
theorem dX8_setStop_13 : decode cX8_setStop 13 = .ok (.iconst 1, 1) := by decide +kernel
theorem dX8_setStop_14 : decode cX8_setStop 14 = .ok (.putfield 103, 3) := by decide +kernel
theorem dX8_setStop_17 : decode cX8_setStop 17 = .ok (.aload_n 0, 1) := by decide +kernel
theorem dX8_setStop_18 : decode cX8_setStop 18 = .ok (.getfield 103, 3) := by decide +kernel
theorem dX8_setStop_21 : decode cX8_setStop 21 = .ok (.ifCond .ne 15, 3) := by decide +kernel
theorem dX8_setStop_24 : decode cX8_setStop 24 = .ok (.aload_n 0, 1) := by decide +kernel
theorem dX8_setStop_25 : decode cX8_setStop 25 = .ok (.iload_n 1, 1) := by decide +kernel
theorem dX8_setStop_26 : decode cX8_setStop 26 = .ok (.iconst 2, 1) := by decide +kernel
theorem dX8_setStop_27 : decode cX8_setStop 27 = .ok (.iconst (-1), 1) := by decide +kernel
theorem dX8_setStop_28 : decode cX8_setStop 28 = .ok (.iconst (-1), 1) := by decide +kernel
theorem dX8_setStop_29 : decode cX8_setStop 29 = .ok (.iconst 0, 1) := by decide +kernel
theorem dX8_setStop_30 : decode cX8_setStop 30 = .ok (.invokevirtual 123, 3) := by decide +kernel
theorem dX8_setStop_33 : decode cX8_setStop 33 = .ok (.goto 4, 3) := by decide +kernel
theorem dX8_setStop_36 : decode cX8_setStop 36 = .ok (.iconst 0, 1) := by decide +kernel
theorem dX8_setStop_37 : decode cX8_setStop 37 = .ok (.ireturn, 1) := by decide +kernel
theorem dX8_invert_0 : decode cX8_invert 0 = .ok (.aload_n 0, 1) := by decide +kernel
theorem dX8_invert_1 : decode cX8_invert 1 = .ok (.aload_n 0, 1) := by decide +kernel
theorem dX8_invert_2 : decode cX8_invert 2 = .ok (.iload_n 1, 1) := by decide +kernel
theorem dX8_invert_3 : decode cX8_invert 3 = .ok (.invokevirtual 119, 3) := by decide +kernel
theorem dX8_invert_6 : decode cX8_invert 6 = .ok (.ifCond .ne 7, 3) := by decide +kernel
theorem dX8_invert_9 : decode cX8_invert 9 = .ok (.iconst 1, 1) := by decide +kernel
theorem dX8_invert_10 : decode cX8_invert 10 = .ok (.goto 18, 3) := by decide +kernel
theorem dX8_invert_13 : decode cX8_invert 13 = .ok (.aload_n 0, 1) := by decide +kernel
theorem dX8_invert_14 : decode cX8_invert 14 = .ok (.getfield 20, 3) := by decide +kernel
theorem dX8_invert_17 : decode cX8_invert 17 = .ok (.iload_n 1, 1) := by decide +kernel
theorem dX8_invert_18 : decode cX8_invert 18 = .ok (.iaload, 1) := by decide +kernel
theorem dX8_invert_19 : decode cX8_invert 19 = .ok (.iconst 1, 1) := by decide +kernel
theorem dX8_invert_20 : decode cX8_invert 20 = .ok (.if_icmp .ne 7, 3) := by decide +kernel
theorem dX8_invert_23 : decode cX8_invert 23 = .ok (.iconst 0, 1) := by decide +kernel
theorem dX8_invert_24 : decode cX8_invert 24 = .ok (.goto 4, 3) := by decide +kernel
theorem dX8_invert_27 : decode cX8_invert 27 = .ok (.iconst 2, 1) := by decide +kernel
theorem dX8_invert_28 : decode cX8_invert 28 = .ok (.putfield 103, 3) := by decide +kernel
theorem dX8_invert_31 : decode cX8_invert 31 = .ok (.aload_n 0, 1) := by decide +kernel
theorem dX8_invert_32 : decode cX8_invert 32 = .ok (.getfield 103, 3) := by decide +kernel
theorem dX8_invert_35 : decode cX8_invert 35 = .ok (.ifCond .eq 5, 3) := by decide +kernel
theorem dX8_invert_38 : decode cX8_invert 38 = .ok (.iconst 0, 1) := by decide +kernel
theorem dX8_invert_39 : decode cX8_invert 39 = .ok (.ireturn, 1) := by decide +kernel
theorem dX8_invert_40 : decode cX8_invert 40 = .ok (.aload_n 0, 1) := by decide +kernel
theorem dX8_invert_41 : decode cX8_invert 41 = .ok (.getfield 23, 3) := by decide +kernel
theorem dX8_invert_44 : decode cX8_invert 44 = .ok (.iload_n 1, 1) := by decide +kernel
theorem dX8_invert_45 : decode cX8_invert 45 = .ok (.iaload, 1) := by decide +kernel
theorem dX8_invert_46 : decode cX8_invert 46 = .ok (.istore_n 2, 1) := by decide +kernel
theorem dX8_invert_47 : decode cX8_invert 47 = .ok (.aload_n 0, 1) := by decide +kernel
theorem dX8_invert_48 : decode cX8_invert 48 = .ok (.getfield 23, 3) := by decide +kernel
theorem dX8_invert_51 : decode cX8_invert 51 = .ok (.iload_n 1, 1) := by decide +kernel
theorem dX8_invert_52 : decode cX8_invert 52 = .ok (.aload_n 0, 1) := by decide +kernel
theorem dX8_invert_53 : decode cX8_invert 53 = .ok (.getfield 26, 3) := by decide +kernel
theorem dX8_invert_56 : decode cX8_invert 56 = .ok (.iload_n 1, 1) := by decide +kernel
theorem dX8_invert_57 : decode cX8_invert 57 = .ok (.iaload, 1) := by decide +kernel
theorem dX8_invert_58 : decode cX8_invert 58 = .ok (.iastore, 1) := by decide +kernel
theorem dX8_invert_59 : decode cX8_invert 59 = .ok (.aload_n 0, 1) := by decide +kernel
theorem dX8_invert_60 : decode cX8_invert 60 = .ok (.getfield 26, 3) := by decide +kernel
theorem dX8_invert_63 : decode cX8_invert 63 = .ok (.iload_n 1, 1) := by decide +kernel
theorem dX8_invert_64 : decode cX8_invert 64 = .ok (.iload_n 2, 1) := by decide +kernel
theorem dX8_invert_65 : decode cX8_invert 65 = .ok (.iastore, 1) := by decide +kernel
theorem dX8_invert_66 : decode cX8_invert 66 = .ok (.aload_n 0, 1) := by decide +kernel
theorem dX8_invert_67 : decode cX8_invert 67 = .ok (.getfield 35, 3) := by decide +kernel
theorem dX8_invert_70 : decode cX8_invert 70 = .ok (.iload_n 1, 1) := by decide +kernel
theorem dX8_invert_71 : decode cX8_invert 71 = .ok (.iaload, 1) := by decide +kernel
theorem dX8_invert_72 : decode cX8_invert 72 = .ok (.istore_n 3, 1) := by decide +kernel
theorem dX8_invert_73 : decode cX8_invert 73 = .ok (.aload_n 0, 1) := by decide +kernel
theorem dX8_invert_74 : decode cX8_invert 74 = .ok (.getfield 35, 3) := by decide +kernel
theorem dX8_invert_77 : decode cX8_invert 77 = .ok (.iload_n 1, 1) := by decide +kernel
theorem dX8_invert_78 : decode cX8_invert 78 = .ok (.aload_n 0, 1) := by decide +kernel
theorem dX8_invert_79 : decode cX8_invert 79 = .ok (.getfield 38, 3) := by decide +kernel
theorem dX8_invert_82 : decode cX8_invert 82 = .ok (.iload_n 1, 1) := by decide +kernel
theorem dX8_invert_83 : decode cX8_invert 83 = .ok (.iaload, 1) := by decide +kernel
theorem dX8_invert_84 : decode cX8_invert 84 = .ok (.iastore, 1) := by decide +kernel
theorem dX8_invert_85 : decode cX8_invert 85 = .ok (.aload_n 0, 1) := by decide +kernel
theorem dX8_invert_86 : decode cX8_invert 86 = .ok (.getfield 38, 3) := by decide +kernel
theorem dX8_invert_89 : decode cX8_invert 89 = .ok (.iload_n 1, 1) := by decide +kernel
theorem dX8_invert_90 : decode cX8_invert 90 = .ok (.iload_n 3, 1) := by decide +kernel
theorem dX8_invert_91 : decode cX8_invert 91 = .ok (.iastore, 1) := by decide +kernel
theorem dX8_invert_92 : decode cX8_invert 92 = .ok (.aload_n 0, 1) := by decide +kernel
theorem dX8_invert_93 : decode cX8_invert 93 = .ok (.getfield 29, 3) := by decide +kernel
theorem dX8_invert_96 : decode cX8_invert 96 = .ok (.iload_n 1, 1) := by decide +kernel
theorem dX8_invert_97 : decode cX8_invert 97 = .ok (.aload_n 0, 1) := by decide +kernel
theorem dX8_invert_98 : decode cX8_invert 98 = .ok (.getfield 29, 3) := by decide +kernel
theorem dX8_invert_101 : decode cX8_invert 101 = .ok (.iload_n 1, 1) := by decide +kernel
theorem dX8_invert_102 : decode cX8_invert 102 = .ok (.iaload, 1) := by decide +kernel
theorem dX8_invert_103 : decode cX8_invert 103 = .ok (.iconst (-1), 1) := by decide +kernel
theorem dX8_invert_104 : decode cX8_invert 104 = .ok (.ixor, 1) := by decide +kernel
theorem dX8_invert_105 : decode cX8_invert 105 = .ok (.iastore, 1) := by decide +kernel
theorem dX8_invert_106 : decode cX8_invert 106 = .ok (.aload_n 0, 1) := by decide +kernel
theorem dX8_invert_107 : decode cX8_invert 107 = .ok (.getfield 23, 3) := by decide +kernel
theorem dX8_invert_110 : decode cX8_invert 110 = .ok (.iload_n 1, 1) := by decide +kernel
theorem dX8_invert_111 : decode cX8_invert 111 = .ok (.iaload, 1) := by decide +kernel
theorem dX8_invert_112 : decode cX8_invert 112 = .ok (.ireturn, 1) := by decide +kernel
theorem dX8_block_0 : decode cX8_block 0 = .ok (.aload_n 0, 1) := by decide +kernel
theorem dX8_block_1 : decode cX8_block 1 = .ok (.aload_n 0, 1) := by decide +kernel
theorem dX8_block_2 : decode cX8_block 2 = .ok (.iload_n 1, 1) := by decide +kernel
theorem dX8_block_3 : decode cX8_block 3 = .ok (.invokevirtual 119, 3) := by decide +kernel
theorem dX8_block_6 : decode cX8_block 6 = .ok (.ifCond .ne 7, 3) := by decide +kernel
theorem dX8_block_9 : decode cX8_block 9 = .ok (.iconst 1, 1) := by decide +kernel
theorem dX8_block_10 : decode cX8_block 10 = .ok (.goto 18, 3) := by decide +kernel
theorem dX8_block_13 : decode cX8_block 13 = .ok (.iload_n 2, 1) := by decide +kernel
theorem dX8_block_14 : decode cX8_block 14 = .ok (.iconst 0, 1) := by decide +kernel
theorem dX8_block_15 : decode cX8_block 15 = .ok (.bipush 7, 2) := by decide +kernel
theorem dX8_block_17 : decode cX8_block 17 = .ok (.invokestatic 109, 3) := by decide +kernel
theorem dX8_block_20 : decode cX8_block 20 = .ok (.ifCond .eq 7, 3) := by decide +kernel
theorem dX8_block_23 : decode cX8_block 23 = .ok (.iconst 0, 1) := by decide +kernel
theorem dX8_block_24 : decode cX8_block 24 = .ok (.goto 4, 3) := by decide +kernel
theorem dX8_block_27 : decode cX8_block 27 = .ok (.iconst 2, 1) := by decide +kernel
theorem dX8_block_28 : decode cX8_block 28 = .ok (.putfield 103, 3) := by decide +kernel
theorem dX8_block_31 : decode cX8_block 31 = .ok (.aload_n 0, 1) := by decide +kernel
theorem dX8_block_32 : decode cX8_block 32 = .ok (.getfield 103, 3) := by decide +kernel
theorem dX8_block_35 : decode cX8_block 35 = .ok (.ifCond .eq 5, 3) := by decide +kernel
theorem dX8_block_38 : decode cX8_block 38 = .ok (.iconst 0, 1) := by decide +kernel
theorem dX8_block_39 : decode cX8_block 39 = .ok (.ireturn, 1) := by decide +kernel
theorem dX8_block_40 : decode cX8_block 40 = .ok (.iload_n 2, 1) := by decide +kernel
theorem dX8_block_41 : decode cX8_block 41 = .ok (.tableswitch 92 0 6 #[43, 50, 57, 64, 71, 78, 85], 43) := by decide +kernel
theorem dX8_block_84 : decode cX8_block 84 = .ok (.aload_n 0, 1) := by decide +kernel
theorem dX8_block_85 : decode cX8_block 85 = .ok (.getfield 16, 3) := by decide +kernel
theorem dX8_block_88 : decode cX8_block 88 = .ok (.iload_n 1, 1) := by decide +kernel
theorem dX8_block_89 : decode cX8_block 89 = .ok (.iaload, 1) := by decide +kernel
theorem dX8_block_90 : decode cX8_block 90 = .ok (.ireturn, 1) := by decide +kernel
theorem dX8_block_91 : decode cX8_block 91 = .ok (.aload_n 0, 1) := by decide +kernel
theorem dX8_block_92 : decode cX8_block 92 = .ok (.getfield 20, 3) := by decide +kernel
theorem dX8_block_95 : decode cX8_block 95 = .ok (.iload_n 1, 1) := by decide +kernel
theorem dX8_block_96 : decode cX8_block 96 = .ok (.iaload, 1) := by decide +kernel
theorem dX8_block_97 : decode cX8_block 97 = .ok (.ireturn, 1) := by decide +kernel
theorem dX8_block_98 : decode cX8_block 98 = .ok (.aload_n 0, 1) := by decide +kernel
theorem dX8_block_99 : decode cX8_block 99 = .ok (.getfield 23, 3) := by decide +kernel
theorem dX8_block_102 : decode cX8_block 102 = .ok (.iload_n 1, 1) := by decide +kernel
theorem dX8_block_103 : decode cX8_block 103 = .ok (.iaload, 1) := by decide +kernel
theorem dX8_block_104 : decode cX8_block 104 = .ok (.ireturn, 1) := by decide +kernel
theorem dX8_block_105 : decode cX8_block 105 = .ok (.aload_n 0, 1) := by decide +kernel
theorem dX8_block_106 : decode cX8_block 106 = .ok (.getfield 26, 3) := by decide +kernel
theorem dX8_block_109 : decode cX8_block 109 = .ok (.iload_n 1, 1) := by decide +kernel
theorem dX8_block_110 : decode cX8_block 110 = .ok (.iaload, 1) := by decide +kernel
theorem dX8_block_111 : decode cX8_block 111 = .ok (.ireturn, 1) := by decide +kernel
theorem dX8_block_112 : decode cX8_block 112 = .ok (.aload_n 0, 1) := by decide +kernel
theorem dX8_block_113 : decode cX8_block 113 = .ok (.getfield 32, 3) := by decide +kernel
theorem dX8_block_116 : decode cX8_block 116 = .ok (.iload_n 1, 1) := by decide +kernel
theorem dX8_block_117 : decode cX8_block 117 = .ok (.iaload, 1) := by decide +kernel
theorem dX8_block_118 : decode cX8_block 118 = .ok (.ireturn, 1) := by decide +kernel
theorem dX8_block_119 : decode cX8_block 119 = .ok (.aload_n 0, 1) := by decide +kernel
theorem dX8_block_120 : decode cX8_block 120 = .ok (.getfield 35, 3) := by decide +kernel
theorem dX8_block_123 : decode cX8_block 123 = .ok (.iload_n 1, 1) := by decide +kernel
theorem dX8_block_124 : decode cX8_block 124 = .ok (.iaload, 1) := by decide +kernel
theorem dX8_block_125 : decode cX8_block 125 = .ok (.ireturn, 1) := by decide +kernel
theorem dX8_block_126 : decode cX8_block 126 = .ok (.aload_n 0, 1) := by decide +kernel
theorem dX8_block_127 : decode cX8_block 127 = .ok (.getfield 38, 3) := by decide +kernel
theorem dX8_block_130 : decode cX8_block 130 = .ok (.iload_n 1, 1) := by decide +kernel
theorem dX8_block_131 : decode cX8_block 131 = .ok (.iaload, 1) := by decide +kernel
theorem dX8_block_132 : decode cX8_block 132 = .ok (.ireturn, 1) := by decide +kernel
theorem dX8_block_133 : decode cX8_block 133 = .ok (.aload_n 0, 1) := by decide +kernel
theorem dX8_block_134 : decode cX8_block 134 = .ok (.iload_n 1, 1) := by decide +kernel
theorem dX8_block_135 : decode cX8_block 135 = .ok (.invokevirtual 127, 3) := by decide +kernel
theorem dX8_block_138 : decode cX8_block 138 = .ok (.ifCond .eq 7, 3) := by decide +kernel
theorem dX8_block_141 : decode cX8_block 141 = .ok (.iconst 1, 1) := by decide +kernel
theorem dX8_block_142 : decode cX8_block 142 = .ok (.goto 4, 3) := by decide +kernel
theorem dX8_block_145 : decode cX8_block 145 = .ok (.iconst 0, 1) := by decide +kernel
theorem dX8_block_146 : decode cX8_block 146 = .ok (.ireturn, 1) := by decide +kernel
theorem dX8_reached_0 : decode cX8_reached 0 = .ok (.iload_n 1, 1) := by decide +kernel
theorem dX8_reached_1 : decode cX8_reached 1 = .ok (.ifCond .ne 7, 3) := by decide +kernel
theorem dX8_reached_4 : decode cX8_reached 4 = .ok (.iconst 0, 1) := by decide +kernel
theorem dX8_reached_5 : decode cX8_reached 5 = .ok (.goto 4, 3) := by decide +kernel
theorem dX8_reached_8 : decode cX8_reached 8 = .ok (.iconst 1, 1) := by decide +kernel
theorem dX8_reached_9 : decode cX8_reached 9 = .ok (.istore_n 2, 1) := by decide +kernel
theorem dX8_reached_10 : decode cX8_reached 10 = .ok (.iconst 1, 1) := by decide +kernel
theorem dX8_reached_11 : decode cX8_reached 11 = .ok (.istore_n 3, 1) := by decide +kernel
theorem dX8_reached_12 : decode cX8_reached 12 = .ok (.iload_n 3, 1) := by decide +kernel
theorem dX8_reached_13 : decode cX8_reached 13 = .ok (.ifCond .eq 127, 3) := by decide +kernel
theorem dX8_reached_16 : decode cX8_reached 16 = .ok (.iload_n 2, 1) := by decide +kernel
theorem dX8_reached_17 : decode cX8_reached 17 = .ok (.istore 4, 2) := by decide +kernel
theorem dX8_reached_19 : decode cX8_reached 19 = .ok (.iconst 0, 1) := by decide +kernel
theorem dX8_reached_20 : decode cX8_reached 20 = .ok (.istore 5, 2) := by decide +kernel
theorem dX8_reached_22 : decode cX8_reached 22 = .ok (.iload 5, 2) := by decide +kernel
theorem dX8_reached_24 : decode cX8_reached 24 = .ok (.aload_n 0, 1) := by decide +kernel
theorem dX8_reached_25 : decode cX8_reached 25 = .ok (.getfield 106, 3) := by decide +kernel
theorem dX8_reached_28 : decode cX8_reached 28 = .ok (.if_icmp .ge 97, 3) := by decide +kernel
theorem dX8_reached_31 : decode cX8_reached 31 = .ok (.iload_n 2, 1) := by decide +kernel
theorem dX8_reached_32 : decode cX8_reached 32 = .ok (.iload 5, 2) := by decide +kernel
theorem dX8_reached_34 : decode cX8_reached 34 = .ok (.ishr, 1) := by decide +kernel
theorem dX8_reached_35 : decode cX8_reached 35 = .ok (.iconst 1, 1) := by decide +kernel
theorem dX8_reached_36 : decode cX8_reached 36 = .ok (.iand, 1) := by decide +kernel
theorem dX8_reached_37 : decode cX8_reached 37 = .ok (.ifCond .ne 6, 3) := by decide +kernel
theorem dX8_reached_40 : decode cX8_reached 40 = .ok (.goto 79, 3) := by decide +kernel
theorem dX8_reached_43 : decode cX8_reached 43 = .ok (.iload_n 2, 1) := by decide +kernel
theorem dX8_reached_44 : decode cX8_reached 44 = .ok (.aload_n 0, 1) := by decide +kernel
theorem dX8_reached_45 : decode cX8_reached 45 = .ok (.getfield 20, 3) := by decide +kernel
theorem dX8_reached_48 : decode cX8_reached 48 = .ok (.iload 5, 2) := by decide +kernel
theorem dX8_reached_50 : decode cX8_reached 50 = .ok (.iaload, 1) := by decide +kernel
theorem dX8_reached_51 : decode cX8_reached 51 = .ok (.iconst 2, 1) := by decide +kernel
theorem dX8_reached_52 : decode cX8_reached 52 = .ok (.if_icmp .eq 26, 3) := by decide +kernel
theorem dX8_reached_55 : decode cX8_reached 55 = .ok (.aload_n 0, 1) := by decide +kernel
theorem dX8_reached_56 : decode cX8_reached 56 = .ok (.getfield 23, 3) := by decide +kernel
theorem dX8_reached_59 : decode cX8_reached 59 = .ok (.iload 5, 2) := by decide +kernel
theorem dX8_reached_61 : decode cX8_reached 61 = .ok (.iaload, 1) := by decide +kernel
theorem dX8_reached_62 : decode cX8_reached 62 = .ok (.iload_n 1, 1) := by decide +kernel
theorem dX8_reached_63 : decode cX8_reached 63 = .ok (.if_icmp .eq 15, 3) := by decide +kernel
theorem dX8_reached_66 : decode cX8_reached 66 = .ok (.iconst 1, 1) := by decide +kernel
theorem dX8_reached_67 : decode cX8_reached 67 = .ok (.aload_n 0, 1) := by decide +kernel
theorem dX8_reached_68 : decode cX8_reached 68 = .ok (.getfield 23, 3) := by decide +kernel
theorem dX8_reached_71 : decode cX8_reached 71 = .ok (.iload 5, 2) := by decide +kernel
theorem dX8_reached_73 : decode cX8_reached 73 = .ok (.iaload, 1) := by decide +kernel
theorem dX8_reached_74 : decode cX8_reached 74 = .ok (.ishl, 1) := by decide +kernel
theorem dX8_reached_75 : decode cX8_reached 75 = .ok (.goto 4, 3) := by decide +kernel
theorem dX8_reached_78 : decode cX8_reached 78 = .ok (.iconst 0, 1) := by decide +kernel
theorem dX8_reached_79 : decode cX8_reached 79 = .ok (.ior, 1) := by decide +kernel
theorem dX8_reached_80 : decode cX8_reached 80 = .ok (.istore_n 2, 1) := by decide +kernel
theorem dX8_reached_81 : decode cX8_reached 81 = .ok (.iload_n 2, 1) := by decide +kernel
theorem dX8_reached_82 : decode cX8_reached 82 = .ok (.aload_n 0, 1) := by decide +kernel
theorem dX8_reached_83 : decode cX8_reached 83 = .ok (.getfield 20, 3) := by decide +kernel
theorem dX8_reached_86 : decode cX8_reached 86 = .ok (.iload 5, 2) := by decide +kernel
theorem dX8_reached_88 : decode cX8_reached 88 = .ok (.iaload, 1) := by decide +kernel
theorem dX8_reached_89 : decode cX8_reached 89 = .ok (.iconst 1, 1) := by decide +kernel
theorem dX8_reached_90 : decode cX8_reached 90 = .ok (.if_icmp .ne 26, 3) := by decide +kernel
theorem dX8_reached_93 : decode cX8_reached 93 = .ok (.aload_n 0, 1) := by decide +kernel
theorem dX8_reached_94 : decode cX8_reached 94 = .ok (.getfield 26, 3) := by decide +kernel
theorem dX8_reached_97 : decode cX8_reached 97 = .ok (.iload 5, 2) := by decide +kernel
theorem dX8_reached_99 : decode cX8_reached 99 = .ok (.iaload, 1) := by decide +kernel
theorem dX8_reached_100 : decode cX8_reached 100 = .ok (.iload_n 1, 1) := by decide +kernel
theorem dX8_reached_101 : decode cX8_reached 101 = .ok (.if_icmp .eq 15, 3) := by decide +kernel
theorem dX8_reached_104 : decode cX8_reached 104 = .ok (.iconst 1, 1) := by decide +kernel
theorem dX8_reached_105 : decode cX8_reached 105 = .ok (.aload_n 0, 1) := by decide +kernel
theorem dX8_reached_106 : decode cX8_reached 106 = .ok (.getfield 26, 3) := by decide +kernel
theorem dX8_reached_109 : decode cX8_reached 109 = .ok (.iload 5, 2) := by decide +kernel
theorem dX8_reached_111 : decode cX8_reached 111 = .ok (.iaload, 1) := by decide +kernel
theorem dX8_reached_112 : decode cX8_reached 112 = .ok (.ishl, 1) := by decide +kernel
theorem dX8_reached_113 : decode cX8_reached 113 = .ok (.goto 4, 3) := by decide +kernel
theorem dX8_reached_116 : decode cX8_reached 116 = .ok (.iconst 0, 1) := by decide +kernel
theorem dX8_reached_117 : decode cX8_reached 117 = .ok (.ior, 1) := by decide +kernel
theorem dX8_reached_118 : decode cX8_reached 118 = .ok (.istore_n 2, 1) := by decide +kernel
theorem dX8_reached_119 : decode cX8_reached 119 = .ok (.iinc 5 1, 3) := by decide +kernel
theorem dX8_reached_122 : decode cX8_reached 122 = .ok (.goto (-100), 3) := by decide +kernel
theorem dX8_reached_125 : decode cX8_reached 125 = .ok (.iload_n 2, 1) := by decide +kernel
theorem dX8_reached_126 : decode cX8_reached 126 = .ok (.iload 4, 2) := by decide +kernel
theorem dX8_reached_128 : decode cX8_reached 128 = .ok (.if_icmp .eq 7, 3) := by decide +kernel
theorem dX8_reached_131 : decode cX8_reached 131 = .ok (.iconst 1, 1) := by decide +kernel
theorem dX8_reached_132 : decode cX8_reached 132 = .ok (.goto 4, 3) := by decide +kernel
theorem dX8_reached_135 : decode cX8_reached 135 = .ok (.iconst 0, 1) := by decide +kernel
theorem dX8_reached_136 : decode cX8_reached 136 = .ok (.istore_n 3, 1) := by decide +kernel
theorem dX8_reached_137 : decode cX8_reached 137 = .ok (.goto (-125), 3) := by decide +kernel
theorem dX8_reached_140 : decode cX8_reached 140 = .ok (.iload_n 2, 1) := by decide +kernel
theorem dX8_reached_141 : decode cX8_reached 141 = .ok (.ireturn, 1) := by decide +kernel
theorem dX8_doesGo_0 : decode cX8_doesGo 0 = .ok (.aload_n 0, 1) := by decide +kernel
theorem dX8_doesGo_1 : decode cX8_doesGo 1 = .ok (.getfield 20, 3) := by decide +kernel
theorem dX8_doesGo_4 : decode cX8_doesGo 4 = .ok (.iload_n 1, 1) := by decide +kernel
theorem dX8_doesGo_5 : decode cX8_doesGo 5 = .ok (.iaload, 1) := by decide +kernel
theorem dX8_doesGo_6 : decode cX8_doesGo 6 = .ok (.iconst 2, 1) := by decide +kernel
theorem dX8_doesGo_7 : decode cX8_doesGo 7 = .ok (.if_icmp .eq 13, 3) := by decide +kernel
theorem dX8_doesGo_10 : decode cX8_doesGo 10 = .ok (.aload_n 0, 1) := by decide +kernel
theorem dX8_doesGo_11 : decode cX8_doesGo 11 = .ok (.getfield 23, 3) := by decide +kernel
theorem dX8_doesGo_14 : decode cX8_doesGo 14 = .ok (.iload_n 1, 1) := by decide +kernel
theorem dX8_doesGo_15 : decode cX8_doesGo 15 = .ok (.iaload, 1) := by decide +kernel
theorem dX8_doesGo_16 : decode cX8_doesGo 16 = .ok (.iload_n 2, 1) := by decide +kernel
theorem dX8_doesGo_17 : decode cX8_doesGo 17 = .ok (.if_icmp .eq 23, 3) := by decide +kernel
theorem dX8_doesGo_20 : decode cX8_doesGo 20 = .ok (.aload_n 0, 1) := by decide +kernel
theorem dX8_doesGo_21 : decode cX8_doesGo 21 = .ok (.getfield 20, 3) := by decide +kernel
theorem dX8_doesGo_24 : decode cX8_doesGo 24 = .ok (.iload_n 1, 1) := by decide +kernel
theorem dX8_doesGo_25 : decode cX8_doesGo 25 = .ok (.iaload, 1) := by decide +kernel
theorem dX8_doesGo_26 : decode cX8_doesGo 26 = .ok (.iconst 1, 1) := by decide +kernel
theorem dX8_doesGo_27 : decode cX8_doesGo 27 = .ok (.if_icmp .ne 17, 3) := by decide +kernel
theorem dX8_doesGo_30 : decode cX8_doesGo 30 = .ok (.aload_n 0, 1) := by decide +kernel
theorem dX8_doesGo_31 : decode cX8_doesGo 31 = .ok (.getfield 26, 3) := by decide +kernel
theorem dX8_doesGo_34 : decode cX8_doesGo 34 = .ok (.iload_n 1, 1) := by decide +kernel
theorem dX8_doesGo_35 : decode cX8_doesGo 35 = .ok (.iaload, 1) := by decide +kernel
theorem dX8_doesGo_36 : decode cX8_doesGo 36 = .ok (.iload_n 2, 1) := by decide +kernel
theorem dX8_doesGo_37 : decode cX8_doesGo 37 = .ok (.if_icmp .ne 7, 3) := by decide +kernel
theorem dX8_doesGo_40 : decode cX8_doesGo 40 = .ok (.iconst 1, 1) := by decide +kernel
theorem dX8_doesGo_41 : decode cX8_doesGo 41 = .ok (.goto 4, 3) := by decide +kernel
theorem dX8_doesGo_44 : decode cX8_doesGo 44 = .ok (.iconst 0, 1) := by decide +kernel
theorem dX8_doesGo_45 : decode cX8_doesGo 45 = .ok (.ireturn, 1) := by decide +kernel
theorem dX8_isHead_0 : decode cX8_isHead 0 = .ok (.aload_n 0, 1) := by decide +kernel
theorem dX8_isHead_1 : decode cX8_isHead 1 = .ok (.iconst (-1), 1) := by decide +kernel
theorem dX8_isHead_2 : decode cX8_isHead 2 = .ok (.invokevirtual 130, 3) := by decide +kernel
theorem dX8_isHead_5 : decode cX8_isHead 5 = .ok (.istore_n 2, 1) := by decide +kernel
theorem dX8_isHead_6 : decode cX8_isHead 6 = .ok (.aload_n 0, 1) := by decide +kernel
theorem dX8_isHead_7 : decode cX8_isHead 7 = .ok (.iload_n 1, 1) := by decide +kernel
theorem dX8_isHead_8 : decode cX8_isHead 8 = .ok (.invokevirtual 130, 3) := by decide +kernel
theorem dX8_isHead_11 : decode cX8_isHead 11 = .ok (.istore_n 3, 1) := by decide +kernel
theorem dX8_isHead_12 : decode cX8_isHead 12 = .ok (.iconst 0, 1) := by decide +kernel
theorem dX8_isHead_13 : decode cX8_isHead 13 = .ok (.istore 4, 2) := by decide +kernel
theorem dX8_isHead_15 : decode cX8_isHead 15 = .ok (.iload 4, 2) := by decide +kernel
theorem dX8_isHead_17 : decode cX8_isHead 17 = .ok (.aload_n 0, 1) := by decide +kernel
theorem dX8_isHead_18 : decode cX8_isHead 18 = .ok (.getfield 106, 3) := by decide +kernel
theorem dX8_isHead_21 : decode cX8_isHead 21 = .ok (.if_icmp .ge 40, 3) := by decide +kernel
theorem dX8_isHead_24 : decode cX8_isHead 24 = .ok (.iload_n 2, 1) := by decide +kernel
theorem dX8_isHead_25 : decode cX8_isHead 25 = .ok (.iload 4, 2) := by decide +kernel
theorem dX8_isHead_27 : decode cX8_isHead 27 = .ok (.ishr, 1) := by decide +kernel
theorem dX8_isHead_28 : decode cX8_isHead 28 = .ok (.iconst 1, 1) := by decide +kernel
theorem dX8_isHead_29 : decode cX8_isHead 29 = .ok (.iand, 1) := by decide +kernel
theorem dX8_isHead_30 : decode cX8_isHead 30 = .ok (.iconst 1, 1) := by decide +kernel
theorem dX8_isHead_31 : decode cX8_isHead 31 = .ok (.if_icmp .ne 24, 3) := by decide +kernel
theorem dX8_isHead_34 : decode cX8_isHead 34 = .ok (.iload_n 3, 1) := by decide +kernel
theorem dX8_isHead_35 : decode cX8_isHead 35 = .ok (.iload 4, 2) := by decide +kernel
theorem dX8_isHead_37 : decode cX8_isHead 37 = .ok (.ishr, 1) := by decide +kernel
theorem dX8_isHead_38 : decode cX8_isHead 38 = .ok (.iconst 1, 1) := by decide +kernel
theorem dX8_isHead_39 : decode cX8_isHead 39 = .ok (.iand, 1) := by decide +kernel
theorem dX8_isHead_40 : decode cX8_isHead 40 = .ok (.ifCond .ne 15, 3) := by decide +kernel
theorem dX8_isHead_43 : decode cX8_isHead 43 = .ok (.aload_n 0, 1) := by decide +kernel
theorem dX8_isHead_44 : decode cX8_isHead 44 = .ok (.iload 4, 2) := by decide +kernel
theorem dX8_isHead_46 : decode cX8_isHead 46 = .ok (.iload_n 1, 1) := by decide +kernel
theorem dX8_isHead_47 : decode cX8_isHead 47 = .ok (.invokevirtual 134, 3) := by decide +kernel
theorem dX8_isHead_50 : decode cX8_isHead 50 = .ok (.ifCond .eq 5, 3) := by decide +kernel
theorem dX8_isHead_53 : decode cX8_isHead 53 = .ok (.iconst 1, 1) := by decide +kernel
theorem dX8_isHead_54 : decode cX8_isHead 54 = .ok (.ireturn, 1) := by decide +kernel
theorem dX8_isHead_55 : decode cX8_isHead 55 = .ok (.iinc 4 1, 3) := by decide +kernel
theorem dX8_isHead_58 : decode cX8_isHead 58 = .ok (.goto (-43), 3) := by decide +kernel
theorem dX8_isHead_61 : decode cX8_isHead 61 = .ok (.iconst 0, 1) := by decide +kernel
theorem dX8_isHead_62 : decode cX8_isHead 62 = .ok (.ireturn, 1) := by decide +kernel
theorem dX8_executes_0 : decode cX8_executes 0 = .ok (.iconst 0, 1) := by decide +kernel
theorem dX8_executes_1 : decode cX8_executes 1 = .ok (.istore_n 2, 1) := by decide +kernel
theorem dX8_executes_2 : decode cX8_executes 2 = .ok (.iload_n 2, 1) := by decide +kernel
theorem dX8_executes_3 : decode cX8_executes 3 = .ok (.bipush 16, 2) := by decide +kernel
theorem dX8_executes_5 : decode cX8_executes 5 = .ok (.if_icmp .ge 16, 3) := by decide +kernel
theorem dX8_executes_8 : decode cX8_executes 8 = .ok (.aload_n 0, 1) := by decide +kernel
theorem dX8_executes_9 : decode cX8_executes 9 = .ok (.getfield 50, 3) := by decide +kernel
theorem dX8_executes_12 : decode cX8_executes 12 = .ok (.iload_n 2, 1) := by decide +kernel
theorem dX8_executes_13 : decode cX8_executes 13 = .ok (.iconst 0, 1) := by decide +kernel
theorem dX8_executes_14 : decode cX8_executes 14 = .ok (.iastore, 1) := by decide +kernel
theorem dX8_executes_15 : decode cX8_executes 15 = .ok (.iinc 2 1, 3) := by decide +kernel
theorem dX8_executes_18 : decode cX8_executes 18 = .ok (.goto (-16), 3) := by decide +kernel
theorem dX8_executes_21 : decode cX8_executes 21 = .ok (.aload_n 0, 1) := by decide +kernel
theorem dX8_executes_22 : decode cX8_executes 22 = .ok (.iconst 0, 1) := by decide +kernel
theorem dX8_executes_23 : decode cX8_executes 23 = .ok (.putfield 138, 3) := by decide +kernel
theorem dX8_executes_26 : decode cX8_executes 26 = .ok (.iconst 0, 1) := by decide +kernel
theorem dX8_executes_27 : decode cX8_executes 27 = .ok (.istore_n 2, 1) := by decide +kernel
theorem dX8_executes_28 : decode cX8_executes 28 = .ok (.iload_n 2, 1) := by decide +kernel
theorem dX8_executes_29 : decode cX8_executes 29 = .ok (.ifCond .lt 137, 3) := by decide +kernel
theorem dX8_executes_32 : decode cX8_executes 32 = .ok (.aload_n 0, 1) := by decide +kernel
theorem dX8_executes_33 : decode cX8_executes 33 = .ok (.getfield 138, 3) := by decide +kernel
theorem dX8_executes_36 : decode cX8_executes 36 = .ok (.iload_n 1, 1) := by decide +kernel
theorem dX8_executes_37 : decode cX8_executes 37 = .ok (.if_icmp .ne 5, 3) := by decide +kernel
theorem dX8_executes_40 : decode cX8_executes 40 = .ok (.iconst 0, 1) := by decide +kernel
theorem dX8_executes_41 : decode cX8_executes 41 = .ok (.ireturn, 1) := by decide +kernel
theorem dX8_executes_42 : decode cX8_executes 42 = .ok (.aload_n 0, 1) := by decide +kernel
theorem dX8_executes_43 : decode cX8_executes 43 = .ok (.getfield 47, 3) := by decide +kernel
theorem dX8_executes_46 : decode cX8_executes 46 = .ok (.aload_n 0, 1) := by decide +kernel
theorem dX8_executes_47 : decode cX8_executes 47 = .ok (.getfield 138, 3) := by decide +kernel
theorem dX8_executes_50 : decode cX8_executes 50 = .ok (.iload_n 2, 1) := by decide +kernel
theorem dX8_executes_51 : decode cX8_executes 51 = .ok (.iastore, 1) := by decide +kernel
theorem dX8_executes_52 : decode cX8_executes 52 = .ok (.aload_n 0, 1) := by decide +kernel
theorem dX8_executes_53 : decode cX8_executes 53 = .ok (.getfield 20, 3) := by decide +kernel
theorem dX8_executes_56 : decode cX8_executes 56 = .ok (.iload_n 2, 1) := by decide +kernel
theorem dX8_executes_57 : decode cX8_executes 57 = .ok (.iaload, 1) := by decide +kernel
theorem dX8_executes_58 : decode cX8_executes 58 = .ok (.ifCond .eq 35, 3) := by decide +kernel
theorem dX8_executes_61 : decode cX8_executes 61 = .ok (.aload_n 0, 1) := by decide +kernel
theorem dX8_executes_62 : decode cX8_executes 62 = .ok (.getfield 20, 3) := by decide +kernel
theorem dX8_executes_65 : decode cX8_executes 65 = .ok (.iload_n 2, 1) := by decide +kernel
theorem dX8_executes_66 : decode cX8_executes 66 = .ok (.iaload, 1) := by decide +kernel
theorem dX8_executes_67 : decode cX8_executes 67 = .ok (.iconst 1, 1) := by decide +kernel
theorem dX8_executes_68 : decode cX8_executes 68 = .ok (.if_icmp .ne 29, 3) := by decide +kernel
theorem dX8_executes_71 : decode cX8_executes 71 = .ok (.aload_n 0, 1) := by decide +kernel
theorem dX8_executes_72 : decode cX8_executes 72 = .ok (.getfield 29, 3) := by decide +kernel
theorem dX8_executes_75 : decode cX8_executes 75 = .ok (.iload_n 2, 1) := by decide +kernel
theorem dX8_executes_76 : decode cX8_executes 76 = .ok (.iaload, 1) := by decide +kernel
theorem dX8_executes_77 : decode cX8_executes 77 = .ok (.aload_n 0, 1) := by decide +kernel
theorem dX8_executes_78 : decode cX8_executes 78 = .ok (.getfield 50, 3) := by decide +kernel
theorem dX8_executes_81 : decode cX8_executes 81 = .ok (.iload_n 2, 1) := by decide +kernel
theorem dX8_executes_82 : decode cX8_executes 82 = .ok (.iaload, 1) := by decide +kernel
theorem dX8_executes_83 : decode cX8_executes 83 = .ok (.bipush 32, 2) := by decide +kernel
theorem dX8_executes_85 : decode cX8_executes 85 = .ok (.irem, 1) := by decide +kernel
theorem dX8_executes_86 : decode cX8_executes 86 = .ok (.ishr, 1) := by decide +kernel
theorem dX8_executes_87 : decode cX8_executes 87 = .ok (.iconst 1, 1) := by decide +kernel
theorem dX8_executes_88 : decode cX8_executes 88 = .ok (.iand, 1) := by decide +kernel
theorem dX8_executes_89 : decode cX8_executes 89 = .ok (.iconst 1, 1) := by decide +kernel
theorem dX8_executes_90 : decode cX8_executes 90 = .ok (.if_icmp .ne 7, 3) := by decide +kernel
theorem dX8_executes_93 : decode cX8_executes 93 = .ok (.iconst 1, 1) := by decide +kernel
theorem dX8_executes_94 : decode cX8_executes 94 = .ok (.goto 4, 3) := by decide +kernel
theorem dX8_executes_97 : decode cX8_executes 97 = .ok (.iconst 0, 1) := by decide +kernel
theorem dX8_executes_98 : decode cX8_executes 98 = .ok (.istore_n 3, 1) := by decide +kernel
theorem dX8_executes_99 : decode cX8_executes 99 = .ok (.aload_n 0, 1) := by decide +kernel
theorem dX8_executes_100 : decode cX8_executes 100 = .ok (.getfield 53, 3) := by decide +kernel
theorem dX8_executes_103 : decode cX8_executes 103 = .ok (.aload_n 0, 1) := by decide +kernel
theorem dX8_executes_104 : decode cX8_executes 104 = .ok (.getfield 138, 3) := by decide +kernel
theorem dX8_executes_107 : decode cX8_executes 107 = .ok (.iload_n 3, 1) := by decide +kernel
theorem dX8_executes_108 : decode cX8_executes 108 = .ok (.bastore, 1) := by decide +kernel
theorem dX8_executes_109 : decode cX8_executes 109 = .ok (.aload_n 0, 1) := by decide +kernel
theorem dX8_executes_110 : decode cX8_executes 110 = .ok (.dup, 1) := by decide +kernel
theorem dX8_executes_111 : decode cX8_executes 111 = .ok (.getfield 138, 3) := by decide +kernel
theorem dX8_executes_114 : decode cX8_executes 114 = .ok (.iconst 1, 1) := by decide +kernel
theorem dX8_executes_115 : decode cX8_executes 115 = .ok (.iadd, 1) := by decide +kernel
theorem dX8_executes_116 : decode cX8_executes 116 = .ok (.putfield 138, 3) := by decide +kernel
theorem dX8_executes_119 : decode cX8_executes 119 = .ok (.aload_n 0, 1) := by decide +kernel
theorem dX8_executes_120 : decode cX8_executes 120 = .ok (.getfield 50, 3) := by decide +kernel
theorem dX8_executes_123 : decode cX8_executes 123 = .ok (.iload_n 2, 1) := by decide +kernel
theorem dX8_executes_124 : decode cX8_executes 124 = .ok (.dup2, 1) := by decide +kernel
theorem dX8_executes_125 : decode cX8_executes 125 = .ok (.iaload, 1) := by decide +kernel
theorem dX8_executes_126 : decode cX8_executes 126 = .ok (.iconst 1, 1) := by decide +kernel
theorem dX8_executes_127 : decode cX8_executes 127 = .ok (.iadd, 1) := by decide +kernel
theorem dX8_executes_128 : decode cX8_executes 128 = .ok (.iastore, 1) := by decide +kernel
theorem dX8_executes_129 : decode cX8_executes 129 = .ok (.aload_n 0, 1) := by decide +kernel
theorem dX8_executes_130 : decode cX8_executes 130 = .ok (.getfield 20, 3) := by decide +kernel
theorem dX8_executes_133 : decode cX8_executes 133 = .ok (.iload_n 2, 1) := by decide +kernel
theorem dX8_executes_134 : decode cX8_executes 134 = .ok (.iaload, 1) := by decide +kernel
theorem dX8_executes_135 : decode cX8_executes 135 = .ok (.iconst 2, 1) := by decide +kernel
theorem dX8_executes_136 : decode cX8_executes 136 = .ok (.if_icmp .ne 7, 3) := by decide +kernel
theorem dX8_executes_139 : decode cX8_executes 139 = .ok (.iconst (-1), 1) := by decide +kernel
theorem dX8_executes_140 : decode cX8_executes 140 = .ok (.goto 22, 3) := by decide +kernel
theorem dX8_executes_143 : decode cX8_executes 143 = .ok (.iload_n 3, 1) := by decide +kernel
theorem dX8_executes_144 : decode cX8_executes 144 = .ok (.ifCond .eq 12, 3) := by decide +kernel
theorem dX8_executes_147 : decode cX8_executes 147 = .ok (.aload_n 0, 1) := by decide +kernel
theorem dX8_executes_148 : decode cX8_executes 148 = .ok (.getfield 23, 3) := by decide +kernel
theorem dX8_executes_151 : decode cX8_executes 151 = .ok (.iload_n 2, 1) := by decide +kernel
theorem dX8_executes_152 : decode cX8_executes 152 = .ok (.iaload, 1) := by decide +kernel
theorem dX8_executes_153 : decode cX8_executes 153 = .ok (.goto 9, 3) := by decide +kernel
theorem dX8_executes_156 : decode cX8_executes 156 = .ok (.aload_n 0, 1) := by decide +kernel
theorem dX8_executes_157 : decode cX8_executes 157 = .ok (.getfield 26, 3) := by decide +kernel
theorem dX8_executes_160 : decode cX8_executes 160 = .ok (.iload_n 2, 1) := by decide +kernel
theorem dX8_executes_161 : decode cX8_executes 161 = .ok (.iaload, 1) := by decide +kernel
theorem dX8_executes_162 : decode cX8_executes 162 = .ok (.istore_n 2, 1) := by decide +kernel
theorem dX8_executes_163 : decode cX8_executes 163 = .ok (.goto (-135), 3) := by decide +kernel
theorem dX8_executes_166 : decode cX8_executes 166 = .ok (.aload_n 0, 1) := by decide +kernel
theorem dX8_executes_167 : decode cX8_executes 167 = .ok (.aload_n 0, 1) := by decide +kernel
theorem dX8_executes_168 : decode cX8_executes 168 = .ok (.getfield 138, 3) := by decide +kernel
theorem dX8_executes_171 : decode cX8_executes 171 = .ok (.putfield 141, 3) := by decide +kernel
theorem dX8_executes_174 : decode cX8_executes 174 = .ok (.iconst 0, 1) := by decide +kernel
theorem dX8_executes_175 : decode cX8_executes 175 = .ok (.istore_n 3, 1) := by decide +kernel
theorem dX8_executes_176 : decode cX8_executes 176 = .ok (.iload_n 3, 1) := by decide +kernel
theorem dX8_executes_177 : decode cX8_executes 177 = .ok (.aload_n 0, 1) := by decide +kernel
theorem dX8_executes_178 : decode cX8_executes 178 = .ok (.getfield 138, 3) := by decide +kernel
theorem dX8_executes_181 : decode cX8_executes 181 = .ok (.if_icmp .ge 21, 3) := by decide +kernel
theorem dX8_executes_184 : decode cX8_executes 184 = .ok (.aload_n 0, 1) := by decide +kernel
theorem dX8_executes_185 : decode cX8_executes 185 = .ok (.getfield 44, 3) := by decide +kernel
theorem dX8_executes_188 : decode cX8_executes 188 = .ok (.iload_n 3, 1) := by decide +kernel
theorem dX8_executes_189 : decode cX8_executes 189 = .ok (.aload_n 0, 1) := by decide +kernel
theorem dX8_executes_190 : decode cX8_executes 190 = .ok (.getfield 47, 3) := by decide +kernel
theorem dX8_executes_193 : decode cX8_executes 193 = .ok (.iload_n 3, 1) := by decide +kernel
theorem dX8_executes_194 : decode cX8_executes 194 = .ok (.iaload, 1) := by decide +kernel
theorem dX8_executes_195 : decode cX8_executes 195 = .ok (.iastore, 1) := by decide +kernel
theorem dX8_executes_196 : decode cX8_executes 196 = .ok (.iinc 3 1, 3) := by decide +kernel
theorem dX8_executes_199 : decode cX8_executes 199 = .ok (.goto (-23), 3) := by decide +kernel
theorem dX8_executes_202 : decode cX8_executes 202 = .ok (.iconst 1, 1) := by decide +kernel
theorem dX8_executes_203 : decode cX8_executes 203 = .ok (.ireturn, 1) := by decide +kernel
theorem dX8_mayRun_0 : decode cX8_mayRun 0 = .ok (.aload_n 0, 1) := by decide +kernel
theorem dX8_mayRun_1 : decode cX8_mayRun 1 = .ok (.iload_n 1, 1) := by decide +kernel
theorem dX8_mayRun_2 : decode cX8_mayRun 2 = .ok (.iconst 1, 1) := by decide +kernel
theorem dX8_mayRun_3 : decode cX8_mayRun 3 = .ok (.sipush 500, 3) := by decide +kernel
theorem dX8_mayRun_6 : decode cX8_mayRun 6 = .ok (.invokestatic 109, 3) := by decide +kernel
theorem dX8_mayRun_9 : decode cX8_mayRun 9 = .ok (.ifCond .ne 7, 3) := by decide +kernel
theorem dX8_mayRun_12 : decode cX8_mayRun 12 = .ok (.iconst 1, 1) := by decide +kernel
theorem dX8_mayRun_13 : decode cX8_mayRun 13 = .ok (.goto 16, 3) := by decide +kernel
theorem dX8_mayRun_16 : decode cX8_mayRun 16 = .ok (.aload_n 0, 1) := by decide +kernel
theorem dX8_mayRun_17 : decode cX8_mayRun 17 = .ok (.iload_n 1, 1) := by decide +kernel
theorem dX8_mayRun_18 : decode cX8_mayRun 18 = .ok (.invokevirtual 144, 3) := by decide +kernel
theorem dX8_mayRun_21 : decode cX8_mayRun 21 = .ok (.ifCond .eq 7, 3) := by decide +kernel
theorem dX8_mayRun_24 : decode cX8_mayRun 24 = .ok (.iconst 0, 1) := by decide +kernel
theorem dX8_mayRun_25 : decode cX8_mayRun 25 = .ok (.goto 4, 3) := by decide +kernel
theorem dX8_mayRun_28 : decode cX8_mayRun 28 = .ok (.iconst 2, 1) := by decide +kernel
theorem dX8_mayRun_29 : decode cX8_mayRun 29 = .ok (.putfield 103, 3) := by decide +kernel
theorem dX8_mayRun_32 : decode cX8_mayRun 32 = .ok (.aload_n 0, 1) := by decide +kernel
theorem dX8_mayRun_33 : decode cX8_mayRun 33 = .ok (.getfield 103, 3) := by decide +kernel
theorem dX8_mayRun_36 : decode cX8_mayRun 36 = .ok (.ifCond .ne 7, 3) := by decide +kernel
theorem dX8_mayRun_39 : decode cX8_mayRun 39 = .ok (.iconst 1, 1) := by decide +kernel
theorem dX8_mayRun_40 : decode cX8_mayRun 40 = .ok (.goto 4, 3) := by decide +kernel
theorem dX8_mayRun_43 : decode cX8_mayRun 43 = .ok (.iconst 0, 1) := by decide +kernel
theorem dX8_mayRun_44 : decode cX8_mayRun 44 = .ok (.ireturn, 1) := by decide +kernel
theorem dX8_run_0 : decode cX8_run 0 = .ok (.aload_n 0, 1) := by decide +kernel
theorem dX8_run_1 : decode cX8_run 1 = .ok (.iload_n 1, 1) := by decide +kernel
theorem dX8_run_2 : decode cX8_run 2 = .ok (.invokevirtual 147, 3) := by decide +kernel
theorem dX8_run_5 : decode cX8_run 5 = .ok (.ifCond .ne 5, 3) := by decide +kernel
theorem dX8_run_8 : decode cX8_run 8 = .ok (.iconst 0, 1) := by decide +kernel
theorem dX8_run_9 : decode cX8_run 9 = .ok (.ireturn, 1) := by decide +kernel
theorem dX8_run_10 : decode cX8_run 10 = .ok (.iconst 0, 1) := by decide +kernel
theorem dX8_run_11 : decode cX8_run 11 = .ok (.istore_n 2, 1) := by decide +kernel
theorem dX8_run_12 : decode cX8_run 12 = .ok (.iload_n 2, 1) := by decide +kernel
theorem dX8_run_13 : decode cX8_run 13 = .ok (.aload_n 0, 1) := by decide +kernel
theorem dX8_run_14 : decode cX8_run 14 = .ok (.getfield 138, 3) := by decide +kernel
theorem dX8_run_17 : decode cX8_run 17 = .ok (.if_icmp .ge 92, 3) := by decide +kernel
theorem dX8_run_20 : decode cX8_run 20 = .ok (.aload_n 0, 1) := by decide +kernel
theorem dX8_run_21 : decode cX8_run 21 = .ok (.getfield 47, 3) := by decide +kernel
theorem dX8_run_24 : decode cX8_run 24 = .ok (.iload_n 2, 1) := by decide +kernel
theorem dX8_run_25 : decode cX8_run 25 = .ok (.iaload, 1) := by decide +kernel
theorem dX8_run_26 : decode cX8_run 26 = .ok (.istore_n 3, 1) := by decide +kernel
theorem dX8_run_27 : decode cX8_run 27 = .ok (.aload_n 0, 1) := by decide +kernel
theorem dX8_run_28 : decode cX8_run 28 = .ok (.getfield 32, 3) := by decide +kernel
theorem dX8_run_31 : decode cX8_run 31 = .ok (.iload_n 3, 1) := by decide +kernel
theorem dX8_run_32 : decode cX8_run 32 = .ok (.dup2, 1) := by decide +kernel
theorem dX8_run_33 : decode cX8_run 33 = .ok (.iaload, 1) := by decide +kernel
theorem dX8_run_34 : decode cX8_run 34 = .ok (.iconst 1, 1) := by decide +kernel
theorem dX8_run_35 : decode cX8_run 35 = .ok (.iadd, 1) := by decide +kernel
theorem dX8_run_36 : decode cX8_run 36 = .ok (.iastore, 1) := by decide +kernel
theorem dX8_run_37 : decode cX8_run 37 = .ok (.aload_n 0, 1) := by decide +kernel
theorem dX8_run_38 : decode cX8_run 38 = .ok (.getfield 35, 3) := by decide +kernel
theorem dX8_run_41 : decode cX8_run 41 = .ok (.iload_n 3, 1) := by decide +kernel
theorem dX8_run_42 : decode cX8_run 42 = .ok (.dup2, 1) := by decide +kernel
theorem dX8_run_43 : decode cX8_run 43 = .ok (.iaload, 1) := by decide +kernel
theorem dX8_run_44 : decode cX8_run 44 = .ok (.aload_n 0, 1) := by decide +kernel
theorem dX8_run_45 : decode cX8_run 45 = .ok (.getfield 20, 3) := by decide +kernel
theorem dX8_run_48 : decode cX8_run 48 = .ok (.iload_n 3, 1) := by decide +kernel
theorem dX8_run_49 : decode cX8_run 49 = .ok (.iaload, 1) := by decide +kernel
theorem dX8_run_50 : decode cX8_run 50 = .ok (.iconst 2, 1) := by decide +kernel
theorem dX8_run_51 : decode cX8_run 51 = .ok (.if_icmp .eq 16, 3) := by decide +kernel
theorem dX8_run_54 : decode cX8_run 54 = .ok (.aload_n 0, 1) := by decide +kernel
theorem dX8_run_55 : decode cX8_run 55 = .ok (.getfield 53, 3) := by decide +kernel
theorem dX8_run_58 : decode cX8_run 58 = .ok (.iload_n 2, 1) := by decide +kernel
theorem dX8_run_59 : decode cX8_run 59 = .ok (.baload, 1) := by decide +kernel
theorem dX8_run_60 : decode cX8_run 60 = .ok (.ifCond .eq 7, 3) := by decide +kernel
theorem dX8_run_63 : decode cX8_run 63 = .ok (.iconst 1, 1) := by decide +kernel
theorem dX8_run_64 : decode cX8_run 64 = .ok (.goto 4, 3) := by decide +kernel
theorem dX8_run_67 : decode cX8_run 67 = .ok (.iconst 0, 1) := by decide +kernel
theorem dX8_run_68 : decode cX8_run 68 = .ok (.iadd, 1) := by decide +kernel
theorem dX8_run_69 : decode cX8_run 69 = .ok (.iastore, 1) := by decide +kernel
theorem dX8_run_70 : decode cX8_run 70 = .ok (.aload_n 0, 1) := by decide +kernel
theorem dX8_run_71 : decode cX8_run 71 = .ok (.getfield 38, 3) := by decide +kernel
theorem dX8_run_74 : decode cX8_run 74 = .ok (.iload_n 3, 1) := by decide +kernel
theorem dX8_run_75 : decode cX8_run 75 = .ok (.dup2, 1) := by decide +kernel
theorem dX8_run_76 : decode cX8_run 76 = .ok (.iaload, 1) := by decide +kernel
theorem dX8_run_77 : decode cX8_run 77 = .ok (.aload_n 0, 1) := by decide +kernel
theorem dX8_run_78 : decode cX8_run 78 = .ok (.getfield 20, 3) := by decide +kernel
theorem dX8_run_81 : decode cX8_run 81 = .ok (.iload_n 3, 1) := by decide +kernel
theorem dX8_run_82 : decode cX8_run 82 = .ok (.iaload, 1) := by decide +kernel
theorem dX8_run_83 : decode cX8_run 83 = .ok (.iconst 1, 1) := by decide +kernel
theorem dX8_run_84 : decode cX8_run 84 = .ok (.if_icmp .ne 16, 3) := by decide +kernel
theorem dX8_run_87 : decode cX8_run 87 = .ok (.aload_n 0, 1) := by decide +kernel
theorem dX8_run_88 : decode cX8_run 88 = .ok (.getfield 53, 3) := by decide +kernel
theorem dX8_run_91 : decode cX8_run 91 = .ok (.iload_n 2, 1) := by decide +kernel
theorem dX8_run_92 : decode cX8_run 92 = .ok (.baload, 1) := by decide +kernel
theorem dX8_run_93 : decode cX8_run 93 = .ok (.ifCond .ne 7, 3) := by decide +kernel
theorem dX8_run_96 : decode cX8_run 96 = .ok (.iconst 1, 1) := by decide +kernel
theorem dX8_run_97 : decode cX8_run 97 = .ok (.goto 4, 3) := by decide +kernel
theorem dX8_run_100 : decode cX8_run 100 = .ok (.iconst 0, 1) := by decide +kernel
theorem dX8_run_101 : decode cX8_run 101 = .ok (.iadd, 1) := by decide +kernel
theorem dX8_run_102 : decode cX8_run 102 = .ok (.iastore, 1) := by decide +kernel
theorem dX8_run_103 : decode cX8_run 103 = .ok (.iinc 2 1, 3) := by decide +kernel
theorem dX8_run_106 : decode cX8_run 106 = .ok (.goto (-94), 3) := by decide +kernel
theorem dX8_run_109 : decode cX8_run 109 = .ok (.aload_n 0, 1) := by decide +kernel
theorem dX8_run_110 : decode cX8_run 110 = .ok (.getfield 138, 3) := by decide +kernel
theorem dX8_run_113 : decode cX8_run 113 = .ok (.ireturn, 1) := by decide +kernel
theorem dX8_runLayout_0 : decode cX8_runLayout 0 = .ok (.aload_n 0, 1) := by decide +kernel
theorem dX8_runLayout_1 : decode cX8_runLayout 1 = .ok (.iload_n 1, 1) := by decide +kernel
theorem dX8_runLayout_2 : decode cX8_runLayout 2 = .ok (.invokevirtual 147, 3) := by decide +kernel
theorem dX8_runLayout_5 : decode cX8_runLayout 5 = .ok (.ifCond .ne 5, 3) := by decide +kernel
theorem dX8_runLayout_8 : decode cX8_runLayout 8 = .ok (.iconst 0, 1) := by decide +kernel
theorem dX8_runLayout_9 : decode cX8_runLayout 9 = .ok (.ireturn, 1) := by decide +kernel
theorem dX8_runLayout_10 : decode cX8_runLayout 10 = .ok (.aload_n 0, 1) := by decide +kernel
theorem dX8_runLayout_11 : decode cX8_runLayout 11 = .ok (.invokevirtual 150, 3) := by decide +kernel
theorem dX8_runLayout_14 : decode cX8_runLayout 14 = .ok (.iconst 0, 1) := by decide +kernel
theorem dX8_runLayout_15 : decode cX8_runLayout 15 = .ok (.istore_n 2, 1) := by decide +kernel
theorem dX8_runLayout_16 : decode cX8_runLayout 16 = .ok (.iconst 0, 1) := by decide +kernel
theorem dX8_runLayout_17 : decode cX8_runLayout 17 = .ok (.istore_n 3, 1) := by decide +kernel
theorem dX8_runLayout_18 : decode cX8_runLayout 18 = .ok (.iload_n 3, 1) := by decide +kernel
theorem dX8_runLayout_19 : decode cX8_runLayout 19 = .ok (.aload_n 0, 1) := by decide +kernel
theorem dX8_runLayout_20 : decode cX8_runLayout 20 = .ok (.getfield 138, 3) := by decide +kernel
theorem dX8_runLayout_23 : decode cX8_runLayout 23 = .ok (.if_icmp .ge 153, 3) := by decide +kernel
theorem dX8_runLayout_26 : decode cX8_runLayout 26 = .ok (.aload_n 0, 1) := by decide +kernel
theorem dX8_runLayout_27 : decode cX8_runLayout 27 = .ok (.getfield 47, 3) := by decide +kernel
theorem dX8_runLayout_30 : decode cX8_runLayout 30 = .ok (.iload_n 3, 1) := by decide +kernel
theorem dX8_runLayout_31 : decode cX8_runLayout 31 = .ok (.iaload, 1) := by decide +kernel
theorem dX8_runLayout_32 : decode cX8_runLayout 32 = .ok (.istore 4, 2) := by decide +kernel
theorem dX8_runLayout_34 : decode cX8_runLayout 34 = .ok (.aload_n 0, 1) := by decide +kernel
theorem dX8_runLayout_35 : decode cX8_runLayout 35 = .ok (.iload 4, 2) := by decide +kernel
theorem dX8_runLayout_37 : decode cX8_runLayout 37 = .ok (.invokevirtual 153, 3) := by decide +kernel
theorem dX8_runLayout_40 : decode cX8_runLayout 40 = .ok (.istore 5, 2) := by decide +kernel
theorem dX8_runLayout_42 : decode cX8_runLayout 42 = .ok (.aload_n 0, 1) := by decide +kernel
theorem dX8_runLayout_43 : decode cX8_runLayout 43 = .ok (.getfield 20, 3) := by decide +kernel
theorem dX8_runLayout_46 : decode cX8_runLayout 46 = .ok (.iload 4, 2) := by decide +kernel
theorem dX8_runLayout_48 : decode cX8_runLayout 48 = .ok (.iaload, 1) := by decide +kernel
theorem dX8_runLayout_49 : decode cX8_runLayout 49 = .ok (.iconst 2, 1) := by decide +kernel
theorem dX8_runLayout_50 : decode cX8_runLayout 50 = .ok (.if_icmp .ne 6, 3) := by decide +kernel
theorem dX8_runLayout_53 : decode cX8_runLayout 53 = .ok (.goto 117, 3) := by decide +kernel
theorem dX8_runLayout_56 : decode cX8_runLayout 56 = .ok (.aload_n 0, 1) := by decide +kernel
theorem dX8_runLayout_57 : decode cX8_runLayout 57 = .ok (.getfield 53, 3) := by decide +kernel
theorem dX8_runLayout_60 : decode cX8_runLayout 60 = .ok (.iload_n 3, 1) := by decide +kernel
theorem dX8_runLayout_61 : decode cX8_runLayout 61 = .ok (.baload, 1) := by decide +kernel
theorem dX8_runLayout_62 : decode cX8_runLayout 62 = .ok (.ifCond .eq 13, 3) := by decide +kernel
theorem dX8_runLayout_65 : decode cX8_runLayout 65 = .ok (.aload_n 0, 1) := by decide +kernel
theorem dX8_runLayout_66 : decode cX8_runLayout 66 = .ok (.getfield 23, 3) := by decide +kernel
theorem dX8_runLayout_69 : decode cX8_runLayout 69 = .ok (.iload 4, 2) := by decide +kernel
theorem dX8_runLayout_71 : decode cX8_runLayout 71 = .ok (.iaload, 1) := by decide +kernel
theorem dX8_runLayout_72 : decode cX8_runLayout 72 = .ok (.goto 10, 3) := by decide +kernel
theorem dX8_runLayout_75 : decode cX8_runLayout 75 = .ok (.aload_n 0, 1) := by decide +kernel
theorem dX8_runLayout_76 : decode cX8_runLayout 76 = .ok (.getfield 26, 3) := by decide +kernel
theorem dX8_runLayout_79 : decode cX8_runLayout 79 = .ok (.iload 4, 2) := by decide +kernel
theorem dX8_runLayout_81 : decode cX8_runLayout 81 = .ok (.iaload, 1) := by decide +kernel
theorem dX8_runLayout_82 : decode cX8_runLayout 82 = .ok (.istore 6, 2) := by decide +kernel
theorem dX8_runLayout_84 : decode cX8_runLayout 84 = .ok (.aload_n 0, 1) := by decide +kernel
theorem dX8_runLayout_85 : decode cX8_runLayout 85 = .ok (.iload 4, 2) := by decide +kernel
theorem dX8_runLayout_87 : decode cX8_runLayout 87 = .ok (.iload 5, 2) := by decide +kernel
theorem dX8_runLayout_89 : decode cX8_runLayout 89 = .ok (.invokevirtual 156, 3) := by decide +kernel
theorem dX8_runLayout_92 : decode cX8_runLayout 92 = .ok (.istore 7, 2) := by decide +kernel
theorem dX8_runLayout_94 : decode cX8_runLayout 94 = .ok (.iload 7, 2) := by decide +kernel
theorem dX8_runLayout_96 : decode cX8_runLayout 96 = .ok (.iconst 1, 1) := by decide +kernel
theorem dX8_runLayout_97 : decode cX8_runLayout 97 = .ok (.if_icmp .ne 9, 3) := by decide +kernel
theorem dX8_runLayout_100 : decode cX8_runLayout 100 = .ok (.iinc 2 2, 3) := by decide +kernel
theorem dX8_runLayout_103 : decode cX8_runLayout 103 = .ok (.goto 42, 3) := by decide +kernel
theorem dX8_runLayout_106 : decode cX8_runLayout 106 = .ok (.iload 7, 2) := by decide +kernel
theorem dX8_runLayout_108 : decode cX8_runLayout 108 = .ok (.iconst 4, 1) := by decide +kernel
theorem dX8_runLayout_109 : decode cX8_runLayout 109 = .ok (.if_icmp .ne 9, 3) := by decide +kernel
theorem dX8_runLayout_112 : decode cX8_runLayout 112 = .ok (.iinc 2 3, 3) := by decide +kernel
theorem dX8_runLayout_115 : decode cX8_runLayout 115 = .ok (.goto 30, 3) := by decide +kernel
theorem dX8_runLayout_118 : decode cX8_runLayout 118 = .ok (.iload 7, 2) := by decide +kernel
theorem dX8_runLayout_120 : decode cX8_runLayout 120 = .ok (.iconst 2, 1) := by decide +kernel
theorem dX8_runLayout_121 : decode cX8_runLayout 121 = .ok (.if_icmp .eq 9, 3) := by decide +kernel
theorem dX8_runLayout_124 : decode cX8_runLayout 124 = .ok (.iload 7, 2) := by decide +kernel
theorem dX8_runLayout_126 : decode cX8_runLayout 126 = .ok (.iconst 3, 1) := by decide +kernel
theorem dX8_runLayout_127 : decode cX8_runLayout 127 = .ok (.if_icmp .ne 18, 3) := by decide +kernel
theorem dX8_runLayout_130 : decode cX8_runLayout 130 = .ok (.iload_n 2, 1) := by decide +kernel
theorem dX8_runLayout_131 : decode cX8_runLayout 131 = .ok (.iload 6, 2) := by decide +kernel
theorem dX8_runLayout_133 : decode cX8_runLayout 133 = .ok (.iload 5, 2) := by decide +kernel
theorem dX8_runLayout_135 : decode cX8_runLayout 135 = .ok (.if_icmp .ne 7, 3) := by decide +kernel
theorem dX8_runLayout_138 : decode cX8_runLayout 138 = .ok (.iconst 1, 1) := by decide +kernel
theorem dX8_runLayout_139 : decode cX8_runLayout 139 = .ok (.goto 4, 3) := by decide +kernel
theorem dX8_runLayout_142 : decode cX8_runLayout 142 = .ok (.iconst 3, 1) := by decide +kernel
theorem dX8_runLayout_143 : decode cX8_runLayout 143 = .ok (.iadd, 1) := by decide +kernel
theorem dX8_runLayout_144 : decode cX8_runLayout 144 = .ok (.istore_n 2, 1) := by decide +kernel
theorem dX8_runLayout_145 : decode cX8_runLayout 145 = .ok (.iload_n 2, 1) := by decide +kernel
theorem dX8_runLayout_146 : decode cX8_runLayout 146 = .ok (.iload 6, 2) := by decide +kernel
theorem dX8_runLayout_148 : decode cX8_runLayout 148 = .ok (.iload 5, 2) := by decide +kernel
theorem dX8_runLayout_150 : decode cX8_runLayout 150 = .ok (.if_icmp .ne 17, 3) := by decide +kernel
theorem dX8_runLayout_153 : decode cX8_runLayout 153 = .ok (.aload_n 0, 1) := by decide +kernel
theorem dX8_runLayout_154 : decode cX8_runLayout 154 = .ok (.getfield 60, 3) := by decide +kernel
theorem dX8_runLayout_157 : decode cX8_runLayout 157 = .ok (.iload 6, 2) := by decide +kernel
theorem dX8_runLayout_159 : decode cX8_runLayout 159 = .ok (.iaload, 1) := by decide +kernel
theorem dX8_runLayout_160 : decode cX8_runLayout 160 = .ok (.ifCond .le 7, 3) := by decide +kernel
theorem dX8_runLayout_163 : decode cX8_runLayout 163 = .ok (.iconst 1, 1) := by decide +kernel
theorem dX8_runLayout_164 : decode cX8_runLayout 164 = .ok (.goto 4, 3) := by decide +kernel
theorem dX8_runLayout_167 : decode cX8_runLayout 167 = .ok (.iconst 0, 1) := by decide +kernel
theorem dX8_runLayout_168 : decode cX8_runLayout 168 = .ok (.iadd, 1) := by decide +kernel
theorem dX8_runLayout_169 : decode cX8_runLayout 169 = .ok (.istore_n 2, 1) := by decide +kernel
theorem dX8_runLayout_170 : decode cX8_runLayout 170 = .ok (.iinc 3 1, 3) := by decide +kernel
theorem dX8_runLayout_173 : decode cX8_runLayout 173 = .ok (.goto (-155), 3) := by decide +kernel
theorem dX8_runLayout_176 : decode cX8_runLayout 176 = .ok (.iload_n 2, 1) := by decide +kernel
theorem dX8_runLayout_177 : decode cX8_runLayout 177 = .ok (.ireturn, 1) := by decide +kernel
theorem dX8_pathLength_0 : decode cX8_pathLength 0 = .ok (.aload_n 0, 1) := by decide +kernel
theorem dX8_pathLength_1 : decode cX8_pathLength 1 = .ok (.iconst 0, 1) := by decide +kernel
theorem dX8_pathLength_2 : decode cX8_pathLength 2 = .ok (.putfield 103, 3) := by decide +kernel
theorem dX8_pathLength_5 : decode cX8_pathLength 5 = .ok (.aload_n 0, 1) := by decide +kernel
theorem dX8_pathLength_6 : decode cX8_pathLength 6 = .ok (.getfield 141, 3) := by decide +kernel
theorem dX8_pathLength_9 : decode cX8_pathLength 9 = .ok (.ireturn, 1) := by decide +kernel
theorem dX8_pathBlock_0 : decode cX8_pathBlock 0 = .ok (.aload_n 0, 1) := by decide +kernel
theorem dX8_pathBlock_1 : decode cX8_pathBlock 1 = .ok (.iload_n 1, 1) := by decide +kernel
theorem dX8_pathBlock_2 : decode cX8_pathBlock 2 = .ok (.iconst 0, 1) := by decide +kernel
theorem dX8_pathBlock_3 : decode cX8_pathBlock 3 = .ok (.aload_n 0, 1) := by decide +kernel
theorem dX8_pathBlock_4 : decode cX8_pathBlock 4 = .ok (.getfield 141, 3) := by decide +kernel
theorem dX8_pathBlock_7 : decode cX8_pathBlock 7 = .ok (.iconst 1, 1) := by decide +kernel
theorem dX8_pathBlock_8 : decode cX8_pathBlock 8 = .ok (.isub, 1) := by decide +kernel
theorem dX8_pathBlock_9 : decode cX8_pathBlock 9 = .ok (.invokestatic 109, 3) := by decide +kernel
theorem dX8_pathBlock_12 : decode cX8_pathBlock 12 = .ok (.ifCond .eq 7, 3) := by decide +kernel
theorem dX8_pathBlock_15 : decode cX8_pathBlock 15 = .ok (.iconst 0, 1) := by decide +kernel
theorem dX8_pathBlock_16 : decode cX8_pathBlock 16 = .ok (.goto 4, 3) := by decide +kernel
theorem dX8_pathBlock_19 : decode cX8_pathBlock 19 = .ok (.iconst 1, 1) := by decide +kernel
theorem dX8_pathBlock_20 : decode cX8_pathBlock 20 = .ok (.putfield 103, 3) := by decide +kernel
theorem dX8_pathBlock_23 : decode cX8_pathBlock 23 = .ok (.aload_n 0, 1) := by decide +kernel
theorem dX8_pathBlock_24 : decode cX8_pathBlock 24 = .ok (.getfield 103, 3) := by decide +kernel
theorem dX8_pathBlock_27 : decode cX8_pathBlock 27 = .ok (.ifCond .ne 12, 3) := by decide +kernel
theorem dX8_pathBlock_30 : decode cX8_pathBlock 30 = .ok (.aload_n 0, 1) := by decide +kernel
theorem dX8_pathBlock_31 : decode cX8_pathBlock 31 = .ok (.getfield 44, 3) := by decide +kernel
theorem dX8_pathBlock_34 : decode cX8_pathBlock 34 = .ok (.iload_n 1, 1) := by decide +kernel
theorem dX8_pathBlock_35 : decode cX8_pathBlock 35 = .ok (.iaload, 1) := by decide +kernel
theorem dX8_pathBlock_36 : decode cX8_pathBlock 36 = .ok (.goto 4, 3) := by decide +kernel
theorem dX8_pathBlock_39 : decode cX8_pathBlock 39 = .ok (.iconst 0, 1) := by decide +kernel
theorem dX8_pathBlock_40 : decode cX8_pathBlock 40 = .ok (.ireturn, 1) := by decide +kernel
theorem dX8_counts_0 : decode cX8_counts 0 = .ok (.iconst 0, 1) := by decide +kernel
theorem dX8_counts_1 : decode cX8_counts 1 = .ok (.istore_n 1, 1) := by decide +kernel
theorem dX8_counts_2 : decode cX8_counts 2 = .ok (.iconst 0, 1) := by decide +kernel
theorem dX8_counts_3 : decode cX8_counts 3 = .ok (.istore_n 2, 1) := by decide +kernel
theorem dX8_counts_4 : decode cX8_counts 4 = .ok (.iload_n 2, 1) := by decide +kernel
theorem dX8_counts_5 : decode cX8_counts 5 = .ok (.aload_n 0, 1) := by decide +kernel
theorem dX8_counts_6 : decode cX8_counts 6 = .ok (.getfield 106, 3) := by decide +kernel
theorem dX8_counts_9 : decode cX8_counts 9 = .ok (.if_icmp .ge 18, 3) := by decide +kernel
theorem dX8_counts_12 : decode cX8_counts 12 = .ok (.iload_n 1, 1) := by decide +kernel
theorem dX8_counts_13 : decode cX8_counts 13 = .ok (.aload_n 0, 1) := by decide +kernel
theorem dX8_counts_14 : decode cX8_counts 14 = .ok (.getfield 32, 3) := by decide +kernel
theorem dX8_counts_17 : decode cX8_counts 17 = .ok (.iload_n 2, 1) := by decide +kernel
theorem dX8_counts_18 : decode cX8_counts 18 = .ok (.iaload, 1) := by decide +kernel
theorem dX8_counts_19 : decode cX8_counts 19 = .ok (.iadd, 1) := by decide +kernel
theorem dX8_counts_20 : decode cX8_counts 20 = .ok (.istore_n 1, 1) := by decide +kernel
theorem dX8_counts_21 : decode cX8_counts 21 = .ok (.iinc 2 1, 3) := by decide +kernel
theorem dX8_counts_24 : decode cX8_counts 24 = .ok (.goto (-20), 3) := by decide +kernel
theorem dX8_counts_27 : decode cX8_counts 27 = .ok (.iload_n 1, 1) := by decide +kernel
theorem dX8_counts_28 : decode cX8_counts 28 = .ok (.ireturn, 1) := by decide +kernel
theorem dX8_clearProfile_0 : decode cX8_clearProfile 0 = .ok (.aload_n 0, 1) := by decide +kernel
theorem dX8_clearProfile_1 : decode cX8_clearProfile 1 = .ok (.iconst 0, 1) := by decide +kernel
theorem dX8_clearProfile_2 : decode cX8_clearProfile 2 = .ok (.putfield 103, 3) := by decide +kernel
theorem dX8_clearProfile_5 : decode cX8_clearProfile 5 = .ok (.aload_n 0, 1) := by decide +kernel
theorem dX8_clearProfile_6 : decode cX8_clearProfile 6 = .ok (.invokevirtual 160, 3) := by decide +kernel
theorem dX8_clearProfile_9 : decode cX8_clearProfile 9 = .ok (.istore_n 1, 1) := by decide +kernel
theorem dX8_clearProfile_10 : decode cX8_clearProfile 10 = .ok (.iconst 0, 1) := by decide +kernel
theorem dX8_clearProfile_11 : decode cX8_clearProfile 11 = .ok (.istore_n 2, 1) := by decide +kernel
theorem dX8_clearProfile_12 : decode cX8_clearProfile 12 = .ok (.iload_n 2, 1) := by decide +kernel
theorem dX8_clearProfile_13 : decode cX8_clearProfile 13 = .ok (.bipush 16, 2) := by decide +kernel
theorem dX8_clearProfile_15 : decode cX8_clearProfile 15 = .ok (.if_icmp .ge 30, 3) := by decide +kernel
theorem dX8_clearProfile_18 : decode cX8_clearProfile 18 = .ok (.aload_n 0, 1) := by decide +kernel
theorem dX8_clearProfile_19 : decode cX8_clearProfile 19 = .ok (.getfield 32, 3) := by decide +kernel
theorem dX8_clearProfile_22 : decode cX8_clearProfile 22 = .ok (.iload_n 2, 1) := by decide +kernel
theorem dX8_clearProfile_23 : decode cX8_clearProfile 23 = .ok (.iconst 0, 1) := by decide +kernel
theorem dX8_clearProfile_24 : decode cX8_clearProfile 24 = .ok (.iastore, 1) := by decide +kernel
theorem dX8_clearProfile_25 : decode cX8_clearProfile 25 = .ok (.aload_n 0, 1) := by decide +kernel
theorem dX8_clearProfile_26 : decode cX8_clearProfile 26 = .ok (.getfield 35, 3) := by decide +kernel
theorem dX8_clearProfile_29 : decode cX8_clearProfile 29 = .ok (.iload_n 2, 1) := by decide +kernel
theorem dX8_clearProfile_30 : decode cX8_clearProfile 30 = .ok (.iconst 0, 1) := by decide +kernel
theorem dX8_clearProfile_31 : decode cX8_clearProfile 31 = .ok (.iastore, 1) := by decide +kernel
theorem dX8_clearProfile_32 : decode cX8_clearProfile 32 = .ok (.aload_n 0, 1) := by decide +kernel
theorem dX8_clearProfile_33 : decode cX8_clearProfile 33 = .ok (.getfield 38, 3) := by decide +kernel
theorem dX8_clearProfile_36 : decode cX8_clearProfile 36 = .ok (.iload_n 2, 1) := by decide +kernel
theorem dX8_clearProfile_37 : decode cX8_clearProfile 37 = .ok (.iconst 0, 1) := by decide +kernel
theorem dX8_clearProfile_38 : decode cX8_clearProfile 38 = .ok (.iastore, 1) := by decide +kernel
theorem dX8_clearProfile_39 : decode cX8_clearProfile 39 = .ok (.iinc 2 1, 3) := by decide +kernel
theorem dX8_clearProfile_42 : decode cX8_clearProfile 42 = .ok (.goto (-30), 3) := by decide +kernel
theorem dX8_clearProfile_45 : decode cX8_clearProfile 45 = .ok (.iload_n 1, 1) := by decide +kernel
theorem dX8_clearProfile_46 : decode cX8_clearProfile 46 = .ok (.ireturn, 1) := by decide +kernel
theorem dX8_position_0 : decode cX8_position 0 = .ok (.iconst 0, 1) := by decide +kernel
theorem dX8_position_1 : decode cX8_position 1 = .ok (.istore_n 2, 1) := by decide +kernel
theorem dX8_position_2 : decode cX8_position 2 = .ok (.aload_n 0, 1) := by decide +kernel
theorem dX8_position_3 : decode cX8_position 3 = .ok (.getfield 41, 3) := by decide +kernel
theorem dX8_position_6 : decode cX8_position 6 = .ok (.iload_n 2, 1) := by decide +kernel
theorem dX8_position_7 : decode cX8_position 7 = .ok (.iaload, 1) := by decide +kernel
theorem dX8_position_8 : decode cX8_position 8 = .ok (.iload_n 1, 1) := by decide +kernel
theorem dX8_position_9 : decode cX8_position 9 = .ok (.if_icmp .eq 9, 3) := by decide +kernel
theorem dX8_position_12 : decode cX8_position 12 = .ok (.iinc 2 1, 3) := by decide +kernel
theorem dX8_position_15 : decode cX8_position 15 = .ok (.goto (-13), 3) := by decide +kernel
theorem dX8_position_18 : decode cX8_position 18 = .ok (.iload_n 2, 1) := by decide +kernel
theorem dX8_position_19 : decode cX8_position 19 = .ok (.ireturn, 1) := by decide +kernel
theorem dX8_next_0 : decode cX8_next 0 = .ok (.aload_n 0, 1) := by decide +kernel
theorem dX8_next_1 : decode cX8_next 1 = .ok (.iload_n 1, 1) := by decide +kernel
theorem dX8_next_2 : decode cX8_next 2 = .ok (.invokevirtual 164, 3) := by decide +kernel
theorem dX8_next_5 : decode cX8_next 5 = .ok (.istore_n 2, 1) := by decide +kernel
theorem dX8_next_6 : decode cX8_next 6 = .ok (.iload_n 2, 1) := by decide +kernel
theorem dX8_next_7 : decode cX8_next 7 = .ok (.iconst 1, 1) := by decide +kernel
theorem dX8_next_8 : decode cX8_next 8 = .ok (.iadd, 1) := by decide +kernel
theorem dX8_next_9 : decode cX8_next 9 = .ok (.aload_n 0, 1) := by decide +kernel
theorem dX8_next_10 : decode cX8_next 10 = .ok (.getfield 106, 3) := by decide +kernel
theorem dX8_next_13 : decode cX8_next 13 = .ok (.if_icmp .eq 13, 3) := by decide +kernel
theorem dX8_next_16 : decode cX8_next 16 = .ok (.iload_n 2, 1) := by decide +kernel
theorem dX8_next_17 : decode cX8_next 17 = .ok (.iconst 1, 1) := by decide +kernel
theorem dX8_next_18 : decode cX8_next 18 = .ok (.iadd, 1) := by decide +kernel
theorem dX8_next_19 : decode cX8_next 19 = .ok (.aload_n 0, 1) := by decide +kernel
theorem dX8_next_20 : decode cX8_next 20 = .ok (.getfield 113, 3) := by decide +kernel
theorem dX8_next_23 : decode cX8_next 23 = .ok (.if_icmp .ne 7, 3) := by decide +kernel
theorem dX8_next_26 : decode cX8_next 26 = .ok (.iconst (-1), 1) := by decide +kernel
theorem dX8_next_27 : decode cX8_next 27 = .ok (.goto 11, 3) := by decide +kernel
theorem dX8_next_30 : decode cX8_next 30 = .ok (.aload_n 0, 1) := by decide +kernel
theorem dX8_next_31 : decode cX8_next 31 = .ok (.getfield 41, 3) := by decide +kernel
theorem dX8_next_34 : decode cX8_next 34 = .ok (.iload_n 2, 1) := by decide +kernel
theorem dX8_next_35 : decode cX8_next 35 = .ok (.iconst 1, 1) := by decide +kernel
theorem dX8_next_36 : decode cX8_next 36 = .ok (.iadd, 1) := by decide +kernel
theorem dX8_next_37 : decode cX8_next 37 = .ok (.iaload, 1) := by decide +kernel
theorem dX8_next_38 : decode cX8_next 38 = .ok (.ireturn, 1) := by decide +kernel
theorem dX8_form_0 : decode cX8_form 0 = .ok (.aload_n 0, 1) := by decide +kernel
theorem dX8_form_1 : decode cX8_form 1 = .ok (.getfield 20, 3) := by decide +kernel
theorem dX8_form_4 : decode cX8_form 4 = .ok (.iload_n 1, 1) := by decide +kernel
theorem dX8_form_5 : decode cX8_form 5 = .ok (.iaload, 1) := by decide +kernel
theorem dX8_form_6 : decode cX8_form 6 = .ok (.lookupswitch 72 #[(0, 26), (1, 42)], 26) := by decide +kernel
theorem dX8_form_32 : decode cX8_form 32 = .ok (.aload_n 0, 1) := by decide +kernel
theorem dX8_form_33 : decode cX8_form 33 = .ok (.getfield 23, 3) := by decide +kernel
theorem dX8_form_36 : decode cX8_form 36 = .ok (.iload_n 1, 1) := by decide +kernel
theorem dX8_form_37 : decode cX8_form 37 = .ok (.iaload, 1) := by decide +kernel
theorem dX8_form_38 : decode cX8_form 38 = .ok (.iload_n 2, 1) := by decide +kernel
theorem dX8_form_39 : decode cX8_form 39 = .ok (.if_icmp .ne 7, 3) := by decide +kernel
theorem dX8_form_42 : decode cX8_form 42 = .ok (.iconst 0, 1) := by decide +kernel
theorem dX8_form_43 : decode cX8_form 43 = .ok (.goto 4, 3) := by decide +kernel
theorem dX8_form_46 : decode cX8_form 46 = .ok (.iconst 1, 1) := by decide +kernel
theorem dX8_form_47 : decode cX8_form 47 = .ok (.ireturn, 1) := by decide +kernel
theorem dX8_form_48 : decode cX8_form 48 = .ok (.aload_n 0, 1) := by decide +kernel
theorem dX8_form_49 : decode cX8_form 49 = .ok (.getfield 26, 3) := by decide +kernel
theorem dX8_form_52 : decode cX8_form 52 = .ok (.iload_n 1, 1) := by decide +kernel
theorem dX8_form_53 : decode cX8_form 53 = .ok (.iaload, 1) := by decide +kernel
theorem dX8_form_54 : decode cX8_form 54 = .ok (.iload_n 2, 1) := by decide +kernel
theorem dX8_form_55 : decode cX8_form 55 = .ok (.if_icmp .ne 7, 3) := by decide +kernel
theorem dX8_form_58 : decode cX8_form 58 = .ok (.iconst 2, 1) := by decide +kernel
theorem dX8_form_59 : decode cX8_form 59 = .ok (.goto 18, 3) := by decide +kernel
theorem dX8_form_62 : decode cX8_form 62 = .ok (.aload_n 0, 1) := by decide +kernel
theorem dX8_form_63 : decode cX8_form 63 = .ok (.getfield 23, 3) := by decide +kernel
theorem dX8_form_66 : decode cX8_form 66 = .ok (.iload_n 1, 1) := by decide +kernel
theorem dX8_form_67 : decode cX8_form 67 = .ok (.iaload, 1) := by decide +kernel
theorem dX8_form_68 : decode cX8_form 68 = .ok (.iload_n 2, 1) := by decide +kernel
theorem dX8_form_69 : decode cX8_form 69 = .ok (.if_icmp .ne 7, 3) := by decide +kernel
theorem dX8_form_72 : decode cX8_form 72 = .ok (.iconst 3, 1) := by decide +kernel
theorem dX8_form_73 : decode cX8_form 73 = .ok (.goto 4, 3) := by decide +kernel
theorem dX8_form_76 : decode cX8_form 76 = .ok (.iconst 4, 1) := by decide +kernel
theorem dX8_form_77 : decode cX8_form 77 = .ok (.ireturn, 1) := by decide +kernel
theorem dX8_form_78 : decode cX8_form 78 = .ok (.iconst 5, 1) := by decide +kernel
theorem dX8_form_79 : decode cX8_form 79 = .ok (.ireturn, 1) := by decide +kernel
theorem dX8_branchBytes_0 : decode cX8_branchBytes 0 = .ok (.aload_n 0, 1) := by decide +kernel
theorem dX8_branchBytes_1 : decode cX8_branchBytes 1 = .ok (.getfield 63, 3) := by decide +kernel
theorem dX8_branchBytes_4 : decode cX8_branchBytes 4 = .ok (.iload_n 1, 1) := by decide +kernel
theorem dX8_branchBytes_5 : decode cX8_branchBytes 5 = .ok (.iaload, 1) := by decide +kernel
theorem dX8_branchBytes_6 : decode cX8_branchBytes 6 = .ok (.iconst 2, 1) := by decide +kernel
theorem dX8_branchBytes_7 : decode cX8_branchBytes 7 = .ok (.if_icmp .lt 13, 3) := by decide +kernel
theorem dX8_branchBytes_10 : decode cX8_branchBytes 10 = .ok (.aload_n 0, 1) := by decide +kernel
theorem dX8_branchBytes_11 : decode cX8_branchBytes 11 = .ok (.getfield 63, 3) := by decide +kernel
theorem dX8_branchBytes_14 : decode cX8_branchBytes 14 = .ok (.iload_n 1, 1) := by decide +kernel
theorem dX8_branchBytes_15 : decode cX8_branchBytes 15 = .ok (.iaload, 1) := by decide +kernel
theorem dX8_branchBytes_16 : decode cX8_branchBytes 16 = .ok (.iconst 4, 1) := by decide +kernel
theorem dX8_branchBytes_17 : decode cX8_branchBytes 17 = .ok (.if_icmp .le 7, 3) := by decide +kernel
theorem dX8_branchBytes_20 : decode cX8_branchBytes 20 = .ok (.iconst 0, 1) := by decide +kernel
theorem dX8_branchBytes_21 : decode cX8_branchBytes 21 = .ok (.goto 18, 3) := by decide +kernel
theorem dX8_branchBytes_24 : decode cX8_branchBytes 24 = .ok (.aload_n 0, 1) := by decide +kernel
theorem dX8_branchBytes_25 : decode cX8_branchBytes 25 = .ok (.getfield 66, 3) := by decide +kernel
theorem dX8_branchBytes_28 : decode cX8_branchBytes 28 = .ok (.iload_n 1, 1) := by decide +kernel
theorem dX8_branchBytes_29 : decode cX8_branchBytes 29 = .ok (.baload, 1) := by decide +kernel
theorem dX8_branchBytes_30 : decode cX8_branchBytes 30 = .ok (.ifCond .eq 8, 3) := by decide +kernel
theorem dX8_branchBytes_33 : decode cX8_branchBytes 33 = .ok (.bipush 6, 2) := by decide +kernel
theorem dX8_branchBytes_35 : decode cX8_branchBytes 35 = .ok (.goto 4, 3) := by decide +kernel
theorem dX8_branchBytes_38 : decode cX8_branchBytes 38 = .ok (.iconst 2, 1) := by decide +kernel
theorem dX8_branchBytes_39 : decode cX8_branchBytes 39 = .ok (.ireturn, 1) := by decide +kernel
theorem dX8_jumpBytes_0 : decode cX8_jumpBytes 0 = .ok (.aload_n 0, 1) := by decide +kernel
theorem dX8_jumpBytes_1 : decode cX8_jumpBytes 1 = .ok (.getfield 63, 3) := by decide +kernel
theorem dX8_jumpBytes_4 : decode cX8_jumpBytes 4 = .ok (.iload_n 1, 1) := by decide +kernel
theorem dX8_jumpBytes_5 : decode cX8_jumpBytes 5 = .ok (.iaload, 1) := by decide +kernel
theorem dX8_jumpBytes_6 : decode cX8_jumpBytes 6 = .ok (.iconst 1, 1) := by decide +kernel
theorem dX8_jumpBytes_7 : decode cX8_jumpBytes 7 = .ok (.if_icmp .eq 17, 3) := by decide +kernel
theorem dX8_jumpBytes_10 : decode cX8_jumpBytes 10 = .ok (.aload_n 0, 1) := by decide +kernel
theorem dX8_jumpBytes_11 : decode cX8_jumpBytes 11 = .ok (.getfield 63, 3) := by decide +kernel
theorem dX8_jumpBytes_14 : decode cX8_jumpBytes 14 = .ok (.iload_n 1, 1) := by decide +kernel
theorem dX8_jumpBytes_15 : decode cX8_jumpBytes 15 = .ok (.iaload, 1) := by decide +kernel
theorem dX8_jumpBytes_16 : decode cX8_jumpBytes 16 = .ok (.iconst 4, 1) := by decide +kernel
theorem dX8_jumpBytes_17 : decode cX8_jumpBytes 17 = .ok (.if_icmp .eq 7, 3) := by decide +kernel
theorem dX8_jumpBytes_20 : decode cX8_jumpBytes 20 = .ok (.iconst 0, 1) := by decide +kernel
theorem dX8_jumpBytes_21 : decode cX8_jumpBytes 21 = .ok (.goto 17, 3) := by decide +kernel
theorem dX8_jumpBytes_24 : decode cX8_jumpBytes 24 = .ok (.aload_n 0, 1) := by decide +kernel
theorem dX8_jumpBytes_25 : decode cX8_jumpBytes 25 = .ok (.getfield 69, 3) := by decide +kernel
theorem dX8_jumpBytes_28 : decode cX8_jumpBytes 28 = .ok (.iload_n 1, 1) := by decide +kernel
theorem dX8_jumpBytes_29 : decode cX8_jumpBytes 29 = .ok (.baload, 1) := by decide +kernel
theorem dX8_jumpBytes_30 : decode cX8_jumpBytes 30 = .ok (.ifCond .eq 7, 3) := by decide +kernel
theorem dX8_jumpBytes_33 : decode cX8_jumpBytes 33 = .ok (.iconst 5, 1) := by decide +kernel
theorem dX8_jumpBytes_34 : decode cX8_jumpBytes 34 = .ok (.goto 4, 3) := by decide +kernel
theorem dX8_jumpBytes_37 : decode cX8_jumpBytes 37 = .ok (.iconst 2, 1) := by decide +kernel
theorem dX8_jumpBytes_38 : decode cX8_jumpBytes 38 = .ok (.ireturn, 1) := by decide +kernel
theorem dX8_bytes_0 : decode cX8_bytes 0 = .ok (.aload_n 0, 1) := by decide +kernel
theorem dX8_bytes_1 : decode cX8_bytes 1 = .ok (.getfield 63, 3) := by decide +kernel
theorem dX8_bytes_4 : decode cX8_bytes 4 = .ok (.iload_n 1, 1) := by decide +kernel
theorem dX8_bytes_5 : decode cX8_bytes 5 = .ok (.iaload, 1) := by decide +kernel
theorem dX8_bytes_6 : decode cX8_bytes 6 = .ok (.iconst 5, 1) := by decide +kernel
theorem dX8_bytes_7 : decode cX8_bytes 7 = .ok (.if_icmp .ne 7, 3) := by decide +kernel
theorem dX8_bytes_10 : decode cX8_bytes 10 = .ok (.iconst 1, 1) := by decide +kernel
theorem dX8_bytes_11 : decode cX8_bytes 11 = .ok (.goto 14, 3) := by decide +kernel
theorem dX8_bytes_14 : decode cX8_bytes 14 = .ok (.aload_n 0, 1) := by decide +kernel
theorem dX8_bytes_15 : decode cX8_bytes 15 = .ok (.iload_n 1, 1) := by decide +kernel
theorem dX8_bytes_16 : decode cX8_bytes 16 = .ok (.invokevirtual 167, 3) := by decide +kernel
theorem dX8_bytes_19 : decode cX8_bytes 19 = .ok (.aload_n 0, 1) := by decide +kernel
theorem dX8_bytes_20 : decode cX8_bytes 20 = .ok (.iload_n 1, 1) := by decide +kernel
theorem dX8_bytes_21 : decode cX8_bytes 21 = .ok (.invokevirtual 170, 3) := by decide +kernel
theorem dX8_bytes_24 : decode cX8_bytes 24 = .ok (.iadd, 1) := by decide +kernel
theorem dX8_bytes_25 : decode cX8_bytes 25 = .ok (.ireturn, 1) := by decide +kernel
theorem dX8_lifted_0 : decode cX8_lifted 0 = .ok (.iload_n 0, 1) := by decide +kernel
theorem dX8_lifted_1 : decode cX8_lifted 1 = .ok (.iload_n 1, 1) := by decide +kernel
theorem dX8_lifted_2 : decode cX8_lifted 2 = .ok (.iadd, 1) := by decide +kernel
theorem dX8_lifted_3 : decode cX8_lifted 3 = .ok (.iconst 1, 1) := by decide +kernel
theorem dX8_lifted_4 : decode cX8_lifted 4 = .ok (.isub, 1) := by decide +kernel
theorem dX8_lifted_5 : decode cX8_lifted 5 = .ok (.iload_n 1, 1) := by decide +kernel
theorem dX8_lifted_6 : decode cX8_lifted 6 = .ok (.idiv, 1) := by decide +kernel
theorem dX8_lifted_7 : decode cX8_lifted 7 = .ok (.iload_n 1, 1) := by decide +kernel
theorem dX8_lifted_8 : decode cX8_lifted 8 = .ok (.imul, 1) := by decide +kernel
theorem dX8_lifted_9 : decode cX8_lifted 9 = .ok (.ireturn, 1) := by decide +kernel
theorem dX8_places_0 : decode cX8_places 0 = .ok (.iconst 0, 1) := by decide +kernel
theorem dX8_places_1 : decode cX8_places 1 = .ok (.istore_n 2, 1) := by decide +kernel
theorem dX8_places_2 : decode cX8_places 2 = .ok (.iconst 0, 1) := by decide +kernel
theorem dX8_places_3 : decode cX8_places 3 = .ok (.istore_n 3, 1) := by decide +kernel
theorem dX8_places_4 : decode cX8_places 4 = .ok (.iload_n 3, 1) := by decide +kernel
theorem dX8_places_5 : decode cX8_places 5 = .ok (.aload_n 0, 1) := by decide +kernel
theorem dX8_places_6 : decode cX8_places 6 = .ok (.getfield 106, 3) := by decide +kernel
theorem dX8_places_9 : decode cX8_places 9 = .ok (.if_icmp .ge 119, 3) := by decide +kernel
theorem dX8_places_12 : decode cX8_places 12 = .ok (.aload_n 0, 1) := by decide +kernel
theorem dX8_places_13 : decode cX8_places 13 = .ok (.getfield 41, 3) := by decide +kernel
theorem dX8_places_16 : decode cX8_places 16 = .ok (.iload_n 3, 1) := by decide +kernel
theorem dX8_places_17 : decode cX8_places 17 = .ok (.iaload, 1) := by decide +kernel
theorem dX8_places_18 : decode cX8_places 18 = .ok (.istore 4, 2) := by decide +kernel
theorem dX8_places_20 : decode cX8_places 20 = .ok (.iload_n 2, 1) := by decide +kernel
theorem dX8_places_21 : decode cX8_places 21 = .ok (.istore 5, 2) := by decide +kernel
theorem dX8_places_23 : decode cX8_places 23 = .ok (.iload_n 3, 1) := by decide +kernel
theorem dX8_places_24 : decode cX8_places 24 = .ok (.aload_n 0, 1) := by decide +kernel
theorem dX8_places_25 : decode cX8_places 25 = .ok (.getfield 113, 3) := by decide +kernel
theorem dX8_places_28 : decode cX8_places 28 = .ok (.if_icmp .ne 10, 3) := by decide +kernel
theorem dX8_places_31 : decode cX8_places 31 = .ok (.iload_n 2, 1) := by decide +kernel
theorem dX8_places_32 : decode cX8_places 32 = .ok (.bipush 64, 2) := by decide +kernel
theorem dX8_places_34 : decode cX8_places 34 = .ok (.invokestatic 173, 3) := by decide +kernel
theorem dX8_places_37 : decode cX8_places 37 = .ok (.istore_n 2, 1) := by decide +kernel
theorem dX8_places_38 : decode cX8_places 38 = .ok (.iload_n 1, 1) := by decide +kernel
theorem dX8_places_39 : decode cX8_places 39 = .ok (.iload 4, 2) := by decide +kernel
theorem dX8_places_41 : decode cX8_places 41 = .ok (.ishr, 1) := by decide +kernel
theorem dX8_places_42 : decode cX8_places 42 = .ok (.iconst 1, 1) := by decide +kernel
theorem dX8_places_43 : decode cX8_places 43 = .ok (.iand, 1) := by decide +kernel
theorem dX8_places_44 : decode cX8_places 44 = .ok (.iconst 1, 1) := by decide +kernel
theorem dX8_places_45 : decode cX8_places 45 = .ok (.if_icmp .ne 26, 3) := by decide +kernel
theorem dX8_places_48 : decode cX8_places 48 = .ok (.aload_n 0, 1) := by decide +kernel
theorem dX8_places_49 : decode cX8_places 49 = .ok (.getfield 32, 3) := by decide +kernel
theorem dX8_places_52 : decode cX8_places 52 = .ok (.iload 4, 2) := by decide +kernel
theorem dX8_places_54 : decode cX8_places 54 = .ok (.iaload, 1) := by decide +kernel
theorem dX8_places_55 : decode cX8_places 55 = .ok (.aload_n 0, 1) := by decide +kernel
theorem dX8_places_56 : decode cX8_places 56 = .ok (.getfield 13, 3) := by decide +kernel
theorem dX8_places_59 : decode cX8_places 59 = .ok (.if_icmp .lt 12, 3) := by decide +kernel
theorem dX8_places_62 : decode cX8_places 62 = .ok (.iload_n 2, 1) := by decide +kernel
theorem dX8_places_63 : decode cX8_places 63 = .ok (.aload_n 0, 1) := by decide +kernel
theorem dX8_places_64 : decode cX8_places 64 = .ok (.getfield 7, 3) := by decide +kernel
theorem dX8_places_67 : decode cX8_places 67 = .ok (.invokestatic 173, 3) := by decide +kernel
theorem dX8_places_70 : decode cX8_places 70 = .ok (.istore_n 2, 1) := by decide +kernel
theorem dX8_places_71 : decode cX8_places 71 = .ok (.aload_n 0, 1) := by decide +kernel
theorem dX8_places_72 : decode cX8_places 72 = .ok (.getfield 57, 3) := by decide +kernel
theorem dX8_places_75 : decode cX8_places 75 = .ok (.iload 4, 2) := by decide +kernel
theorem dX8_places_77 : decode cX8_places 77 = .ok (.iload_n 2, 1) := by decide +kernel
theorem dX8_places_78 : decode cX8_places 78 = .ok (.iastore, 1) := by decide +kernel
theorem dX8_places_79 : decode cX8_places 79 = .ok (.aload_n 0, 1) := by decide +kernel
theorem dX8_places_80 : decode cX8_places 80 = .ok (.getfield 60, 3) := by decide +kernel
theorem dX8_places_83 : decode cX8_places 83 = .ok (.iload 4, 2) := by decide +kernel
theorem dX8_places_85 : decode cX8_places 85 = .ok (.iload_n 2, 1) := by decide +kernel
theorem dX8_places_86 : decode cX8_places 86 = .ok (.iload 5, 2) := by decide +kernel
theorem dX8_places_88 : decode cX8_places 88 = .ok (.isub, 1) := by decide +kernel
theorem dX8_places_89 : decode cX8_places 89 = .ok (.iastore, 1) := by decide +kernel
theorem dX8_places_90 : decode cX8_places 90 = .ok (.iload_n 2, 1) := by decide +kernel
theorem dX8_places_91 : decode cX8_places 91 = .ok (.aload_n 0, 1) := by decide +kernel
theorem dX8_places_92 : decode cX8_places 92 = .ok (.getfield 16, 3) := by decide +kernel
theorem dX8_places_95 : decode cX8_places 95 = .ok (.iload 4, 2) := by decide +kernel
theorem dX8_places_97 : decode cX8_places 97 = .ok (.iaload, 1) := by decide +kernel
theorem dX8_places_98 : decode cX8_places 98 = .ok (.aload_n 0, 1) := by decide +kernel
theorem dX8_places_99 : decode cX8_places 99 = .ok (.iload 4, 2) := by decide +kernel
theorem dX8_places_101 : decode cX8_places 101 = .ok (.invokevirtual 176, 3) := by decide +kernel
theorem dX8_places_104 : decode cX8_places 104 = .ok (.iadd, 1) := by decide +kernel
theorem dX8_places_105 : decode cX8_places 105 = .ok (.iadd, 1) := by decide +kernel
theorem dX8_places_106 : decode cX8_places 106 = .ok (.istore_n 2, 1) := by decide +kernel
theorem dX8_places_107 : decode cX8_places 107 = .ok (.iload_n 3, 1) := by decide +kernel
theorem dX8_places_108 : decode cX8_places 108 = .ok (.aload_n 0, 1) := by decide +kernel
theorem dX8_places_109 : decode cX8_places 109 = .ok (.getfield 113, 3) := by decide +kernel
theorem dX8_places_112 : decode cX8_places 112 = .ok (.iconst 1, 1) := by decide +kernel
theorem dX8_places_113 : decode cX8_places 113 = .ok (.isub, 1) := by decide +kernel
theorem dX8_places_114 : decode cX8_places 114 = .ok (.if_icmp .ne 8, 3) := by decide +kernel
theorem dX8_places_117 : decode cX8_places 117 = .ok (.aload_n 0, 1) := by decide +kernel
theorem dX8_places_118 : decode cX8_places 118 = .ok (.iload_n 2, 1) := by decide +kernel
theorem dX8_places_119 : decode cX8_places 119 = .ok (.putfield 179, 3) := by decide +kernel
theorem dX8_places_122 : decode cX8_places 122 = .ok (.iinc 3 1, 3) := by decide +kernel
theorem dX8_places_125 : decode cX8_places 125 = .ok (.goto (-121), 3) := by decide +kernel
theorem dX8_places_128 : decode cX8_places 128 = .ok (.aload_n 0, 1) := by decide +kernel
theorem dX8_places_129 : decode cX8_places 129 = .ok (.iload_n 2, 1) := by decide +kernel
theorem dX8_places_130 : decode cX8_places 130 = .ok (.putfield 182, 3) := by decide +kernel
theorem dX8_places_133 : decode cX8_places 133 = .ok (.return_, 1) := by decide +kernel
theorem dX8_isFar_0 : decode cX8_isFar 0 = .ok (.iload_n 1, 1) := by decide +kernel
theorem dX8_isFar_1 : decode cX8_isFar 1 = .ok (.iload_n 0, 1) := by decide +kernel
theorem dX8_isFar_2 : decode cX8_isFar 2 = .ok (.isub, 1) := by decide +kernel
theorem dX8_isFar_3 : decode cX8_isFar 3 = .ok (.bipush (-128), 2) := by decide +kernel
theorem dX8_isFar_5 : decode cX8_isFar 5 = .ok (.bipush 127, 2) := by decide +kernel
theorem dX8_isFar_7 : decode cX8_isFar 7 = .ok (.invokestatic 109, 3) := by decide +kernel
theorem dX8_isFar_10 : decode cX8_isFar 10 = .ok (.ifCond .ne 7, 3) := by decide +kernel
theorem dX8_isFar_13 : decode cX8_isFar 13 = .ok (.iconst 1, 1) := by decide +kernel
theorem dX8_isFar_14 : decode cX8_isFar 14 = .ok (.goto 4, 3) := by decide +kernel
theorem dX8_isFar_17 : decode cX8_isFar 17 = .ok (.iconst 0, 1) := by decide +kernel
theorem dX8_isFar_18 : decode cX8_isFar 18 = .ok (.ireturn, 1) := by decide +kernel
theorem dX8_widens_0 : decode cX8_widens 0 = .ok (.iconst 0, 1) := by decide +kernel
theorem dX8_widens_1 : decode cX8_widens 1 = .ok (.istore_n 1, 1) := by decide +kernel
theorem dX8_widens_2 : decode cX8_widens 2 = .ok (.iconst 0, 1) := by decide +kernel
theorem dX8_widens_3 : decode cX8_widens 3 = .ok (.istore_n 2, 1) := by decide +kernel
theorem dX8_widens_4 : decode cX8_widens 4 = .ok (.iload_n 2, 1) := by decide +kernel
theorem dX8_widens_5 : decode cX8_widens 5 = .ok (.aload_n 0, 1) := by decide +kernel
theorem dX8_widens_6 : decode cX8_widens 6 = .ok (.getfield 106, 3) := by decide +kernel
theorem dX8_widens_9 : decode cX8_widens 9 = .ok (.if_icmp .ge 193, 3) := by decide +kernel
theorem dX8_widens_12 : decode cX8_widens 12 = .ok (.aload_n 0, 1) := by decide +kernel
theorem dX8_widens_13 : decode cX8_widens 13 = .ok (.getfield 57, 3) := by decide +kernel
theorem dX8_widens_16 : decode cX8_widens 16 = .ok (.iload_n 2, 1) := by decide +kernel
theorem dX8_widens_17 : decode cX8_widens 17 = .ok (.iaload, 1) := by decide +kernel
theorem dX8_widens_18 : decode cX8_widens 18 = .ok (.aload_n 0, 1) := by decide +kernel
theorem dX8_widens_19 : decode cX8_widens 19 = .ok (.getfield 16, 3) := by decide +kernel
theorem dX8_widens_22 : decode cX8_widens 22 = .ok (.iload_n 2, 1) := by decide +kernel
theorem dX8_widens_23 : decode cX8_widens 23 = .ok (.iaload, 1) := by decide +kernel
theorem dX8_widens_24 : decode cX8_widens 24 = .ok (.iadd, 1) := by decide +kernel
theorem dX8_widens_25 : decode cX8_widens 25 = .ok (.aload_n 0, 1) := by decide +kernel
theorem dX8_widens_26 : decode cX8_widens 26 = .ok (.iload_n 2, 1) := by decide +kernel
theorem dX8_widens_27 : decode cX8_widens 27 = .ok (.invokevirtual 167, 3) := by decide +kernel
theorem dX8_widens_30 : decode cX8_widens 30 = .ok (.iadd, 1) := by decide +kernel
theorem dX8_widens_31 : decode cX8_widens 31 = .ok (.istore_n 3, 1) := by decide +kernel
theorem dX8_widens_32 : decode cX8_widens 32 = .ok (.iload_n 3, 1) := by decide +kernel
theorem dX8_widens_33 : decode cX8_widens 33 = .ok (.aload_n 0, 1) := by decide +kernel
theorem dX8_widens_34 : decode cX8_widens 34 = .ok (.iload_n 2, 1) := by decide +kernel
theorem dX8_widens_35 : decode cX8_widens 35 = .ok (.invokevirtual 170, 3) := by decide +kernel
theorem dX8_widens_38 : decode cX8_widens 38 = .ok (.iadd, 1) := by decide +kernel
theorem dX8_widens_39 : decode cX8_widens 39 = .ok (.istore 4, 2) := by decide +kernel
theorem dX8_widens_41 : decode cX8_widens 41 = .ok (.aload_n 0, 1) := by decide +kernel
theorem dX8_widens_42 : decode cX8_widens 42 = .ok (.getfield 63, 3) := by decide +kernel
theorem dX8_widens_45 : decode cX8_widens 45 = .ok (.iload_n 2, 1) := by decide +kernel
theorem dX8_widens_46 : decode cX8_widens 46 = .ok (.iaload, 1) := by decide +kernel
theorem dX8_widens_47 : decode cX8_widens 47 = .ok (.iconst 3, 1) := by decide +kernel
theorem dX8_widens_48 : decode cX8_widens 48 = .ok (.if_icmp .ne 12, 3) := by decide +kernel
theorem dX8_widens_51 : decode cX8_widens 51 = .ok (.aload_n 0, 1) := by decide +kernel
theorem dX8_widens_52 : decode cX8_widens 52 = .ok (.getfield 26, 3) := by decide +kernel
theorem dX8_widens_55 : decode cX8_widens 55 = .ok (.iload_n 2, 1) := by decide +kernel
theorem dX8_widens_56 : decode cX8_widens 56 = .ok (.iaload, 1) := by decide +kernel
theorem dX8_widens_57 : decode cX8_widens 57 = .ok (.goto 9, 3) := by decide +kernel
theorem dX8_widens_60 : decode cX8_widens 60 = .ok (.aload_n 0, 1) := by decide +kernel
theorem dX8_widens_61 : decode cX8_widens 61 = .ok (.getfield 23, 3) := by decide +kernel
theorem dX8_widens_64 : decode cX8_widens 64 = .ok (.iload_n 2, 1) := by decide +kernel
theorem dX8_widens_65 : decode cX8_widens 65 = .ok (.iaload, 1) := by decide +kernel
theorem dX8_widens_66 : decode cX8_widens 66 = .ok (.istore 5, 2) := by decide +kernel
theorem dX8_widens_68 : decode cX8_widens 68 = .ok (.aload_n 0, 1) := by decide +kernel
theorem dX8_widens_69 : decode cX8_widens 69 = .ok (.getfield 63, 3) := by decide +kernel
theorem dX8_widens_72 : decode cX8_widens 72 = .ok (.iload_n 2, 1) := by decide +kernel
theorem dX8_widens_73 : decode cX8_widens 73 = .ok (.iaload, 1) := by decide +kernel
theorem dX8_widens_74 : decode cX8_widens 74 = .ok (.iconst 1, 1) := by decide +kernel
theorem dX8_widens_75 : decode cX8_widens 75 = .ok (.if_icmp .ne 12, 3) := by decide +kernel
theorem dX8_widens_78 : decode cX8_widens 78 = .ok (.aload_n 0, 1) := by decide +kernel
theorem dX8_widens_79 : decode cX8_widens 79 = .ok (.getfield 23, 3) := by decide +kernel
theorem dX8_widens_82 : decode cX8_widens 82 = .ok (.iload_n 2, 1) := by decide +kernel
theorem dX8_widens_83 : decode cX8_widens 83 = .ok (.iaload, 1) := by decide +kernel
theorem dX8_widens_84 : decode cX8_widens 84 = .ok (.goto 9, 3) := by decide +kernel
theorem dX8_widens_87 : decode cX8_widens 87 = .ok (.aload_n 0, 1) := by decide +kernel
theorem dX8_widens_88 : decode cX8_widens 88 = .ok (.getfield 26, 3) := by decide +kernel
theorem dX8_widens_91 : decode cX8_widens 91 = .ok (.iload_n 2, 1) := by decide +kernel
theorem dX8_widens_92 : decode cX8_widens 92 = .ok (.iaload, 1) := by decide +kernel
theorem dX8_widens_93 : decode cX8_widens 93 = .ok (.istore 6, 2) := by decide +kernel
theorem dX8_widens_95 : decode cX8_widens 95 = .ok (.aload_n 0, 1) := by decide +kernel
theorem dX8_widens_96 : decode cX8_widens 96 = .ok (.iload_n 2, 1) := by decide +kernel
theorem dX8_widens_97 : decode cX8_widens 97 = .ok (.invokevirtual 167, 3) := by decide +kernel
theorem dX8_widens_100 : decode cX8_widens 100 = .ok (.iconst 2, 1) := by decide +kernel
theorem dX8_widens_101 : decode cX8_widens 101 = .ok (.if_icmp .ne 21, 3) := by decide +kernel
theorem dX8_widens_104 : decode cX8_widens 104 = .ok (.iload_n 3, 1) := by decide +kernel
theorem dX8_widens_105 : decode cX8_widens 105 = .ok (.aload_n 0, 1) := by decide +kernel
theorem dX8_widens_106 : decode cX8_widens 106 = .ok (.getfield 57, 3) := by decide +kernel
theorem dX8_widens_109 : decode cX8_widens 109 = .ok (.iload 5, 2) := by decide +kernel
theorem dX8_widens_111 : decode cX8_widens 111 = .ok (.iaload, 1) := by decide +kernel
theorem dX8_widens_112 : decode cX8_widens 112 = .ok (.invokestatic 185, 3) := by decide +kernel
theorem dX8_widens_115 : decode cX8_widens 115 = .ok (.ifCond .eq 7, 3) := by decide +kernel
theorem dX8_widens_118 : decode cX8_widens 118 = .ok (.iconst 1, 1) := by decide +kernel
theorem dX8_widens_119 : decode cX8_widens 119 = .ok (.goto 4, 3) := by decide +kernel
theorem dX8_widens_122 : decode cX8_widens 122 = .ok (.iconst 0, 1) := by decide +kernel
theorem dX8_widens_123 : decode cX8_widens 123 = .ok (.istore 7, 2) := by decide +kernel
theorem dX8_widens_125 : decode cX8_widens 125 = .ok (.aload_n 0, 1) := by decide +kernel
theorem dX8_widens_126 : decode cX8_widens 126 = .ok (.iload_n 2, 1) := by decide +kernel
theorem dX8_widens_127 : decode cX8_widens 127 = .ok (.invokevirtual 170, 3) := by decide +kernel
theorem dX8_widens_130 : decode cX8_widens 130 = .ok (.iconst 2, 1) := by decide +kernel
theorem dX8_widens_131 : decode cX8_widens 131 = .ok (.if_icmp .ne 22, 3) := by decide +kernel
theorem dX8_widens_134 : decode cX8_widens 134 = .ok (.iload 4, 2) := by decide +kernel
theorem dX8_widens_136 : decode cX8_widens 136 = .ok (.aload_n 0, 1) := by decide +kernel
theorem dX8_widens_137 : decode cX8_widens 137 = .ok (.getfield 57, 3) := by decide +kernel
theorem dX8_widens_140 : decode cX8_widens 140 = .ok (.iload 6, 2) := by decide +kernel
theorem dX8_widens_142 : decode cX8_widens 142 = .ok (.iaload, 1) := by decide +kernel
theorem dX8_widens_143 : decode cX8_widens 143 = .ok (.invokestatic 185, 3) := by decide +kernel
theorem dX8_widens_146 : decode cX8_widens 146 = .ok (.ifCond .eq 7, 3) := by decide +kernel
theorem dX8_widens_149 : decode cX8_widens 149 = .ok (.iconst 1, 1) := by decide +kernel
theorem dX8_widens_150 : decode cX8_widens 150 = .ok (.goto 4, 3) := by decide +kernel
theorem dX8_widens_153 : decode cX8_widens 153 = .ok (.iconst 0, 1) := by decide +kernel
theorem dX8_widens_154 : decode cX8_widens 154 = .ok (.istore 8, 2) := by decide +kernel
theorem dX8_widens_156 : decode cX8_widens 156 = .ok (.aload_n 0, 1) := by decide +kernel
theorem dX8_widens_157 : decode cX8_widens 157 = .ok (.getfield 66, 3) := by decide +kernel
theorem dX8_widens_160 : decode cX8_widens 160 = .ok (.iload_n 2, 1) := by decide +kernel
theorem dX8_widens_161 : decode cX8_widens 161 = .ok (.dup2, 1) := by decide +kernel
theorem dX8_widens_162 : decode cX8_widens 162 = .ok (.baload, 1) := by decide +kernel
theorem dX8_widens_163 : decode cX8_widens 163 = .ok (.iload 7, 2) := by decide +kernel
theorem dX8_widens_165 : decode cX8_widens 165 = .ok (.ior, 1) := by decide +kernel
theorem dX8_widens_166 : decode cX8_widens 166 = .ok (.bastore, 1) := by decide +kernel
theorem dX8_widens_167 : decode cX8_widens 167 = .ok (.aload_n 0, 1) := by decide +kernel
theorem dX8_widens_168 : decode cX8_widens 168 = .ok (.getfield 69, 3) := by decide +kernel
theorem dX8_widens_171 : decode cX8_widens 171 = .ok (.iload_n 2, 1) := by decide +kernel
theorem dX8_widens_172 : decode cX8_widens 172 = .ok (.dup2, 1) := by decide +kernel
theorem dX8_widens_173 : decode cX8_widens 173 = .ok (.baload, 1) := by decide +kernel
theorem dX8_widens_174 : decode cX8_widens 174 = .ok (.iload 8, 2) := by decide +kernel
theorem dX8_widens_176 : decode cX8_widens 176 = .ok (.ior, 1) := by decide +kernel
theorem dX8_widens_177 : decode cX8_widens 177 = .ok (.bastore, 1) := by decide +kernel
theorem dX8_widens_178 : decode cX8_widens 178 = .ok (.iload_n 1, 1) := by decide +kernel
theorem dX8_widens_179 : decode cX8_widens 179 = .ok (.iload 7, 2) := by decide +kernel
theorem dX8_widens_181 : decode cX8_widens 181 = .ok (.ifCond .ne 8, 3) := by decide +kernel
theorem dX8_widens_184 : decode cX8_widens 184 = .ok (.iload 8, 2) := by decide +kernel
theorem dX8_widens_186 : decode cX8_widens 186 = .ok (.ifCond .eq 7, 3) := by decide +kernel
theorem dX8_widens_189 : decode cX8_widens 189 = .ok (.iconst 1, 1) := by decide +kernel
theorem dX8_widens_190 : decode cX8_widens 190 = .ok (.goto 4, 3) := by decide +kernel
theorem dX8_widens_193 : decode cX8_widens 193 = .ok (.iconst 0, 1) := by decide +kernel
theorem dX8_widens_194 : decode cX8_widens 194 = .ok (.ior, 1) := by decide +kernel
theorem dX8_widens_195 : decode cX8_widens 195 = .ok (.istore_n 1, 1) := by decide +kernel
theorem dX8_widens_196 : decode cX8_widens 196 = .ok (.iinc 2 1, 3) := by decide +kernel
theorem dX8_widens_199 : decode cX8_widens 199 = .ok (.goto (-195), 3) := by decide +kernel
theorem dX8_widens_202 : decode cX8_widens 202 = .ok (.iload_n 1, 1) := by decide +kernel
theorem dX8_widens_203 : decode cX8_widens 203 = .ok (.ireturn, 1) := by decide +kernel
theorem dX8_lays_0 : decode cX8_lays 0 = .ok (.iconst 0, 1) := by decide +kernel
theorem dX8_lays_1 : decode cX8_lays 1 = .ok (.istore_n 1, 1) := by decide +kernel
theorem dX8_lays_2 : decode cX8_lays 2 = .ok (.iconst 0, 1) := by decide +kernel
theorem dX8_lays_3 : decode cX8_lays 3 = .ok (.istore_n 2, 1) := by decide +kernel
theorem dX8_lays_4 : decode cX8_lays 4 = .ok (.iload_n 2, 1) := by decide +kernel
theorem dX8_lays_5 : decode cX8_lays 5 = .ok (.aload_n 0, 1) := by decide +kernel
theorem dX8_lays_6 : decode cX8_lays 6 = .ok (.getfield 106, 3) := by decide +kernel
theorem dX8_lays_9 : decode cX8_lays 9 = .ok (.if_icmp .ge 57, 3) := by decide +kernel
theorem dX8_lays_12 : decode cX8_lays 12 = .ok (.aload_n 0, 1) := by decide +kernel
theorem dX8_lays_13 : decode cX8_lays 13 = .ok (.getfield 63, 3) := by decide +kernel
theorem dX8_lays_16 : decode cX8_lays 16 = .ok (.iload_n 2, 1) := by decide +kernel
theorem dX8_lays_17 : decode cX8_lays 17 = .ok (.aload_n 0, 1) := by decide +kernel
theorem dX8_lays_18 : decode cX8_lays 18 = .ok (.iload_n 2, 1) := by decide +kernel
theorem dX8_lays_19 : decode cX8_lays 19 = .ok (.aload_n 0, 1) := by decide +kernel
theorem dX8_lays_20 : decode cX8_lays 20 = .ok (.iload_n 2, 1) := by decide +kernel
theorem dX8_lays_21 : decode cX8_lays 21 = .ok (.invokevirtual 153, 3) := by decide +kernel
theorem dX8_lays_24 : decode cX8_lays 24 = .ok (.invokevirtual 156, 3) := by decide +kernel
theorem dX8_lays_27 : decode cX8_lays 27 = .ok (.iastore, 1) := by decide +kernel
theorem dX8_lays_28 : decode cX8_lays 28 = .ok (.aload_n 0, 1) := by decide +kernel
theorem dX8_lays_29 : decode cX8_lays 29 = .ok (.getfield 66, 3) := by decide +kernel
theorem dX8_lays_32 : decode cX8_lays 32 = .ok (.iload_n 2, 1) := by decide +kernel
theorem dX8_lays_33 : decode cX8_lays 33 = .ok (.iconst 0, 1) := by decide +kernel
theorem dX8_lays_34 : decode cX8_lays 34 = .ok (.bastore, 1) := by decide +kernel
theorem dX8_lays_35 : decode cX8_lays 35 = .ok (.aload_n 0, 1) := by decide +kernel
theorem dX8_lays_36 : decode cX8_lays 36 = .ok (.getfield 69, 3) := by decide +kernel
theorem dX8_lays_39 : decode cX8_lays 39 = .ok (.iload_n 2, 1) := by decide +kernel
theorem dX8_lays_40 : decode cX8_lays 40 = .ok (.iconst 0, 1) := by decide +kernel
theorem dX8_lays_41 : decode cX8_lays 41 = .ok (.bastore, 1) := by decide +kernel
theorem dX8_lays_42 : decode cX8_lays 42 = .ok (.iload_n 1, 1) := by decide +kernel
theorem dX8_lays_43 : decode cX8_lays 43 = .ok (.aload_n 0, 1) := by decide +kernel
theorem dX8_lays_44 : decode cX8_lays 44 = .ok (.iload_n 2, 1) := by decide +kernel
theorem dX8_lays_45 : decode cX8_lays 45 = .ok (.invokevirtual 127, 3) := by decide +kernel
theorem dX8_lays_48 : decode cX8_lays 48 = .ok (.ifCond .eq 9, 3) := by decide +kernel
theorem dX8_lays_51 : decode cX8_lays 51 = .ok (.iconst 1, 1) := by decide +kernel
theorem dX8_lays_52 : decode cX8_lays 52 = .ok (.iload_n 2, 1) := by decide +kernel
theorem dX8_lays_53 : decode cX8_lays 53 = .ok (.ishl, 1) := by decide +kernel
theorem dX8_lays_54 : decode cX8_lays 54 = .ok (.goto 4, 3) := by decide +kernel
theorem dX8_lays_57 : decode cX8_lays 57 = .ok (.iconst 0, 1) := by decide +kernel
theorem dX8_lays_58 : decode cX8_lays 58 = .ok (.ior, 1) := by decide +kernel
theorem dX8_lays_59 : decode cX8_lays 59 = .ok (.istore_n 1, 1) := by decide +kernel
theorem dX8_lays_60 : decode cX8_lays 60 = .ok (.iinc 2 1, 3) := by decide +kernel
theorem dX8_lays_63 : decode cX8_lays 63 = .ok (.goto (-59), 3) := by decide +kernel
theorem dX8_lays_66 : decode cX8_lays 66 = .ok (.aload_n 0, 1) := by decide +kernel
theorem dX8_lays_67 : decode cX8_lays 67 = .ok (.iload_n 1, 1) := by decide +kernel
theorem dX8_lays_68 : decode cX8_lays 68 = .ok (.invokevirtual 188, 3) := by decide +kernel
theorem dX8_lays_71 : decode cX8_lays 71 = .ok (.aload_n 0, 1) := by decide +kernel
theorem dX8_lays_72 : decode cX8_lays 72 = .ok (.invokevirtual 191, 3) := by decide +kernel
theorem dX8_lays_75 : decode cX8_lays 75 = .ok (.ifCond .ne (-9), 3) := by decide +kernel
theorem dX8_lays_78 : decode cX8_lays 78 = .ok (.return_, 1) := by decide +kernel
theorem dX8_cost_0 : decode cX8_cost 0 = .ok (.aload_n 0, 1) := by decide +kernel
theorem dX8_cost_1 : decode cX8_cost 1 = .ok (.iload_n 1, 1) := by decide +kernel
theorem dX8_cost_2 : decode cX8_cost 2 = .ok (.iload_n 2, 1) := by decide +kernel
theorem dX8_cost_3 : decode cX8_cost 3 = .ok (.invokevirtual 156, 3) := by decide +kernel
theorem dX8_cost_6 : decode cX8_cost 6 = .ok (.tableswitch 89 1 4 #[30, 39, 55, 71], 30) := by decide +kernel
theorem dX8_cost_36 : decode cX8_cost 36 = .ok (.iconst 2, 1) := by decide +kernel
theorem dX8_cost_37 : decode cX8_cost 37 = .ok (.aload_n 0, 1) := by decide +kernel
theorem dX8_cost_38 : decode cX8_cost 38 = .ok (.getfield 35, 3) := by decide +kernel
theorem dX8_cost_41 : decode cX8_cost 41 = .ok (.iload_n 1, 1) := by decide +kernel
theorem dX8_cost_42 : decode cX8_cost 42 = .ok (.iaload, 1) := by decide +kernel
theorem dX8_cost_43 : decode cX8_cost 43 = .ok (.imul, 1) := by decide +kernel
theorem dX8_cost_44 : decode cX8_cost 44 = .ok (.ireturn, 1) := by decide +kernel
theorem dX8_cost_45 : decode cX8_cost 45 = .ok (.iconst 3, 1) := by decide +kernel
theorem dX8_cost_46 : decode cX8_cost 46 = .ok (.aload_n 0, 1) := by decide +kernel
theorem dX8_cost_47 : decode cX8_cost 47 = .ok (.getfield 35, 3) := by decide +kernel
theorem dX8_cost_50 : decode cX8_cost 50 = .ok (.iload_n 1, 1) := by decide +kernel
theorem dX8_cost_51 : decode cX8_cost 51 = .ok (.iaload, 1) := by decide +kernel
theorem dX8_cost_52 : decode cX8_cost 52 = .ok (.imul, 1) := by decide +kernel
theorem dX8_cost_53 : decode cX8_cost 53 = .ok (.aload_n 0, 1) := by decide +kernel
theorem dX8_cost_54 : decode cX8_cost 54 = .ok (.getfield 38, 3) := by decide +kernel
theorem dX8_cost_57 : decode cX8_cost 57 = .ok (.iload_n 1, 1) := by decide +kernel
theorem dX8_cost_58 : decode cX8_cost 58 = .ok (.iaload, 1) := by decide +kernel
theorem dX8_cost_59 : decode cX8_cost 59 = .ok (.iadd, 1) := by decide +kernel
theorem dX8_cost_60 : decode cX8_cost 60 = .ok (.ireturn, 1) := by decide +kernel
theorem dX8_cost_61 : decode cX8_cost 61 = .ok (.aload_n 0, 1) := by decide +kernel
theorem dX8_cost_62 : decode cX8_cost 62 = .ok (.getfield 35, 3) := by decide +kernel
theorem dX8_cost_65 : decode cX8_cost 65 = .ok (.iload_n 1, 1) := by decide +kernel
theorem dX8_cost_66 : decode cX8_cost 66 = .ok (.iaload, 1) := by decide +kernel
theorem dX8_cost_67 : decode cX8_cost 67 = .ok (.iconst 3, 1) := by decide +kernel
theorem dX8_cost_68 : decode cX8_cost 68 = .ok (.aload_n 0, 1) := by decide +kernel
theorem dX8_cost_69 : decode cX8_cost 69 = .ok (.getfield 38, 3) := by decide +kernel
theorem dX8_cost_72 : decode cX8_cost 72 = .ok (.iload_n 1, 1) := by decide +kernel
theorem dX8_cost_73 : decode cX8_cost 73 = .ok (.iaload, 1) := by decide +kernel
theorem dX8_cost_74 : decode cX8_cost 74 = .ok (.imul, 1) := by decide +kernel
theorem dX8_cost_75 : decode cX8_cost 75 = .ok (.iadd, 1) := by decide +kernel
theorem dX8_cost_76 : decode cX8_cost 76 = .ok (.ireturn, 1) := by decide +kernel
theorem dX8_cost_77 : decode cX8_cost 77 = .ok (.iconst 3, 1) := by decide +kernel
theorem dX8_cost_78 : decode cX8_cost 78 = .ok (.aload_n 0, 1) := by decide +kernel
theorem dX8_cost_79 : decode cX8_cost 79 = .ok (.getfield 35, 3) := by decide +kernel
theorem dX8_cost_82 : decode cX8_cost 82 = .ok (.iload_n 1, 1) := by decide +kernel
theorem dX8_cost_83 : decode cX8_cost 83 = .ok (.iaload, 1) := by decide +kernel
theorem dX8_cost_84 : decode cX8_cost 84 = .ok (.imul, 1) := by decide +kernel
theorem dX8_cost_85 : decode cX8_cost 85 = .ok (.iconst 3, 1) := by decide +kernel
theorem dX8_cost_86 : decode cX8_cost 86 = .ok (.aload_n 0, 1) := by decide +kernel
theorem dX8_cost_87 : decode cX8_cost 87 = .ok (.getfield 38, 3) := by decide +kernel
theorem dX8_cost_90 : decode cX8_cost 90 = .ok (.iload_n 1, 1) := by decide +kernel
theorem dX8_cost_91 : decode cX8_cost 91 = .ok (.iaload, 1) := by decide +kernel
theorem dX8_cost_92 : decode cX8_cost 92 = .ok (.imul, 1) := by decide +kernel
theorem dX8_cost_93 : decode cX8_cost 93 = .ok (.iadd, 1) := by decide +kernel
theorem dX8_cost_94 : decode cX8_cost 94 = .ok (.ireturn, 1) := by decide +kernel
theorem dX8_cost_95 : decode cX8_cost 95 = .ok (.iconst 0, 1) := by decide +kernel
theorem dX8_cost_96 : decode cX8_cost 96 = .ok (.ireturn, 1) := by decide +kernel
theorem dX8_costs_0 : decode cX8_costs 0 = .ok (.iconst 0, 1) := by decide +kernel
theorem dX8_costs_1 : decode cX8_costs 1 = .ok (.istore_n 2, 1) := by decide +kernel
theorem dX8_costs_2 : decode cX8_costs 2 = .ok (.iconst 0, 1) := by decide +kernel
theorem dX8_costs_3 : decode cX8_costs 3 = .ok (.istore_n 3, 1) := by decide +kernel
theorem dX8_costs_4 : decode cX8_costs 4 = .ok (.iload_n 3, 1) := by decide +kernel
theorem dX8_costs_5 : decode cX8_costs 5 = .ok (.iload_n 1, 1) := by decide +kernel
theorem dX8_costs_6 : decode cX8_costs 6 = .ok (.if_icmp .ge 32, 3) := by decide +kernel
theorem dX8_costs_9 : decode cX8_costs 9 = .ok (.iload_n 2, 1) := by decide +kernel
theorem dX8_costs_10 : decode cX8_costs 10 = .ok (.aload_n 0, 1) := by decide +kernel
theorem dX8_costs_11 : decode cX8_costs 11 = .ok (.aload_n 0, 1) := by decide +kernel
theorem dX8_costs_12 : decode cX8_costs 12 = .ok (.getfield 41, 3) := by decide +kernel
theorem dX8_costs_15 : decode cX8_costs 15 = .ok (.iload_n 3, 1) := by decide +kernel
theorem dX8_costs_16 : decode cX8_costs 16 = .ok (.iaload, 1) := by decide +kernel
theorem dX8_costs_17 : decode cX8_costs 17 = .ok (.aload_n 0, 1) := by decide +kernel
theorem dX8_costs_18 : decode cX8_costs 18 = .ok (.aload_n 0, 1) := by decide +kernel
theorem dX8_costs_19 : decode cX8_costs 19 = .ok (.getfield 41, 3) := by decide +kernel
theorem dX8_costs_22 : decode cX8_costs 22 = .ok (.iload_n 3, 1) := by decide +kernel
theorem dX8_costs_23 : decode cX8_costs 23 = .ok (.iaload, 1) := by decide +kernel
theorem dX8_costs_24 : decode cX8_costs 24 = .ok (.invokevirtual 153, 3) := by decide +kernel
theorem dX8_costs_27 : decode cX8_costs 27 = .ok (.invokevirtual 195, 3) := by decide +kernel
theorem dX8_costs_30 : decode cX8_costs 30 = .ok (.iadd, 1) := by decide +kernel
theorem dX8_costs_31 : decode cX8_costs 31 = .ok (.istore_n 2, 1) := by decide +kernel
theorem dX8_costs_32 : decode cX8_costs 32 = .ok (.iinc 3 1, 3) := by decide +kernel
theorem dX8_costs_35 : decode cX8_costs 35 = .ok (.goto (-31), 3) := by decide +kernel
theorem dX8_costs_38 : decode cX8_costs 38 = .ok (.iload_n 2, 1) := by decide +kernel
theorem dX8_costs_39 : decode cX8_costs 39 = .ok (.ireturn, 1) := by decide +kernel
theorem dX8_keeps_0 : decode cX8_keeps 0 = .ok (.aload_n 0, 1) := by decide +kernel
theorem dX8_keeps_1 : decode cX8_keeps 1 = .ok (.getfield 116, 3) := by decide +kernel
theorem dX8_keeps_4 : decode cX8_keeps 4 = .ok (.bipush 10, 2) := by decide +kernel
theorem dX8_keeps_6 : decode cX8_keeps 6 = .ok (.if_icmp .ne 93, 3) := by decide +kernel
theorem dX8_keeps_9 : decode cX8_keeps 9 = .ok (.iconst 1, 1) := by decide +kernel
theorem dX8_keeps_10 : decode cX8_keeps 10 = .ok (.istore_n 1, 1) := by decide +kernel
theorem dX8_keeps_11 : decode cX8_keeps 11 = .ok (.iload_n 1, 1) := by decide +kernel
theorem dX8_keeps_12 : decode cX8_keeps 12 = .ok (.bipush 10, 2) := by decide +kernel
theorem dX8_keeps_14 : decode cX8_keeps 14 = .ok (.if_icmp .ge 75, 3) := by decide +kernel
theorem dX8_keeps_17 : decode cX8_keeps 17 = .ok (.aload_n 0, 1) := by decide +kernel
theorem dX8_keeps_18 : decode cX8_keeps 18 = .ok (.getfield 75, 3) := by decide +kernel
theorem dX8_keeps_21 : decode cX8_keeps 21 = .ok (.iload_n 1, 1) := by decide +kernel
theorem dX8_keeps_22 : decode cX8_keeps 22 = .ok (.iconst 1, 1) := by decide +kernel
theorem dX8_keeps_23 : decode cX8_keeps 23 = .ok (.isub, 1) := by decide +kernel
theorem dX8_keeps_24 : decode cX8_keeps 24 = .ok (.aload_n 0, 1) := by decide +kernel
theorem dX8_keeps_25 : decode cX8_keeps 25 = .ok (.getfield 75, 3) := by decide +kernel
theorem dX8_keeps_28 : decode cX8_keeps 28 = .ok (.iload_n 1, 1) := by decide +kernel
theorem dX8_keeps_29 : decode cX8_keeps 29 = .ok (.iaload, 1) := by decide +kernel
theorem dX8_keeps_30 : decode cX8_keeps 30 = .ok (.iastore, 1) := by decide +kernel
theorem dX8_keeps_31 : decode cX8_keeps 31 = .ok (.aload_n 0, 1) := by decide +kernel
theorem dX8_keeps_32 : decode cX8_keeps 32 = .ok (.getfield 78, 3) := by decide +kernel
theorem dX8_keeps_35 : decode cX8_keeps 35 = .ok (.iload_n 1, 1) := by decide +kernel
theorem dX8_keeps_36 : decode cX8_keeps 36 = .ok (.iconst 1, 1) := by decide +kernel
theorem dX8_keeps_37 : decode cX8_keeps 37 = .ok (.isub, 1) := by decide +kernel
theorem dX8_keeps_38 : decode cX8_keeps 38 = .ok (.aload_n 0, 1) := by decide +kernel
theorem dX8_keeps_39 : decode cX8_keeps 39 = .ok (.getfield 78, 3) := by decide +kernel
theorem dX8_keeps_42 : decode cX8_keeps 42 = .ok (.iload_n 1, 1) := by decide +kernel
theorem dX8_keeps_43 : decode cX8_keeps 43 = .ok (.iaload, 1) := by decide +kernel
theorem dX8_keeps_44 : decode cX8_keeps 44 = .ok (.iastore, 1) := by decide +kernel
theorem dX8_keeps_45 : decode cX8_keeps 45 = .ok (.iconst 0, 1) := by decide +kernel
theorem dX8_keeps_46 : decode cX8_keeps 46 = .ok (.istore_n 2, 1) := by decide +kernel
theorem dX8_keeps_47 : decode cX8_keeps 47 = .ok (.iload_n 2, 1) := by decide +kernel
theorem dX8_keeps_48 : decode cX8_keeps 48 = .ok (.bipush 16, 2) := by decide +kernel
theorem dX8_keeps_50 : decode cX8_keeps 50 = .ok (.if_icmp .ge 33, 3) := by decide +kernel
theorem dX8_keeps_53 : decode cX8_keeps 53 = .ok (.aload_n 0, 1) := by decide +kernel
theorem dX8_keeps_54 : decode cX8_keeps 54 = .ok (.getfield 72, 3) := by decide +kernel
theorem dX8_keeps_57 : decode cX8_keeps 57 = .ok (.bipush 16, 2) := by decide +kernel
theorem dX8_keeps_59 : decode cX8_keeps 59 = .ok (.iload_n 1, 1) := by decide +kernel
theorem dX8_keeps_60 : decode cX8_keeps 60 = .ok (.iconst 1, 1) := by decide +kernel
theorem dX8_keeps_61 : decode cX8_keeps 61 = .ok (.isub, 1) := by decide +kernel
theorem dX8_keeps_62 : decode cX8_keeps 62 = .ok (.imul, 1) := by decide +kernel
theorem dX8_keeps_63 : decode cX8_keeps 63 = .ok (.iload_n 2, 1) := by decide +kernel
theorem dX8_keeps_64 : decode cX8_keeps 64 = .ok (.iadd, 1) := by decide +kernel
theorem dX8_keeps_65 : decode cX8_keeps 65 = .ok (.aload_n 0, 1) := by decide +kernel
theorem dX8_keeps_66 : decode cX8_keeps 66 = .ok (.getfield 72, 3) := by decide +kernel
theorem dX8_keeps_69 : decode cX8_keeps 69 = .ok (.bipush 16, 2) := by decide +kernel
theorem dX8_keeps_71 : decode cX8_keeps 71 = .ok (.iload_n 1, 1) := by decide +kernel
theorem dX8_keeps_72 : decode cX8_keeps 72 = .ok (.imul, 1) := by decide +kernel
theorem dX8_keeps_73 : decode cX8_keeps 73 = .ok (.iload_n 2, 1) := by decide +kernel
theorem dX8_keeps_74 : decode cX8_keeps 74 = .ok (.iadd, 1) := by decide +kernel
theorem dX8_keeps_75 : decode cX8_keeps 75 = .ok (.iaload, 1) := by decide +kernel
theorem dX8_keeps_76 : decode cX8_keeps 76 = .ok (.iastore, 1) := by decide +kernel
theorem dX8_keeps_77 : decode cX8_keeps 77 = .ok (.iinc 2 1, 3) := by decide +kernel
theorem dX8_keeps_80 : decode cX8_keeps 80 = .ok (.goto (-33), 3) := by decide +kernel
theorem dX8_keeps_83 : decode cX8_keeps 83 = .ok (.iinc 1 1, 3) := by decide +kernel
theorem dX8_keeps_86 : decode cX8_keeps 86 = .ok (.goto (-75), 3) := by decide +kernel
theorem dX8_keeps_89 : decode cX8_keeps 89 = .ok (.aload_n 0, 1) := by decide +kernel
theorem dX8_keeps_90 : decode cX8_keeps 90 = .ok (.dup, 1) := by decide +kernel
theorem dX8_keeps_91 : decode cX8_keeps 91 = .ok (.getfield 116, 3) := by decide +kernel
theorem dX8_keeps_94 : decode cX8_keeps 94 = .ok (.iconst 1, 1) := by decide +kernel
theorem dX8_keeps_95 : decode cX8_keeps 95 = .ok (.isub, 1) := by decide +kernel
theorem dX8_keeps_96 : decode cX8_keeps 96 = .ok (.putfield 116, 3) := by decide +kernel
theorem dX8_keeps_99 : decode cX8_keeps 99 = .ok (.aload_n 0, 1) := by decide +kernel
theorem dX8_keeps_100 : decode cX8_keeps 100 = .ok (.getfield 75, 3) := by decide +kernel
theorem dX8_keeps_103 : decode cX8_keeps 103 = .ok (.aload_n 0, 1) := by decide +kernel
theorem dX8_keeps_104 : decode cX8_keeps 104 = .ok (.getfield 116, 3) := by decide +kernel
theorem dX8_keeps_107 : decode cX8_keeps 107 = .ok (.aload_n 0, 1) := by decide +kernel
theorem dX8_keeps_108 : decode cX8_keeps 108 = .ok (.getfield 113, 3) := by decide +kernel
theorem dX8_keeps_111 : decode cX8_keeps 111 = .ok (.iastore, 1) := by decide +kernel
theorem dX8_keeps_112 : decode cX8_keeps 112 = .ok (.aload_n 0, 1) := by decide +kernel
theorem dX8_keeps_113 : decode cX8_keeps 113 = .ok (.getfield 78, 3) := by decide +kernel
theorem dX8_keeps_116 : decode cX8_keeps 116 = .ok (.aload_n 0, 1) := by decide +kernel
theorem dX8_keeps_117 : decode cX8_keeps 117 = .ok (.getfield 116, 3) := by decide +kernel
theorem dX8_keeps_120 : decode cX8_keeps 120 = .ok (.aload_n 0, 1) := by decide +kernel
theorem dX8_keeps_121 : decode cX8_keeps 121 = .ok (.getfield 7, 3) := by decide +kernel
theorem dX8_keeps_124 : decode cX8_keeps 124 = .ok (.iastore, 1) := by decide +kernel
theorem dX8_keeps_125 : decode cX8_keeps 125 = .ok (.iconst 0, 1) := by decide +kernel
theorem dX8_keeps_126 : decode cX8_keeps 126 = .ok (.istore_n 1, 1) := by decide +kernel
theorem dX8_keeps_127 : decode cX8_keeps 127 = .ok (.iload_n 1, 1) := by decide +kernel
theorem dX8_keeps_128 : decode cX8_keeps 128 = .ok (.bipush 16, 2) := by decide +kernel
theorem dX8_keeps_130 : decode cX8_keeps 130 = .ok (.if_icmp .ge 29, 3) := by decide +kernel
theorem dX8_keeps_133 : decode cX8_keeps 133 = .ok (.aload_n 0, 1) := by decide +kernel
theorem dX8_keeps_134 : decode cX8_keeps 134 = .ok (.getfield 72, 3) := by decide +kernel
theorem dX8_keeps_137 : decode cX8_keeps 137 = .ok (.bipush 16, 2) := by decide +kernel
theorem dX8_keeps_139 : decode cX8_keeps 139 = .ok (.aload_n 0, 1) := by decide +kernel
theorem dX8_keeps_140 : decode cX8_keeps 140 = .ok (.getfield 116, 3) := by decide +kernel
theorem dX8_keeps_143 : decode cX8_keeps 143 = .ok (.imul, 1) := by decide +kernel
theorem dX8_keeps_144 : decode cX8_keeps 144 = .ok (.iload_n 1, 1) := by decide +kernel
theorem dX8_keeps_145 : decode cX8_keeps 145 = .ok (.iadd, 1) := by decide +kernel
theorem dX8_keeps_146 : decode cX8_keeps 146 = .ok (.aload_n 0, 1) := by decide +kernel
theorem dX8_keeps_147 : decode cX8_keeps 147 = .ok (.getfield 41, 3) := by decide +kernel
theorem dX8_keeps_150 : decode cX8_keeps 150 = .ok (.iload_n 1, 1) := by decide +kernel
theorem dX8_keeps_151 : decode cX8_keeps 151 = .ok (.iaload, 1) := by decide +kernel
theorem dX8_keeps_152 : decode cX8_keeps 152 = .ok (.iastore, 1) := by decide +kernel
theorem dX8_keeps_153 : decode cX8_keeps 153 = .ok (.iinc 1 1, 3) := by decide +kernel
theorem dX8_keeps_156 : decode cX8_keeps 156 = .ok (.goto (-29), 3) := by decide +kernel
theorem dX8_keeps_159 : decode cX8_keeps 159 = .ok (.aload_n 0, 1) := by decide +kernel
theorem dX8_keeps_160 : decode cX8_keeps 160 = .ok (.dup, 1) := by decide +kernel
theorem dX8_keeps_161 : decode cX8_keeps 161 = .ok (.getfield 116, 3) := by decide +kernel
theorem dX8_keeps_164 : decode cX8_keeps 164 = .ok (.iconst 1, 1) := by decide +kernel
theorem dX8_keeps_165 : decode cX8_keeps 165 = .ok (.iadd, 1) := by decide +kernel
theorem dX8_keeps_166 : decode cX8_keeps 166 = .ok (.putfield 116, 3) := by decide +kernel
theorem dX8_keeps_169 : decode cX8_keeps 169 = .ok (.return_, 1) := by decide +kernel
theorem dX8_undo_0 : decode cX8_undo 0 = .ok (.aload_n 0, 1) := by decide +kernel
theorem dX8_undo_1 : decode cX8_undo 1 = .ok (.aload_n 0, 1) := by decide +kernel
theorem dX8_undo_2 : decode cX8_undo 2 = .ok (.getfield 116, 3) := by decide +kernel
theorem dX8_undo_5 : decode cX8_undo 5 = .ok (.ifCond .ne 7, 3) := by decide +kernel
theorem dX8_undo_8 : decode cX8_undo 8 = .ok (.iconst 1, 1) := by decide +kernel
theorem dX8_undo_9 : decode cX8_undo 9 = .ok (.goto 4, 3) := by decide +kernel
theorem dX8_undo_12 : decode cX8_undo 12 = .ok (.iconst 0, 1) := by decide +kernel
theorem dX8_undo_13 : decode cX8_undo 13 = .ok (.putfield 103, 3) := by decide +kernel
theorem dX8_undo_16 : decode cX8_undo 16 = .ok (.aload_n 0, 1) := by decide +kernel
theorem dX8_undo_17 : decode cX8_undo 17 = .ok (.getfield 103, 3) := by decide +kernel
theorem dX8_undo_20 : decode cX8_undo 20 = .ok (.ifCond .eq 5, 3) := by decide +kernel
theorem dX8_undo_23 : decode cX8_undo 23 = .ok (.iconst 0, 1) := by decide +kernel
theorem dX8_undo_24 : decode cX8_undo 24 = .ok (.ireturn, 1) := by decide +kernel
theorem dX8_undo_25 : decode cX8_undo 25 = .ok (.aload_n 0, 1) := by decide +kernel
theorem dX8_undo_26 : decode cX8_undo 26 = .ok (.dup, 1) := by decide +kernel
theorem dX8_undo_27 : decode cX8_undo 27 = .ok (.getfield 116, 3) := by decide +kernel
theorem dX8_undo_30 : decode cX8_undo 30 = .ok (.iconst 1, 1) := by decide +kernel
theorem dX8_undo_31 : decode cX8_undo 31 = .ok (.isub, 1) := by decide +kernel
theorem dX8_undo_32 : decode cX8_undo 32 = .ok (.putfield 116, 3) := by decide +kernel
theorem dX8_undo_35 : decode cX8_undo 35 = .ok (.aload_n 0, 1) := by decide +kernel
theorem dX8_undo_36 : decode cX8_undo 36 = .ok (.aload_n 0, 1) := by decide +kernel
theorem dX8_undo_37 : decode cX8_undo 37 = .ok (.getfield 75, 3) := by decide +kernel
theorem dX8_undo_40 : decode cX8_undo 40 = .ok (.aload_n 0, 1) := by decide +kernel
theorem dX8_undo_41 : decode cX8_undo 41 = .ok (.getfield 116, 3) := by decide +kernel
theorem dX8_undo_44 : decode cX8_undo 44 = .ok (.iaload, 1) := by decide +kernel
theorem dX8_undo_45 : decode cX8_undo 45 = .ok (.putfield 113, 3) := by decide +kernel
theorem dX8_undo_48 : decode cX8_undo 48 = .ok (.aload_n 0, 1) := by decide +kernel
theorem dX8_undo_49 : decode cX8_undo 49 = .ok (.aload_n 0, 1) := by decide +kernel
theorem dX8_undo_50 : decode cX8_undo 50 = .ok (.getfield 78, 3) := by decide +kernel
theorem dX8_undo_53 : decode cX8_undo 53 = .ok (.aload_n 0, 1) := by decide +kernel
theorem dX8_undo_54 : decode cX8_undo 54 = .ok (.getfield 116, 3) := by decide +kernel
theorem dX8_undo_57 : decode cX8_undo 57 = .ok (.iaload, 1) := by decide +kernel
theorem dX8_undo_58 : decode cX8_undo 58 = .ok (.putfield 7, 3) := by decide +kernel
theorem dX8_undo_61 : decode cX8_undo 61 = .ok (.iconst 0, 1) := by decide +kernel
theorem dX8_undo_62 : decode cX8_undo 62 = .ok (.istore_n 1, 1) := by decide +kernel
theorem dX8_undo_63 : decode cX8_undo 63 = .ok (.iload_n 1, 1) := by decide +kernel
theorem dX8_undo_64 : decode cX8_undo 64 = .ok (.bipush 16, 2) := by decide +kernel
theorem dX8_undo_66 : decode cX8_undo 66 = .ok (.if_icmp .ge 29, 3) := by decide +kernel
theorem dX8_undo_69 : decode cX8_undo 69 = .ok (.aload_n 0, 1) := by decide +kernel
theorem dX8_undo_70 : decode cX8_undo 70 = .ok (.getfield 41, 3) := by decide +kernel
theorem dX8_undo_73 : decode cX8_undo 73 = .ok (.iload_n 1, 1) := by decide +kernel
theorem dX8_undo_74 : decode cX8_undo 74 = .ok (.aload_n 0, 1) := by decide +kernel
theorem dX8_undo_75 : decode cX8_undo 75 = .ok (.getfield 72, 3) := by decide +kernel
theorem dX8_undo_78 : decode cX8_undo 78 = .ok (.bipush 16, 2) := by decide +kernel
theorem dX8_undo_80 : decode cX8_undo 80 = .ok (.aload_n 0, 1) := by decide +kernel
theorem dX8_undo_81 : decode cX8_undo 81 = .ok (.getfield 116, 3) := by decide +kernel
theorem dX8_undo_84 : decode cX8_undo 84 = .ok (.imul, 1) := by decide +kernel
theorem dX8_undo_85 : decode cX8_undo 85 = .ok (.iload_n 1, 1) := by decide +kernel
theorem dX8_undo_86 : decode cX8_undo 86 = .ok (.iadd, 1) := by decide +kernel
theorem dX8_undo_87 : decode cX8_undo 87 = .ok (.iaload, 1) := by decide +kernel
theorem dX8_undo_88 : decode cX8_undo 88 = .ok (.iastore, 1) := by decide +kernel
theorem dX8_undo_89 : decode cX8_undo 89 = .ok (.iinc 1 1, 3) := by decide +kernel
theorem dX8_undo_92 : decode cX8_undo 92 = .ok (.goto (-29), 3) := by decide +kernel
theorem dX8_undo_95 : decode cX8_undo 95 = .ok (.aload_n 0, 1) := by decide +kernel
theorem dX8_undo_96 : decode cX8_undo 96 = .ok (.getfield 116, 3) := by decide +kernel
theorem dX8_undo_99 : decode cX8_undo 99 = .ok (.ireturn, 1) := by decide +kernel
theorem dX8_isAlignment_0 : decode cX8_isAlignment 0 = .ok (.iload_n 0, 1) := by decide +kernel
theorem dX8_isAlignment_1 : decode cX8_isAlignment 1 = .ok (.iconst 1, 1) := by decide +kernel
theorem dX8_isAlignment_2 : decode cX8_isAlignment 2 = .ok (.bipush 32, 2) := by decide +kernel
theorem dX8_isAlignment_4 : decode cX8_isAlignment 4 = .ok (.invokestatic 109, 3) := by decide +kernel
theorem dX8_isAlignment_7 : decode cX8_isAlignment 7 = .ok (.ifCond .eq 15, 3) := by decide +kernel
theorem dX8_isAlignment_10 : decode cX8_isAlignment 10 = .ok (.iload_n 0, 1) := by decide +kernel
theorem dX8_isAlignment_11 : decode cX8_isAlignment 11 = .ok (.iload_n 0, 1) := by decide +kernel
theorem dX8_isAlignment_12 : decode cX8_isAlignment 12 = .ok (.iconst 1, 1) := by decide +kernel
theorem dX8_isAlignment_13 : decode cX8_isAlignment 13 = .ok (.isub, 1) := by decide +kernel
theorem dX8_isAlignment_14 : decode cX8_isAlignment 14 = .ok (.iand, 1) := by decide +kernel
theorem dX8_isAlignment_15 : decode cX8_isAlignment 15 = .ok (.ifCond .ne 7, 3) := by decide +kernel
theorem dX8_isAlignment_18 : decode cX8_isAlignment 18 = .ok (.iconst 1, 1) := by decide +kernel
theorem dX8_isAlignment_19 : decode cX8_isAlignment 19 = .ok (.goto 4, 3) := by decide +kernel
theorem dX8_isAlignment_22 : decode cX8_isAlignment 22 = .ok (.iconst 0, 1) := by decide +kernel
theorem dX8_isAlignment_23 : decode cX8_isAlignment 23 = .ok (.ireturn, 1) := by decide +kernel
theorem dX8_setAlignment_0 : decode cX8_setAlignment 0 = .ok (.aload_n 0, 1) := by decide +kernel
theorem dX8_setAlignment_1 : decode cX8_setAlignment 1 = .ok (.iload_n 1, 1) := by decide +kernel
theorem dX8_setAlignment_2 : decode cX8_setAlignment 2 = .ok (.invokestatic 198, 3) := by decide +kernel
theorem dX8_setAlignment_5 : decode cX8_setAlignment 5 = .ok (.ifCond .eq 7, 3) := by decide +kernel
theorem dX8_setAlignment_8 : decode cX8_setAlignment 8 = .ok (.iconst 0, 1) := by decide +kernel
theorem dX8_setAlignment_9 : decode cX8_setAlignment 9 = .ok (.goto 4, 3) := by decide +kernel
theorem dX8_setAlignment_12 : decode cX8_setAlignment 12 = .ok (.iconst 1, 1) := by decide +kernel
theorem dX8_setAlignment_13 : decode cX8_setAlignment 13 = .ok (.putfield 103, 3) := by decide +kernel
theorem dX8_setAlignment_16 : decode cX8_setAlignment 16 = .ok (.aload_n 0, 1) := by decide +kernel
theorem dX8_setAlignment_17 : decode cX8_setAlignment 17 = .ok (.getfield 103, 3) := by decide +kernel
theorem dX8_setAlignment_20 : decode cX8_setAlignment 20 = .ok (.ifCond .eq 5, 3) := by decide +kernel
theorem dX8_setAlignment_23 : decode cX8_setAlignment 23 = .ok (.iconst 0, 1) := by decide +kernel
theorem dX8_setAlignment_24 : decode cX8_setAlignment 24 = .ok (.ireturn, 1) := by decide +kernel
theorem dX8_setAlignment_25 : decode cX8_setAlignment 25 = .ok (.aload_n 0, 1) := by decide +kernel
theorem dX8_setAlignment_26 : decode cX8_setAlignment 26 = .ok (.invokevirtual 201, 3) := by decide +kernel
theorem dX8_setAlignment_29 : decode cX8_setAlignment 29 = .ok (.aload_n 0, 1) := by decide +kernel
theorem dX8_setAlignment_30 : decode cX8_setAlignment 30 = .ok (.getfield 7, 3) := by decide +kernel
theorem dX8_setAlignment_33 : decode cX8_setAlignment 33 = .ok (.istore_n 2, 1) := by decide +kernel
theorem dX8_setAlignment_34 : decode cX8_setAlignment 34 = .ok (.aload_n 0, 1) := by decide +kernel
theorem dX8_setAlignment_35 : decode cX8_setAlignment 35 = .ok (.iload_n 1, 1) := by decide +kernel
theorem dX8_setAlignment_36 : decode cX8_setAlignment 36 = .ok (.putfield 7, 3) := by decide +kernel
theorem dX8_setAlignment_39 : decode cX8_setAlignment 39 = .ok (.iload_n 2, 1) := by decide +kernel
theorem dX8_setAlignment_40 : decode cX8_setAlignment 40 = .ok (.ireturn, 1) := by decide +kernel
theorem dX8_setLoopLimit_0 : decode cX8_setLoopLimit 0 = .ok (.aload_n 0, 1) := by decide +kernel
theorem dX8_setLoopLimit_1 : decode cX8_setLoopLimit 1 = .ok (.iload_n 1, 1) := by decide +kernel
theorem dX8_setLoopLimit_2 : decode cX8_setLoopLimit 2 = .ok (.iconst 0, 1) := by decide +kernel
theorem dX8_setLoopLimit_3 : decode cX8_setLoopLimit 3 = .ok (.sipush 9999, 3) := by decide +kernel
theorem dX8_setLoopLimit_6 : decode cX8_setLoopLimit 6 = .ok (.invokestatic 109, 3) := by decide +kernel
theorem dX8_setLoopLimit_9 : decode cX8_setLoopLimit 9 = .ok (.ifCond .eq 7, 3) := by decide +kernel
theorem dX8_setLoopLimit_12 : decode cX8_setLoopLimit 12 = .ok (.iconst 0, 1) := by decide +kernel
theorem dX8_setLoopLimit_13 : decode cX8_setLoopLimit 13 = .ok (.goto 4, 3) := by decide +kernel
theorem dX8_setLoopLimit_16 : decode cX8_setLoopLimit 16 = .ok (.iconst 1, 1) := by decide +kernel
theorem dX8_setLoopLimit_17 : decode cX8_setLoopLimit 17 = .ok (.putfield 103, 3) := by decide +kernel
theorem dX8_setLoopLimit_20 : decode cX8_setLoopLimit 20 = .ok (.aload_n 0, 1) := by decide +kernel
theorem dX8_setLoopLimit_21 : decode cX8_setLoopLimit 21 = .ok (.getfield 103, 3) := by decide +kernel
theorem dX8_setLoopLimit_24 : decode cX8_setLoopLimit 24 = .ok (.ifCond .eq 5, 3) := by decide +kernel
theorem dX8_setLoopLimit_27 : decode cX8_setLoopLimit 27 = .ok (.iconst 0, 1) := by decide +kernel
theorem dX8_setLoopLimit_28 : decode cX8_setLoopLimit 28 = .ok (.ireturn, 1) := by decide +kernel
theorem dX8_setLoopLimit_29 : decode cX8_setLoopLimit 29 = .ok (.aload_n 0, 1) := by decide +kernel
theorem dX8_setLoopLimit_30 : decode cX8_setLoopLimit 30 = .ok (.getfield 13, 3) := by decide +kernel
theorem dX8_setLoopLimit_33 : decode cX8_setLoopLimit 33 = .ok (.istore_n 2, 1) := by decide +kernel
theorem dX8_setLoopLimit_34 : decode cX8_setLoopLimit 34 = .ok (.aload_n 0, 1) := by decide +kernel
theorem dX8_setLoopLimit_35 : decode cX8_setLoopLimit 35 = .ok (.iload_n 1, 1) := by decide +kernel
theorem dX8_setLoopLimit_36 : decode cX8_setLoopLimit 36 = .ok (.putfield 13, 3) := by decide +kernel
theorem dX8_setLoopLimit_39 : decode cX8_setLoopLimit 39 = .ok (.iload_n 2, 1) := by decide +kernel
theorem dX8_setLoopLimit_40 : decode cX8_setLoopLimit 40 = .ok (.ireturn, 1) := by decide +kernel
theorem dX8_exchange_0 : decode cX8_exchange 0 = .ok (.aload_n 0, 1) := by decide +kernel
theorem dX8_exchange_1 : decode cX8_exchange 1 = .ok (.aload_n 0, 1) := by decide +kernel
theorem dX8_exchange_2 : decode cX8_exchange 2 = .ok (.iload_n 1, 1) := by decide +kernel
theorem dX8_exchange_3 : decode cX8_exchange 3 = .ok (.invokevirtual 119, 3) := by decide +kernel
theorem dX8_exchange_6 : decode cX8_exchange 6 = .ok (.ifCond .eq 11, 3) := by decide +kernel
theorem dX8_exchange_9 : decode cX8_exchange 9 = .ok (.aload_n 0, 1) := by decide +kernel
theorem dX8_exchange_10 : decode cX8_exchange 10 = .ok (.iload_n 2, 1) := by decide +kernel
theorem dX8_exchange_11 : decode cX8_exchange 11 = .ok (.invokevirtual 119, 3) := by decide +kernel
theorem dX8_exchange_14 : decode cX8_exchange 14 = .ok (.ifCond .ne 7, 3) := by decide +kernel
theorem dX8_exchange_17 : decode cX8_exchange 17 = .ok (.iconst 1, 1) := by decide +kernel
theorem dX8_exchange_18 : decode cX8_exchange 18 = .ok (.goto 16, 3) := by decide +kernel
theorem dX8_exchange_21 : decode cX8_exchange 21 = .ok (.iload_n 1, 1) := by decide +kernel
theorem dX8_exchange_22 : decode cX8_exchange 22 = .ok (.ifCond .eq 7, 3) := by decide +kernel
theorem dX8_exchange_25 : decode cX8_exchange 25 = .ok (.iload_n 2, 1) := by decide +kernel
theorem dX8_exchange_26 : decode cX8_exchange 26 = .ok (.ifCond .ne 7, 3) := by decide +kernel
theorem dX8_exchange_29 : decode cX8_exchange 29 = .ok (.iconst 2, 1) := by decide +kernel
theorem dX8_exchange_30 : decode cX8_exchange 30 = .ok (.goto 4, 3) := by decide +kernel
theorem dX8_exchange_33 : decode cX8_exchange 33 = .ok (.iconst 0, 1) := by decide +kernel
theorem dX8_exchange_34 : decode cX8_exchange 34 = .ok (.putfield 103, 3) := by decide +kernel
theorem dX8_exchange_37 : decode cX8_exchange 37 = .ok (.aload_n 0, 1) := by decide +kernel
theorem dX8_exchange_38 : decode cX8_exchange 38 = .ok (.getfield 103, 3) := by decide +kernel
theorem dX8_exchange_41 : decode cX8_exchange 41 = .ok (.ifCond .eq 5, 3) := by decide +kernel
theorem dX8_exchange_44 : decode cX8_exchange 44 = .ok (.iconst 0, 1) := by decide +kernel
theorem dX8_exchange_45 : decode cX8_exchange 45 = .ok (.ireturn, 1) := by decide +kernel
theorem dX8_exchange_46 : decode cX8_exchange 46 = .ok (.aload_n 0, 1) := by decide +kernel
theorem dX8_exchange_47 : decode cX8_exchange 47 = .ok (.invokevirtual 201, 3) := by decide +kernel
theorem dX8_exchange_50 : decode cX8_exchange 50 = .ok (.aload_n 0, 1) := by decide +kernel
theorem dX8_exchange_51 : decode cX8_exchange 51 = .ok (.getfield 41, 3) := by decide +kernel
theorem dX8_exchange_54 : decode cX8_exchange 54 = .ok (.iload_n 1, 1) := by decide +kernel
theorem dX8_exchange_55 : decode cX8_exchange 55 = .ok (.iaload, 1) := by decide +kernel
theorem dX8_exchange_56 : decode cX8_exchange 56 = .ok (.istore_n 3, 1) := by decide +kernel
theorem dX8_exchange_57 : decode cX8_exchange 57 = .ok (.aload_n 0, 1) := by decide +kernel
theorem dX8_exchange_58 : decode cX8_exchange 58 = .ok (.getfield 41, 3) := by decide +kernel
theorem dX8_exchange_61 : decode cX8_exchange 61 = .ok (.iload_n 1, 1) := by decide +kernel
theorem dX8_exchange_62 : decode cX8_exchange 62 = .ok (.aload_n 0, 1) := by decide +kernel
theorem dX8_exchange_63 : decode cX8_exchange 63 = .ok (.getfield 41, 3) := by decide +kernel
theorem dX8_exchange_66 : decode cX8_exchange 66 = .ok (.iload_n 2, 1) := by decide +kernel
theorem dX8_exchange_67 : decode cX8_exchange 67 = .ok (.iaload, 1) := by decide +kernel
theorem dX8_exchange_68 : decode cX8_exchange 68 = .ok (.iastore, 1) := by decide +kernel
theorem dX8_exchange_69 : decode cX8_exchange 69 = .ok (.aload_n 0, 1) := by decide +kernel
theorem dX8_exchange_70 : decode cX8_exchange 70 = .ok (.getfield 41, 3) := by decide +kernel
theorem dX8_exchange_73 : decode cX8_exchange 73 = .ok (.iload_n 2, 1) := by decide +kernel
theorem dX8_exchange_74 : decode cX8_exchange 74 = .ok (.iload_n 3, 1) := by decide +kernel
theorem dX8_exchange_75 : decode cX8_exchange 75 = .ok (.iastore, 1) := by decide +kernel
theorem dX8_exchange_76 : decode cX8_exchange 76 = .ok (.aload_n 0, 1) := by decide +kernel
theorem dX8_exchange_77 : decode cX8_exchange 77 = .ok (.getfield 41, 3) := by decide +kernel
theorem dX8_exchange_80 : decode cX8_exchange 80 = .ok (.iload_n 1, 1) := by decide +kernel
theorem dX8_exchange_81 : decode cX8_exchange 81 = .ok (.iaload, 1) := by decide +kernel
theorem dX8_exchange_82 : decode cX8_exchange 82 = .ok (.ireturn, 1) := by decide +kernel
theorem dX8_setHot_0 : decode cX8_setHot 0 = .ok (.aload_n 0, 1) := by decide +kernel
theorem dX8_setHot_1 : decode cX8_setHot 1 = .ok (.iload_n 1, 1) := by decide +kernel
theorem dX8_setHot_2 : decode cX8_setHot 2 = .ok (.iconst 1, 1) := by decide +kernel
theorem dX8_setHot_3 : decode cX8_setHot 3 = .ok (.aload_n 0, 1) := by decide +kernel
theorem dX8_setHot_4 : decode cX8_setHot 4 = .ok (.getfield 106, 3) := by decide +kernel
theorem dX8_setHot_7 : decode cX8_setHot 7 = .ok (.invokestatic 109, 3) := by decide +kernel
theorem dX8_setHot_10 : decode cX8_setHot 10 = .ok (.ifCond .eq 7, 3) := by decide +kernel
theorem dX8_setHot_13 : decode cX8_setHot 13 = .ok (.iconst 0, 1) := by decide +kernel
theorem dX8_setHot_14 : decode cX8_setHot 14 = .ok (.goto 4, 3) := by decide +kernel
theorem dX8_setHot_17 : decode cX8_setHot 17 = .ok (.iconst 1, 1) := by decide +kernel
theorem dX8_setHot_18 : decode cX8_setHot 18 = .ok (.putfield 103, 3) := by decide +kernel
theorem dX8_setHot_21 : decode cX8_setHot 21 = .ok (.aload_n 0, 1) := by decide +kernel
theorem dX8_setHot_22 : decode cX8_setHot 22 = .ok (.getfield 103, 3) := by decide +kernel
theorem dX8_setHot_25 : decode cX8_setHot 25 = .ok (.ifCond .eq 5, 3) := by decide +kernel
theorem dX8_setHot_28 : decode cX8_setHot 28 = .ok (.iconst 0, 1) := by decide +kernel
theorem dX8_setHot_29 : decode cX8_setHot 29 = .ok (.ireturn, 1) := by decide +kernel
theorem dX8_setHot_30 : decode cX8_setHot 30 = .ok (.aload_n 0, 1) := by decide +kernel
theorem dX8_setHot_31 : decode cX8_setHot 31 = .ok (.invokevirtual 201, 3) := by decide +kernel
theorem dX8_setHot_34 : decode cX8_setHot 34 = .ok (.aload_n 0, 1) := by decide +kernel
theorem dX8_setHot_35 : decode cX8_setHot 35 = .ok (.getfield 113, 3) := by decide +kernel
theorem dX8_setHot_38 : decode cX8_setHot 38 = .ok (.istore_n 2, 1) := by decide +kernel
theorem dX8_setHot_39 : decode cX8_setHot 39 = .ok (.aload_n 0, 1) := by decide +kernel
theorem dX8_setHot_40 : decode cX8_setHot 40 = .ok (.iload_n 1, 1) := by decide +kernel
theorem dX8_setHot_41 : decode cX8_setHot 41 = .ok (.putfield 113, 3) := by decide +kernel
theorem dX8_setHot_44 : decode cX8_setHot 44 = .ok (.iload_n 2, 1) := by decide +kernel
theorem dX8_setHot_45 : decode cX8_setHot 45 = .ok (.ireturn, 1) := by decide +kernel
theorem dX8_isHot_0 : decode cX8_isHot 0 = .ok (.aload_n 0, 1) := by decide +kernel
theorem dX8_isHot_1 : decode cX8_isHot 1 = .ok (.getfield 204, 3) := by decide +kernel
theorem dX8_isHot_4 : decode cX8_isHot 4 = .ok (.iload_n 1, 1) := by decide +kernel
theorem dX8_isHot_5 : decode cX8_isHot 5 = .ok (.ishr, 1) := by decide +kernel
theorem dX8_isHot_6 : decode cX8_isHot 6 = .ok (.iconst 1, 1) := by decide +kernel
theorem dX8_isHot_7 : decode cX8_isHot 7 = .ok (.iand, 1) := by decide +kernel
theorem dX8_isHot_8 : decode cX8_isHot 8 = .ok (.iconst 1, 1) := by decide +kernel
theorem dX8_isHot_9 : decode cX8_isHot 9 = .ok (.if_icmp .ne 7, 3) := by decide +kernel
theorem dX8_isHot_12 : decode cX8_isHot 12 = .ok (.iconst 1, 1) := by decide +kernel
theorem dX8_isHot_13 : decode cX8_isHot 13 = .ok (.goto 4, 3) := by decide +kernel
theorem dX8_isHot_16 : decode cX8_isHot 16 = .ok (.iconst 0, 1) := by decide +kernel
theorem dX8_isHot_17 : decode cX8_isHot 17 = .ok (.ireturn, 1) := by decide +kernel
theorem dX8_firstOf_0 : decode cX8_firstOf 0 = .ok (.iload_n 1, 1) := by decide +kernel
theorem dX8_firstOf_1 : decode cX8_firstOf 1 = .ok (.istore_n 2, 1) := by decide +kernel
theorem dX8_firstOf_2 : decode cX8_firstOf 2 = .ok (.aload_n 0, 1) := by decide +kernel
theorem dX8_firstOf_3 : decode cX8_firstOf 3 = .ok (.getfield 84, 3) := by decide +kernel
theorem dX8_firstOf_6 : decode cX8_firstOf 6 = .ok (.iload_n 2, 1) := by decide +kernel
theorem dX8_firstOf_7 : decode cX8_firstOf 7 = .ok (.iaload, 1) := by decide +kernel
theorem dX8_firstOf_8 : decode cX8_firstOf 8 = .ok (.ifCond .lt 13, 3) := by decide +kernel
theorem dX8_firstOf_11 : decode cX8_firstOf 11 = .ok (.aload_n 0, 1) := by decide +kernel
theorem dX8_firstOf_12 : decode cX8_firstOf 12 = .ok (.getfield 84, 3) := by decide +kernel
theorem dX8_firstOf_15 : decode cX8_firstOf 15 = .ok (.iload_n 2, 1) := by decide +kernel
theorem dX8_firstOf_16 : decode cX8_firstOf 16 = .ok (.iaload, 1) := by decide +kernel
theorem dX8_firstOf_17 : decode cX8_firstOf 17 = .ok (.istore_n 2, 1) := by decide +kernel
theorem dX8_firstOf_18 : decode cX8_firstOf 18 = .ok (.goto (-16), 3) := by decide +kernel
theorem dX8_firstOf_21 : decode cX8_firstOf 21 = .ok (.iload_n 2, 1) := by decide +kernel
theorem dX8_firstOf_22 : decode cX8_firstOf 22 = .ok (.ireturn, 1) := by decide +kernel
theorem dX8_canJoin_0 : decode cX8_canJoin 0 = .ok (.iload_n 2, 1) := by decide +kernel
theorem dX8_canJoin_1 : decode cX8_canJoin 1 = .ok (.ifCond .eq 50, 3) := by decide +kernel
theorem dX8_canJoin_4 : decode cX8_canJoin 4 = .ok (.aload_n 0, 1) := by decide +kernel
theorem dX8_canJoin_5 : decode cX8_canJoin 5 = .ok (.iload_n 1, 1) := by decide +kernel
theorem dX8_canJoin_6 : decode cX8_canJoin 6 = .ok (.invokevirtual 207, 3) := by decide +kernel
theorem dX8_canJoin_9 : decode cX8_canJoin 9 = .ok (.ifCond .eq 42, 3) := by decide +kernel
theorem dX8_canJoin_12 : decode cX8_canJoin 12 = .ok (.aload_n 0, 1) := by decide +kernel
theorem dX8_canJoin_13 : decode cX8_canJoin 13 = .ok (.iload_n 2, 1) := by decide +kernel
theorem dX8_canJoin_14 : decode cX8_canJoin 14 = .ok (.invokevirtual 207, 3) := by decide +kernel
theorem dX8_canJoin_17 : decode cX8_canJoin 17 = .ok (.ifCond .eq 34, 3) := by decide +kernel
theorem dX8_canJoin_20 : decode cX8_canJoin 20 = .ok (.aload_n 0, 1) := by decide +kernel
theorem dX8_canJoin_21 : decode cX8_canJoin 21 = .ok (.getfield 81, 3) := by decide +kernel
theorem dX8_canJoin_24 : decode cX8_canJoin 24 = .ok (.iload_n 1, 1) := by decide +kernel
theorem dX8_canJoin_25 : decode cX8_canJoin 25 = .ok (.iaload, 1) := by decide +kernel
theorem dX8_canJoin_26 : decode cX8_canJoin 26 = .ok (.ifCond .ge 25, 3) := by decide +kernel
theorem dX8_canJoin_29 : decode cX8_canJoin 29 = .ok (.aload_n 0, 1) := by decide +kernel
theorem dX8_canJoin_30 : decode cX8_canJoin 30 = .ok (.getfield 84, 3) := by decide +kernel
theorem dX8_canJoin_33 : decode cX8_canJoin 33 = .ok (.iload_n 2, 1) := by decide +kernel
theorem dX8_canJoin_34 : decode cX8_canJoin 34 = .ok (.iaload, 1) := by decide +kernel
theorem dX8_canJoin_35 : decode cX8_canJoin 35 = .ok (.ifCond .ge 16, 3) := by decide +kernel
theorem dX8_canJoin_38 : decode cX8_canJoin 38 = .ok (.aload_n 0, 1) := by decide +kernel
theorem dX8_canJoin_39 : decode cX8_canJoin 39 = .ok (.iload_n 1, 1) := by decide +kernel
theorem dX8_canJoin_40 : decode cX8_canJoin 40 = .ok (.invokevirtual 210, 3) := by decide +kernel
theorem dX8_canJoin_43 : decode cX8_canJoin 43 = .ok (.iload_n 2, 1) := by decide +kernel
theorem dX8_canJoin_44 : decode cX8_canJoin 44 = .ok (.if_icmp .eq 7, 3) := by decide +kernel
theorem dX8_canJoin_47 : decode cX8_canJoin 47 = .ok (.iconst 1, 1) := by decide +kernel
theorem dX8_canJoin_48 : decode cX8_canJoin 48 = .ok (.goto 4, 3) := by decide +kernel
theorem dX8_canJoin_51 : decode cX8_canJoin 51 = .ok (.iconst 0, 1) := by decide +kernel
theorem dX8_canJoin_52 : decode cX8_canJoin 52 = .ok (.ireturn, 1) := by decide +kernel
theorem dX8_joins_0 : decode cX8_joins 0 = .ok (.aload_n 0, 1) := by decide +kernel
theorem dX8_joins_1 : decode cX8_joins 1 = .ok (.getfield 81, 3) := by decide +kernel
theorem dX8_joins_4 : decode cX8_joins 4 = .ok (.iload_n 1, 1) := by decide +kernel
theorem dX8_joins_5 : decode cX8_joins 5 = .ok (.iload_n 2, 1) := by decide +kernel
theorem dX8_joins_6 : decode cX8_joins 6 = .ok (.iastore, 1) := by decide +kernel
theorem dX8_joins_7 : decode cX8_joins 7 = .ok (.aload_n 0, 1) := by decide +kernel
theorem dX8_joins_8 : decode cX8_joins 8 = .ok (.getfield 84, 3) := by decide +kernel
theorem dX8_joins_11 : decode cX8_joins 11 = .ok (.iload_n 2, 1) := by decide +kernel
theorem dX8_joins_12 : decode cX8_joins 12 = .ok (.iload_n 1, 1) := by decide +kernel
theorem dX8_joins_13 : decode cX8_joins 13 = .ok (.iastore, 1) := by decide +kernel
theorem dX8_joins_14 : decode cX8_joins 14 = .ok (.return_, 1) := by decide +kernel
theorem dX8_weightOf_0 : decode cX8_weightOf 0 = .ok (.iload_n 1, 1) := by decide +kernel
theorem dX8_weightOf_1 : decode cX8_weightOf 1 = .ok (.iconst 2, 1) := by decide +kernel
theorem dX8_weightOf_2 : decode cX8_weightOf 2 = .ok (.idiv, 1) := by decide +kernel
theorem dX8_weightOf_3 : decode cX8_weightOf 3 = .ok (.istore_n 2, 1) := by decide +kernel
theorem dX8_weightOf_4 : decode cX8_weightOf 4 = .ok (.iload_n 1, 1) := by decide +kernel
theorem dX8_weightOf_5 : decode cX8_weightOf 5 = .ok (.iconst 2, 1) := by decide +kernel
theorem dX8_weightOf_6 : decode cX8_weightOf 6 = .ok (.irem, 1) := by decide +kernel
theorem dX8_weightOf_7 : decode cX8_weightOf 7 = .ok (.ifCond .ne 26, 3) := by decide +kernel
theorem dX8_weightOf_10 : decode cX8_weightOf 10 = .ok (.aload_n 0, 1) := by decide +kernel
theorem dX8_weightOf_11 : decode cX8_weightOf 11 = .ok (.getfield 20, 3) := by decide +kernel
theorem dX8_weightOf_14 : decode cX8_weightOf 14 = .ok (.iload_n 2, 1) := by decide +kernel
theorem dX8_weightOf_15 : decode cX8_weightOf 15 = .ok (.iaload, 1) := by decide +kernel
theorem dX8_weightOf_16 : decode cX8_weightOf 16 = .ok (.iconst 2, 1) := by decide +kernel
theorem dX8_weightOf_17 : decode cX8_weightOf 17 = .ok (.if_icmp .ne 7, 3) := by decide +kernel
theorem dX8_weightOf_20 : decode cX8_weightOf 20 = .ok (.iconst 0, 1) := by decide +kernel
theorem dX8_weightOf_21 : decode cX8_weightOf 21 = .ok (.goto 32, 3) := by decide +kernel
theorem dX8_weightOf_24 : decode cX8_weightOf 24 = .ok (.aload_n 0, 1) := by decide +kernel
theorem dX8_weightOf_25 : decode cX8_weightOf 25 = .ok (.getfield 35, 3) := by decide +kernel
theorem dX8_weightOf_28 : decode cX8_weightOf 28 = .ok (.iload_n 2, 1) := by decide +kernel
theorem dX8_weightOf_29 : decode cX8_weightOf 29 = .ok (.iaload, 1) := by decide +kernel
theorem dX8_weightOf_30 : decode cX8_weightOf 30 = .ok (.goto 23, 3) := by decide +kernel
theorem dX8_weightOf_33 : decode cX8_weightOf 33 = .ok (.aload_n 0, 1) := by decide +kernel
theorem dX8_weightOf_34 : decode cX8_weightOf 34 = .ok (.getfield 20, 3) := by decide +kernel
theorem dX8_weightOf_37 : decode cX8_weightOf 37 = .ok (.iload_n 2, 1) := by decide +kernel
theorem dX8_weightOf_38 : decode cX8_weightOf 38 = .ok (.iaload, 1) := by decide +kernel
theorem dX8_weightOf_39 : decode cX8_weightOf 39 = .ok (.iconst 1, 1) := by decide +kernel
theorem dX8_weightOf_40 : decode cX8_weightOf 40 = .ok (.if_icmp .ne 12, 3) := by decide +kernel
theorem dX8_weightOf_43 : decode cX8_weightOf 43 = .ok (.aload_n 0, 1) := by decide +kernel
theorem dX8_weightOf_44 : decode cX8_weightOf 44 = .ok (.getfield 38, 3) := by decide +kernel
theorem dX8_weightOf_47 : decode cX8_weightOf 47 = .ok (.iload_n 2, 1) := by decide +kernel
theorem dX8_weightOf_48 : decode cX8_weightOf 48 = .ok (.iaload, 1) := by decide +kernel
theorem dX8_weightOf_49 : decode cX8_weightOf 49 = .ok (.goto 4, 3) := by decide +kernel
theorem dX8_weightOf_52 : decode cX8_weightOf 52 = .ok (.iconst 0, 1) := by decide +kernel
theorem dX8_weightOf_53 : decode cX8_weightOf 53 = .ok (.ireturn, 1) := by decide +kernel
theorem dX8_targetOf_0 : decode cX8_targetOf 0 = .ok (.iload_n 1, 1) := by decide +kernel
theorem dX8_targetOf_1 : decode cX8_targetOf 1 = .ok (.iconst 2, 1) := by decide +kernel
theorem dX8_targetOf_2 : decode cX8_targetOf 2 = .ok (.irem, 1) := by decide +kernel
theorem dX8_targetOf_3 : decode cX8_targetOf 3 = .ok (.ifCond .ne 14, 3) := by decide +kernel
theorem dX8_targetOf_6 : decode cX8_targetOf 6 = .ok (.aload_n 0, 1) := by decide +kernel
theorem dX8_targetOf_7 : decode cX8_targetOf 7 = .ok (.getfield 23, 3) := by decide +kernel
theorem dX8_targetOf_10 : decode cX8_targetOf 10 = .ok (.iload_n 1, 1) := by decide +kernel
theorem dX8_targetOf_11 : decode cX8_targetOf 11 = .ok (.iconst 2, 1) := by decide +kernel
theorem dX8_targetOf_12 : decode cX8_targetOf 12 = .ok (.idiv, 1) := by decide +kernel
theorem dX8_targetOf_13 : decode cX8_targetOf 13 = .ok (.iaload, 1) := by decide +kernel
theorem dX8_targetOf_14 : decode cX8_targetOf 14 = .ok (.goto 11, 3) := by decide +kernel
theorem dX8_targetOf_17 : decode cX8_targetOf 17 = .ok (.aload_n 0, 1) := by decide +kernel
theorem dX8_targetOf_18 : decode cX8_targetOf 18 = .ok (.getfield 26, 3) := by decide +kernel
theorem dX8_targetOf_21 : decode cX8_targetOf 21 = .ok (.iload_n 1, 1) := by decide +kernel
theorem dX8_targetOf_22 : decode cX8_targetOf 22 = .ok (.iconst 2, 1) := by decide +kernel
theorem dX8_targetOf_23 : decode cX8_targetOf 23 = .ok (.idiv, 1) := by decide +kernel
theorem dX8_targetOf_24 : decode cX8_targetOf 24 = .ok (.iaload, 1) := by decide +kernel
theorem dX8_targetOf_25 : decode cX8_targetOf 25 = .ok (.ireturn, 1) := by decide +kernel
theorem dX8_nextEdge_0 : decode cX8_nextEdge 0 = .ok (.iconst (-1), 1) := by decide +kernel
theorem dX8_nextEdge_1 : decode cX8_nextEdge 1 = .ok (.istore_n 2, 1) := by decide +kernel
theorem dX8_nextEdge_2 : decode cX8_nextEdge 2 = .ok (.iconst 0, 1) := by decide +kernel
theorem dX8_nextEdge_3 : decode cX8_nextEdge 3 = .ok (.istore_n 3, 1) := by decide +kernel
theorem dX8_nextEdge_4 : decode cX8_nextEdge 4 = .ok (.iload_n 3, 1) := by decide +kernel
theorem dX8_nextEdge_5 : decode cX8_nextEdge 5 = .ok (.iconst 2, 1) := by decide +kernel
theorem dX8_nextEdge_6 : decode cX8_nextEdge 6 = .ok (.aload_n 0, 1) := by decide +kernel
theorem dX8_nextEdge_7 : decode cX8_nextEdge 7 = .ok (.getfield 106, 3) := by decide +kernel
theorem dX8_nextEdge_10 : decode cX8_nextEdge 10 = .ok (.imul, 1) := by decide +kernel
theorem dX8_nextEdge_11 : decode cX8_nextEdge 11 = .ok (.if_icmp .ge 78, 3) := by decide +kernel
theorem dX8_nextEdge_14 : decode cX8_nextEdge 14 = .ok (.aload_n 0, 1) := by decide +kernel
theorem dX8_nextEdge_15 : decode cX8_nextEdge 15 = .ok (.iload_n 3, 1) := by decide +kernel
theorem dX8_nextEdge_16 : decode cX8_nextEdge 16 = .ok (.invokevirtual 213, 3) := by decide +kernel
theorem dX8_nextEdge_19 : decode cX8_nextEdge 19 = .ok (.istore 4, 2) := by decide +kernel
theorem dX8_nextEdge_21 : decode cX8_nextEdge 21 = .ok (.iload_n 1, 1) := by decide +kernel
theorem dX8_nextEdge_22 : decode cX8_nextEdge 22 = .ok (.ifCond .lt 28, 3) := by decide +kernel
theorem dX8_nextEdge_25 : decode cX8_nextEdge 25 = .ok (.iload 4, 2) := by decide +kernel
theorem dX8_nextEdge_27 : decode cX8_nextEdge 27 = .ok (.aload_n 0, 1) := by decide +kernel
theorem dX8_nextEdge_28 : decode cX8_nextEdge 28 = .ok (.iload_n 1, 1) := by decide +kernel
theorem dX8_nextEdge_29 : decode cX8_nextEdge 29 = .ok (.invokevirtual 213, 3) := by decide +kernel
theorem dX8_nextEdge_32 : decode cX8_nextEdge 32 = .ok (.if_icmp .lt 18, 3) := by decide +kernel
theorem dX8_nextEdge_35 : decode cX8_nextEdge 35 = .ok (.iload 4, 2) := by decide +kernel
theorem dX8_nextEdge_37 : decode cX8_nextEdge 37 = .ok (.aload_n 0, 1) := by decide +kernel
theorem dX8_nextEdge_38 : decode cX8_nextEdge 38 = .ok (.iload_n 1, 1) := by decide +kernel
theorem dX8_nextEdge_39 : decode cX8_nextEdge 39 = .ok (.invokevirtual 213, 3) := by decide +kernel
theorem dX8_nextEdge_42 : decode cX8_nextEdge 42 = .ok (.if_icmp .ne 12, 3) := by decide +kernel
theorem dX8_nextEdge_45 : decode cX8_nextEdge 45 = .ok (.iload_n 3, 1) := by decide +kernel
theorem dX8_nextEdge_46 : decode cX8_nextEdge 46 = .ok (.iload_n 1, 1) := by decide +kernel
theorem dX8_nextEdge_47 : decode cX8_nextEdge 47 = .ok (.if_icmp .le 7, 3) := by decide +kernel
theorem dX8_nextEdge_50 : decode cX8_nextEdge 50 = .ok (.iconst 1, 1) := by decide +kernel
theorem dX8_nextEdge_51 : decode cX8_nextEdge 51 = .ok (.goto 4, 3) := by decide +kernel
theorem dX8_nextEdge_54 : decode cX8_nextEdge 54 = .ok (.iconst 0, 1) := by decide +kernel
theorem dX8_nextEdge_55 : decode cX8_nextEdge 55 = .ok (.istore 5, 2) := by decide +kernel
theorem dX8_nextEdge_57 : decode cX8_nextEdge 57 = .ok (.iload 4, 2) := by decide +kernel
theorem dX8_nextEdge_59 : decode cX8_nextEdge 59 = .ok (.ifCond .le 24, 3) := by decide +kernel
theorem dX8_nextEdge_62 : decode cX8_nextEdge 62 = .ok (.iload 5, 2) := by decide +kernel
theorem dX8_nextEdge_64 : decode cX8_nextEdge 64 = .ok (.ifCond .eq 19, 3) := by decide +kernel
theorem dX8_nextEdge_67 : decode cX8_nextEdge 67 = .ok (.iload_n 2, 1) := by decide +kernel
theorem dX8_nextEdge_68 : decode cX8_nextEdge 68 = .ok (.ifCond .lt 13, 3) := by decide +kernel
theorem dX8_nextEdge_71 : decode cX8_nextEdge 71 = .ok (.iload 4, 2) := by decide +kernel
theorem dX8_nextEdge_73 : decode cX8_nextEdge 73 = .ok (.aload_n 0, 1) := by decide +kernel
theorem dX8_nextEdge_74 : decode cX8_nextEdge 74 = .ok (.iload_n 2, 1) := by decide +kernel
theorem dX8_nextEdge_75 : decode cX8_nextEdge 75 = .ok (.invokevirtual 213, 3) := by decide +kernel
theorem dX8_nextEdge_78 : decode cX8_nextEdge 78 = .ok (.if_icmp .le 5, 3) := by decide +kernel
theorem dX8_nextEdge_81 : decode cX8_nextEdge 81 = .ok (.iload_n 3, 1) := by decide +kernel
theorem dX8_nextEdge_82 : decode cX8_nextEdge 82 = .ok (.istore_n 2, 1) := by decide +kernel
theorem dX8_nextEdge_83 : decode cX8_nextEdge 83 = .ok (.iinc 3 1, 3) := by decide +kernel
theorem dX8_nextEdge_86 : decode cX8_nextEdge 86 = .ok (.goto (-82), 3) := by decide +kernel
theorem dX8_nextEdge_89 : decode cX8_nextEdge 89 = .ok (.iload_n 2, 1) := by decide +kernel
theorem dX8_nextEdge_90 : decode cX8_nextEdge 90 = .ok (.ireturn, 1) := by decide +kernel
theorem dX8_joinsByWeights_0 : decode cX8_joinsByWeights 0 = .ok (.aload_n 0, 1) := by decide +kernel
theorem dX8_joinsByWeights_1 : decode cX8_joinsByWeights 1 = .ok (.iconst (-1), 1) := by decide +kernel
theorem dX8_joinsByWeights_2 : decode cX8_joinsByWeights 2 = .ok (.invokevirtual 216, 3) := by decide +kernel
theorem dX8_joinsByWeights_5 : decode cX8_joinsByWeights 5 = .ok (.istore_n 1, 1) := by decide +kernel
theorem dX8_joinsByWeights_6 : decode cX8_joinsByWeights 6 = .ok (.iload_n 1, 1) := by decide +kernel
theorem dX8_joinsByWeights_7 : decode cX8_joinsByWeights 7 = .ok (.ifCond .lt 39, 3) := by decide +kernel
theorem dX8_joinsByWeights_10 : decode cX8_joinsByWeights 10 = .ok (.aload_n 0, 1) := by decide +kernel
theorem dX8_joinsByWeights_11 : decode cX8_joinsByWeights 11 = .ok (.iload_n 1, 1) := by decide +kernel
theorem dX8_joinsByWeights_12 : decode cX8_joinsByWeights 12 = .ok (.iconst 2, 1) := by decide +kernel
theorem dX8_joinsByWeights_13 : decode cX8_joinsByWeights 13 = .ok (.idiv, 1) := by decide +kernel
theorem dX8_joinsByWeights_14 : decode cX8_joinsByWeights 14 = .ok (.aload_n 0, 1) := by decide +kernel
theorem dX8_joinsByWeights_15 : decode cX8_joinsByWeights 15 = .ok (.iload_n 1, 1) := by decide +kernel
theorem dX8_joinsByWeights_16 : decode cX8_joinsByWeights 16 = .ok (.invokevirtual 219, 3) := by decide +kernel
theorem dX8_joinsByWeights_19 : decode cX8_joinsByWeights 19 = .ok (.invokevirtual 222, 3) := by decide +kernel
theorem dX8_joinsByWeights_22 : decode cX8_joinsByWeights 22 = .ok (.ifCond .eq 15, 3) := by decide +kernel
theorem dX8_joinsByWeights_25 : decode cX8_joinsByWeights 25 = .ok (.aload_n 0, 1) := by decide +kernel
theorem dX8_joinsByWeights_26 : decode cX8_joinsByWeights 26 = .ok (.iload_n 1, 1) := by decide +kernel
theorem dX8_joinsByWeights_27 : decode cX8_joinsByWeights 27 = .ok (.iconst 2, 1) := by decide +kernel
theorem dX8_joinsByWeights_28 : decode cX8_joinsByWeights 28 = .ok (.idiv, 1) := by decide +kernel
theorem dX8_joinsByWeights_29 : decode cX8_joinsByWeights 29 = .ok (.aload_n 0, 1) := by decide +kernel
theorem dX8_joinsByWeights_30 : decode cX8_joinsByWeights 30 = .ok (.iload_n 1, 1) := by decide +kernel
theorem dX8_joinsByWeights_31 : decode cX8_joinsByWeights 31 = .ok (.invokevirtual 219, 3) := by decide +kernel
theorem dX8_joinsByWeights_34 : decode cX8_joinsByWeights 34 = .ok (.invokevirtual 225, 3) := by decide +kernel
theorem dX8_joinsByWeights_37 : decode cX8_joinsByWeights 37 = .ok (.aload_n 0, 1) := by decide +kernel
theorem dX8_joinsByWeights_38 : decode cX8_joinsByWeights 38 = .ok (.iload_n 1, 1) := by decide +kernel
theorem dX8_joinsByWeights_39 : decode cX8_joinsByWeights 39 = .ok (.invokevirtual 216, 3) := by decide +kernel
theorem dX8_joinsByWeights_42 : decode cX8_joinsByWeights 42 = .ok (.istore_n 1, 1) := by decide +kernel
theorem dX8_joinsByWeights_43 : decode cX8_joinsByWeights 43 = .ok (.goto (-37), 3) := by decide +kernel
theorem dX8_joinsByWeights_46 : decode cX8_joinsByWeights 46 = .ok (.return_, 1) := by decide +kernel
theorem dX8_joinsByGains_0 : decode cX8_joinsByGains 0 = .ok (.iconst 1, 1) := by decide +kernel
theorem dX8_joinsByGains_1 : decode cX8_joinsByGains 1 = .ok (.istore_n 1, 1) := by decide +kernel
theorem dX8_joinsByGains_2 : decode cX8_joinsByGains 2 = .ok (.iload_n 1, 1) := by decide +kernel
theorem dX8_joinsByGains_3 : decode cX8_joinsByGains 3 = .ok (.ifCond .le 113, 3) := by decide +kernel
theorem dX8_joinsByGains_6 : decode cX8_joinsByGains 6 = .ok (.iconst 0, 1) := by decide +kernel
theorem dX8_joinsByGains_7 : decode cX8_joinsByGains 7 = .ok (.istore_n 1, 1) := by decide +kernel
theorem dX8_joinsByGains_8 : decode cX8_joinsByGains 8 = .ok (.iconst (-1), 1) := by decide +kernel
theorem dX8_joinsByGains_9 : decode cX8_joinsByGains 9 = .ok (.istore_n 2, 1) := by decide +kernel
theorem dX8_joinsByGains_10 : decode cX8_joinsByGains 10 = .ok (.iconst (-1), 1) := by decide +kernel
theorem dX8_joinsByGains_11 : decode cX8_joinsByGains 11 = .ok (.istore_n 3, 1) := by decide +kernel
theorem dX8_joinsByGains_12 : decode cX8_joinsByGains 12 = .ok (.iconst 0, 1) := by decide +kernel
theorem dX8_joinsByGains_13 : decode cX8_joinsByGains 13 = .ok (.istore 4, 2) := by decide +kernel
theorem dX8_joinsByGains_15 : decode cX8_joinsByGains 15 = .ok (.iload 4, 2) := by decide +kernel
theorem dX8_joinsByGains_17 : decode cX8_joinsByGains 17 = .ok (.aload_n 0, 1) := by decide +kernel
theorem dX8_joinsByGains_18 : decode cX8_joinsByGains 18 = .ok (.getfield 106, 3) := by decide +kernel
theorem dX8_joinsByGains_21 : decode cX8_joinsByGains 21 = .ok (.if_icmp .ge 82, 3) := by decide +kernel
theorem dX8_joinsByGains_24 : decode cX8_joinsByGains 24 = .ok (.iconst 0, 1) := by decide +kernel
theorem dX8_joinsByGains_25 : decode cX8_joinsByGains 25 = .ok (.istore 5, 2) := by decide +kernel
theorem dX8_joinsByGains_27 : decode cX8_joinsByGains 27 = .ok (.iload 5, 2) := by decide +kernel
theorem dX8_joinsByGains_29 : decode cX8_joinsByGains 29 = .ok (.aload_n 0, 1) := by decide +kernel
theorem dX8_joinsByGains_30 : decode cX8_joinsByGains 30 = .ok (.getfield 106, 3) := by decide +kernel
theorem dX8_joinsByGains_33 : decode cX8_joinsByGains 33 = .ok (.if_icmp .ge 64, 3) := by decide +kernel
theorem dX8_joinsByGains_36 : decode cX8_joinsByGains 36 = .ok (.iload 4, 2) := by decide +kernel
theorem dX8_joinsByGains_38 : decode cX8_joinsByGains 38 = .ok (.iload 5, 2) := by decide +kernel
theorem dX8_joinsByGains_40 : decode cX8_joinsByGains 40 = .ok (.if_icmp .eq 33, 3) := by decide +kernel
theorem dX8_joinsByGains_43 : decode cX8_joinsByGains 43 = .ok (.aload_n 0, 1) := by decide +kernel
theorem dX8_joinsByGains_44 : decode cX8_joinsByGains 44 = .ok (.iload 4, 2) := by decide +kernel
theorem dX8_joinsByGains_46 : decode cX8_joinsByGains 46 = .ok (.iload 5, 2) := by decide +kernel
theorem dX8_joinsByGains_48 : decode cX8_joinsByGains 48 = .ok (.invokevirtual 222, 3) := by decide +kernel
theorem dX8_joinsByGains_51 : decode cX8_joinsByGains 51 = .ok (.ifCond .eq 22, 3) := by decide +kernel
theorem dX8_joinsByGains_54 : decode cX8_joinsByGains 54 = .ok (.aload_n 0, 1) := by decide +kernel
theorem dX8_joinsByGains_55 : decode cX8_joinsByGains 55 = .ok (.iload 4, 2) := by decide +kernel
theorem dX8_joinsByGains_57 : decode cX8_joinsByGains 57 = .ok (.iconst (-1), 1) := by decide +kernel
theorem dX8_joinsByGains_58 : decode cX8_joinsByGains 58 = .ok (.invokevirtual 195, 3) := by decide +kernel
theorem dX8_joinsByGains_61 : decode cX8_joinsByGains 61 = .ok (.aload_n 0, 1) := by decide +kernel
theorem dX8_joinsByGains_62 : decode cX8_joinsByGains 62 = .ok (.iload 4, 2) := by decide +kernel
theorem dX8_joinsByGains_64 : decode cX8_joinsByGains 64 = .ok (.iload 5, 2) := by decide +kernel
theorem dX8_joinsByGains_66 : decode cX8_joinsByGains 66 = .ok (.invokevirtual 195, 3) := by decide +kernel
theorem dX8_joinsByGains_69 : decode cX8_joinsByGains 69 = .ok (.isub, 1) := by decide +kernel
theorem dX8_joinsByGains_70 : decode cX8_joinsByGains 70 = .ok (.goto 4, 3) := by decide +kernel
theorem dX8_joinsByGains_73 : decode cX8_joinsByGains 73 = .ok (.iconst 0, 1) := by decide +kernel
theorem dX8_joinsByGains_74 : decode cX8_joinsByGains 74 = .ok (.istore 6, 2) := by decide +kernel
theorem dX8_joinsByGains_76 : decode cX8_joinsByGains 76 = .ok (.iload 6, 2) := by decide +kernel
theorem dX8_joinsByGains_78 : decode cX8_joinsByGains 78 = .ok (.iload_n 1, 1) := by decide +kernel
theorem dX8_joinsByGains_79 : decode cX8_joinsByGains 79 = .ok (.if_icmp .le 12, 3) := by decide +kernel
theorem dX8_joinsByGains_82 : decode cX8_joinsByGains 82 = .ok (.iload 6, 2) := by decide +kernel
theorem dX8_joinsByGains_84 : decode cX8_joinsByGains 84 = .ok (.istore_n 1, 1) := by decide +kernel
theorem dX8_joinsByGains_85 : decode cX8_joinsByGains 85 = .ok (.iload 4, 2) := by decide +kernel
theorem dX8_joinsByGains_87 : decode cX8_joinsByGains 87 = .ok (.istore_n 2, 1) := by decide +kernel
theorem dX8_joinsByGains_88 : decode cX8_joinsByGains 88 = .ok (.iload 5, 2) := by decide +kernel
theorem dX8_joinsByGains_90 : decode cX8_joinsByGains 90 = .ok (.istore_n 3, 1) := by decide +kernel
theorem dX8_joinsByGains_91 : decode cX8_joinsByGains 91 = .ok (.iinc 5 1, 3) := by decide +kernel
theorem dX8_joinsByGains_94 : decode cX8_joinsByGains 94 = .ok (.goto (-67), 3) := by decide +kernel
theorem dX8_joinsByGains_97 : decode cX8_joinsByGains 97 = .ok (.iinc 4 1, 3) := by decide +kernel
theorem dX8_joinsByGains_100 : decode cX8_joinsByGains 100 = .ok (.goto (-85), 3) := by decide +kernel
theorem dX8_joinsByGains_103 : decode cX8_joinsByGains 103 = .ok (.iload_n 1, 1) := by decide +kernel
theorem dX8_joinsByGains_104 : decode cX8_joinsByGains 104 = .ok (.ifCond .le 9, 3) := by decide +kernel
theorem dX8_joinsByGains_107 : decode cX8_joinsByGains 107 = .ok (.aload_n 0, 1) := by decide +kernel
theorem dX8_joinsByGains_108 : decode cX8_joinsByGains 108 = .ok (.iload_n 2, 1) := by decide +kernel
theorem dX8_joinsByGains_109 : decode cX8_joinsByGains 109 = .ok (.iload_n 3, 1) := by decide +kernel
theorem dX8_joinsByGains_110 : decode cX8_joinsByGains 110 = .ok (.invokevirtual 225, 3) := by decide +kernel
theorem dX8_joinsByGains_113 : decode cX8_joinsByGains 113 = .ok (.goto (-111), 3) := by decide +kernel
theorem dX8_joinsByGains_116 : decode cX8_joinsByGains 116 = .ok (.return_, 1) := by decide +kernel
theorem dX8_pull_0 : decode cX8_pull 0 = .ok (.iconst 0, 1) := by decide +kernel
theorem dX8_pull_1 : decode cX8_pull 1 = .ok (.istore_n 3, 1) := by decide +kernel
theorem dX8_pull_2 : decode cX8_pull 2 = .ok (.iload_n 1, 1) := by decide +kernel
theorem dX8_pull_3 : decode cX8_pull 3 = .ok (.istore 4, 2) := by decide +kernel
theorem dX8_pull_5 : decode cX8_pull 5 = .ok (.iload 4, 2) := by decide +kernel
theorem dX8_pull_7 : decode cX8_pull 7 = .ok (.ifCond .lt 113, 3) := by decide +kernel
theorem dX8_pull_10 : decode cX8_pull 10 = .ok (.iconst 0, 1) := by decide +kernel
theorem dX8_pull_11 : decode cX8_pull 11 = .ok (.istore 5, 2) := by decide +kernel
theorem dX8_pull_13 : decode cX8_pull 13 = .ok (.iload 5, 2) := by decide +kernel
theorem dX8_pull_15 : decode cX8_pull 15 = .ok (.iload_n 2, 1) := by decide +kernel
theorem dX8_pull_16 : decode cX8_pull 16 = .ok (.if_icmp .ge 92, 3) := by decide +kernel
theorem dX8_pull_19 : decode cX8_pull 19 = .ok (.aload_n 0, 1) := by decide +kernel
theorem dX8_pull_20 : decode cX8_pull 20 = .ok (.getfield 41, 3) := by decide +kernel
theorem dX8_pull_23 : decode cX8_pull 23 = .ok (.iload 5, 2) := by decide +kernel
theorem dX8_pull_25 : decode cX8_pull 25 = .ok (.iaload, 1) := by decide +kernel
theorem dX8_pull_26 : decode cX8_pull 26 = .ok (.istore 6, 2) := by decide +kernel
theorem dX8_pull_28 : decode cX8_pull 28 = .ok (.iload_n 3, 1) := by decide +kernel
theorem dX8_pull_29 : decode cX8_pull 29 = .ok (.aload_n 0, 1) := by decide +kernel
theorem dX8_pull_30 : decode cX8_pull 30 = .ok (.getfield 20, 3) := by decide +kernel
theorem dX8_pull_33 : decode cX8_pull 33 = .ok (.iload 6, 2) := by decide +kernel
theorem dX8_pull_35 : decode cX8_pull 35 = .ok (.iaload, 1) := by decide +kernel
theorem dX8_pull_36 : decode cX8_pull 36 = .ok (.iconst 2, 1) := by decide +kernel
theorem dX8_pull_37 : decode cX8_pull 37 = .ok (.if_icmp .eq 25, 3) := by decide +kernel
theorem dX8_pull_40 : decode cX8_pull 40 = .ok (.aload_n 0, 1) := by decide +kernel
theorem dX8_pull_41 : decode cX8_pull 41 = .ok (.getfield 23, 3) := by decide +kernel
theorem dX8_pull_44 : decode cX8_pull 44 = .ok (.iload 6, 2) := by decide +kernel
theorem dX8_pull_46 : decode cX8_pull 46 = .ok (.iaload, 1) := by decide +kernel
theorem dX8_pull_47 : decode cX8_pull 47 = .ok (.iload 4, 2) := by decide +kernel
theorem dX8_pull_49 : decode cX8_pull 49 = .ok (.if_icmp .ne 13, 3) := by decide +kernel
theorem dX8_pull_52 : decode cX8_pull 52 = .ok (.aload_n 0, 1) := by decide +kernel
theorem dX8_pull_53 : decode cX8_pull 53 = .ok (.getfield 35, 3) := by decide +kernel
theorem dX8_pull_56 : decode cX8_pull 56 = .ok (.iload 6, 2) := by decide +kernel
theorem dX8_pull_58 : decode cX8_pull 58 = .ok (.iaload, 1) := by decide +kernel
theorem dX8_pull_59 : decode cX8_pull 59 = .ok (.goto 4, 3) := by decide +kernel
theorem dX8_pull_62 : decode cX8_pull 62 = .ok (.iconst 0, 1) := by decide +kernel
theorem dX8_pull_63 : decode cX8_pull 63 = .ok (.iadd, 1) := by decide +kernel
theorem dX8_pull_64 : decode cX8_pull 64 = .ok (.istore_n 3, 1) := by decide +kernel
theorem dX8_pull_65 : decode cX8_pull 65 = .ok (.iload_n 3, 1) := by decide +kernel
theorem dX8_pull_66 : decode cX8_pull 66 = .ok (.aload_n 0, 1) := by decide +kernel
theorem dX8_pull_67 : decode cX8_pull 67 = .ok (.getfield 20, 3) := by decide +kernel
theorem dX8_pull_70 : decode cX8_pull 70 = .ok (.iload 6, 2) := by decide +kernel
theorem dX8_pull_72 : decode cX8_pull 72 = .ok (.iaload, 1) := by decide +kernel
theorem dX8_pull_73 : decode cX8_pull 73 = .ok (.iconst 1, 1) := by decide +kernel
theorem dX8_pull_74 : decode cX8_pull 74 = .ok (.if_icmp .ne 25, 3) := by decide +kernel
theorem dX8_pull_77 : decode cX8_pull 77 = .ok (.aload_n 0, 1) := by decide +kernel
theorem dX8_pull_78 : decode cX8_pull 78 = .ok (.getfield 26, 3) := by decide +kernel
theorem dX8_pull_81 : decode cX8_pull 81 = .ok (.iload 6, 2) := by decide +kernel
theorem dX8_pull_83 : decode cX8_pull 83 = .ok (.iaload, 1) := by decide +kernel
theorem dX8_pull_84 : decode cX8_pull 84 = .ok (.iload 4, 2) := by decide +kernel
theorem dX8_pull_86 : decode cX8_pull 86 = .ok (.if_icmp .ne 13, 3) := by decide +kernel
theorem dX8_pull_89 : decode cX8_pull 89 = .ok (.aload_n 0, 1) := by decide +kernel
theorem dX8_pull_90 : decode cX8_pull 90 = .ok (.getfield 38, 3) := by decide +kernel
theorem dX8_pull_93 : decode cX8_pull 93 = .ok (.iload 6, 2) := by decide +kernel
theorem dX8_pull_95 : decode cX8_pull 95 = .ok (.iaload, 1) := by decide +kernel
theorem dX8_pull_96 : decode cX8_pull 96 = .ok (.goto 4, 3) := by decide +kernel
theorem dX8_pull_99 : decode cX8_pull 99 = .ok (.iconst 0, 1) := by decide +kernel
theorem dX8_pull_100 : decode cX8_pull 100 = .ok (.iadd, 1) := by decide +kernel
theorem dX8_pull_101 : decode cX8_pull 101 = .ok (.istore_n 3, 1) := by decide +kernel
theorem dX8_pull_102 : decode cX8_pull 102 = .ok (.iinc 5 1, 3) := by decide +kernel
theorem dX8_pull_105 : decode cX8_pull 105 = .ok (.goto (-92), 3) := by decide +kernel
theorem dX8_pull_108 : decode cX8_pull 108 = .ok (.aload_n 0, 1) := by decide +kernel
theorem dX8_pull_109 : decode cX8_pull 109 = .ok (.getfield 81, 3) := by decide +kernel
theorem dX8_pull_112 : decode cX8_pull 112 = .ok (.iload 4, 2) := by decide +kernel
theorem dX8_pull_114 : decode cX8_pull 114 = .ok (.iaload, 1) := by decide +kernel
theorem dX8_pull_115 : decode cX8_pull 115 = .ok (.istore 4, 2) := by decide +kernel
theorem dX8_pull_117 : decode cX8_pull 117 = .ok (.goto (-112), 3) := by decide +kernel
theorem dX8_pull_120 : decode cX8_pull 120 = .ok (.iload_n 3, 1) := by decide +kernel
theorem dX8_pull_121 : decode cX8_pull 121 = .ok (.ireturn, 1) := by decide +kernel
theorem dX8_append_0 : decode cX8_append 0 = .ok (.iload_n 2, 1) := by decide +kernel
theorem dX8_append_1 : decode cX8_append 1 = .ok (.istore_n 3, 1) := by decide +kernel
theorem dX8_append_2 : decode cX8_append 2 = .ok (.iload_n 1, 1) := by decide +kernel
theorem dX8_append_3 : decode cX8_append 3 = .ok (.istore 4, 2) := by decide +kernel
theorem dX8_append_5 : decode cX8_append 5 = .ok (.iload 4, 2) := by decide +kernel
theorem dX8_append_7 : decode cX8_append 7 = .ok (.ifCond .lt 26, 3) := by decide +kernel
theorem dX8_append_10 : decode cX8_append 10 = .ok (.aload_n 0, 1) := by decide +kernel
theorem dX8_append_11 : decode cX8_append 11 = .ok (.getfield 41, 3) := by decide +kernel
theorem dX8_append_14 : decode cX8_append 14 = .ok (.iload_n 3, 1) := by decide +kernel
theorem dX8_append_15 : decode cX8_append 15 = .ok (.iload 4, 2) := by decide +kernel
theorem dX8_append_17 : decode cX8_append 17 = .ok (.iastore, 1) := by decide +kernel
theorem dX8_append_18 : decode cX8_append 18 = .ok (.iinc 3 1, 3) := by decide +kernel
theorem dX8_append_21 : decode cX8_append 21 = .ok (.aload_n 0, 1) := by decide +kernel
theorem dX8_append_22 : decode cX8_append 22 = .ok (.getfield 81, 3) := by decide +kernel
theorem dX8_append_25 : decode cX8_append 25 = .ok (.iload 4, 2) := by decide +kernel
theorem dX8_append_27 : decode cX8_append 27 = .ok (.iaload, 1) := by decide +kernel
theorem dX8_append_28 : decode cX8_append 28 = .ok (.istore 4, 2) := by decide +kernel
theorem dX8_append_30 : decode cX8_append 30 = .ok (.goto (-25), 3) := by decide +kernel
theorem dX8_append_33 : decode cX8_append 33 = .ok (.iload_n 3, 1) := by decide +kernel
theorem dX8_append_34 : decode cX8_append 34 = .ok (.ireturn, 1) := by decide +kernel
theorem dX8_placesChains_0 : decode cX8_placesChains 0 = .ok (.aload_n 0, 1) := by decide +kernel
theorem dX8_placesChains_1 : decode cX8_placesChains 1 = .ok (.iconst 0, 1) := by decide +kernel
theorem dX8_placesChains_2 : decode cX8_placesChains 2 = .ok (.iconst 0, 1) := by decide +kernel
theorem dX8_placesChains_3 : decode cX8_placesChains 3 = .ok (.invokevirtual 229, 3) := by decide +kernel
theorem dX8_placesChains_6 : decode cX8_placesChains 6 = .ok (.istore_n 1, 1) := by decide +kernel
theorem dX8_placesChains_7 : decode cX8_placesChains 7 = .ok (.iconst 0, 1) := by decide +kernel
theorem dX8_placesChains_8 : decode cX8_placesChains 8 = .ok (.istore_n 2, 1) := by decide +kernel
theorem dX8_placesChains_9 : decode cX8_placesChains 9 = .ok (.iload_n 1, 1) := by decide +kernel
theorem dX8_placesChains_10 : decode cX8_placesChains 10 = .ok (.aload_n 0, 1) := by decide +kernel
theorem dX8_placesChains_11 : decode cX8_placesChains 11 = .ok (.getfield 232, 3) := by decide +kernel
theorem dX8_placesChains_14 : decode cX8_placesChains 14 = .ok (.if_icmp .ge 117, 3) := by decide +kernel
theorem dX8_placesChains_17 : decode cX8_placesChains 17 = .ok (.iconst 0, 1) := by decide +kernel
theorem dX8_placesChains_18 : decode cX8_placesChains 18 = .ok (.istore_n 2, 1) := by decide +kernel
theorem dX8_placesChains_19 : decode cX8_placesChains 19 = .ok (.iconst 0, 1) := by decide +kernel
theorem dX8_placesChains_20 : decode cX8_placesChains 20 = .ok (.istore_n 3, 1) := by decide +kernel
theorem dX8_placesChains_21 : decode cX8_placesChains 21 = .ok (.iload_n 3, 1) := by decide +kernel
theorem dX8_placesChains_22 : decode cX8_placesChains 22 = .ok (.iload_n 1, 1) := by decide +kernel
theorem dX8_placesChains_23 : decode cX8_placesChains 23 = .ok (.if_icmp .ge 20, 3) := by decide +kernel
theorem dX8_placesChains_26 : decode cX8_placesChains 26 = .ok (.iload_n 2, 1) := by decide +kernel
theorem dX8_placesChains_27 : decode cX8_placesChains 27 = .ok (.iconst 1, 1) := by decide +kernel
theorem dX8_placesChains_28 : decode cX8_placesChains 28 = .ok (.aload_n 0, 1) := by decide +kernel
theorem dX8_placesChains_29 : decode cX8_placesChains 29 = .ok (.getfield 41, 3) := by decide +kernel
theorem dX8_placesChains_32 : decode cX8_placesChains 32 = .ok (.iload_n 3, 1) := by decide +kernel
theorem dX8_placesChains_33 : decode cX8_placesChains 33 = .ok (.iaload, 1) := by decide +kernel
theorem dX8_placesChains_34 : decode cX8_placesChains 34 = .ok (.ishl, 1) := by decide +kernel
theorem dX8_placesChains_35 : decode cX8_placesChains 35 = .ok (.ior, 1) := by decide +kernel
theorem dX8_placesChains_36 : decode cX8_placesChains 36 = .ok (.istore_n 2, 1) := by decide +kernel
theorem dX8_placesChains_37 : decode cX8_placesChains 37 = .ok (.iinc 3 1, 3) := by decide +kernel
theorem dX8_placesChains_40 : decode cX8_placesChains 40 = .ok (.goto (-19), 3) := by decide +kernel
theorem dX8_placesChains_43 : decode cX8_placesChains 43 = .ok (.iconst (-1), 1) := by decide +kernel
theorem dX8_placesChains_44 : decode cX8_placesChains 44 = .ok (.istore_n 3, 1) := by decide +kernel
theorem dX8_placesChains_45 : decode cX8_placesChains 45 = .ok (.iconst (-1), 1) := by decide +kernel
theorem dX8_placesChains_46 : decode cX8_placesChains 46 = .ok (.istore 4, 2) := by decide +kernel
theorem dX8_placesChains_48 : decode cX8_placesChains 48 = .ok (.iconst 0, 1) := by decide +kernel
theorem dX8_placesChains_49 : decode cX8_placesChains 49 = .ok (.istore 5, 2) := by decide +kernel
theorem dX8_placesChains_51 : decode cX8_placesChains 51 = .ok (.iload 5, 2) := by decide +kernel
theorem dX8_placesChains_53 : decode cX8_placesChains 53 = .ok (.aload_n 0, 1) := by decide +kernel
theorem dX8_placesChains_54 : decode cX8_placesChains 54 = .ok (.getfield 106, 3) := by decide +kernel
theorem dX8_placesChains_57 : decode cX8_placesChains 57 = .ok (.if_icmp .ge 64, 3) := by decide +kernel
theorem dX8_placesChains_60 : decode cX8_placesChains 60 = .ok (.aload_n 0, 1) := by decide +kernel
theorem dX8_placesChains_61 : decode cX8_placesChains 61 = .ok (.iload 5, 2) := by decide +kernel
theorem dX8_placesChains_63 : decode cX8_placesChains 63 = .ok (.invokevirtual 207, 3) := by decide +kernel
theorem dX8_placesChains_66 : decode cX8_placesChains 66 = .ok (.ifCond .eq 49, 3) := by decide +kernel
theorem dX8_placesChains_69 : decode cX8_placesChains 69 = .ok (.aload_n 0, 1) := by decide +kernel
theorem dX8_placesChains_70 : decode cX8_placesChains 70 = .ok (.getfield 84, 3) := by decide +kernel
theorem dX8_placesChains_73 : decode cX8_placesChains 73 = .ok (.iload 5, 2) := by decide +kernel
theorem dX8_placesChains_75 : decode cX8_placesChains 75 = .ok (.iaload, 1) := by decide +kernel
theorem dX8_placesChains_76 : decode cX8_placesChains 76 = .ok (.ifCond .ge 39, 3) := by decide +kernel
theorem dX8_placesChains_79 : decode cX8_placesChains 79 = .ok (.iload_n 2, 1) := by decide +kernel
theorem dX8_placesChains_80 : decode cX8_placesChains 80 = .ok (.iload 5, 2) := by decide +kernel
theorem dX8_placesChains_82 : decode cX8_placesChains 82 = .ok (.ishr, 1) := by decide +kernel
theorem dX8_placesChains_83 : decode cX8_placesChains 83 = .ok (.iconst 1, 1) := by decide +kernel
theorem dX8_placesChains_84 : decode cX8_placesChains 84 = .ok (.iand, 1) := by decide +kernel
theorem dX8_placesChains_85 : decode cX8_placesChains 85 = .ok (.iconst 1, 1) := by decide +kernel
theorem dX8_placesChains_86 : decode cX8_placesChains 86 = .ok (.if_icmp .ne 6, 3) := by decide +kernel
theorem dX8_placesChains_89 : decode cX8_placesChains 89 = .ok (.goto 26, 3) := by decide +kernel
theorem dX8_placesChains_92 : decode cX8_placesChains 92 = .ok (.aload_n 0, 1) := by decide +kernel
theorem dX8_placesChains_93 : decode cX8_placesChains 93 = .ok (.iload 5, 2) := by decide +kernel
theorem dX8_placesChains_95 : decode cX8_placesChains 95 = .ok (.iload_n 1, 1) := by decide +kernel
theorem dX8_placesChains_96 : decode cX8_placesChains 96 = .ok (.invokevirtual 235, 3) := by decide +kernel
theorem dX8_placesChains_99 : decode cX8_placesChains 99 = .ok (.istore 6, 2) := by decide +kernel
theorem dX8_placesChains_101 : decode cX8_placesChains 101 = .ok (.iload 6, 2) := by decide +kernel
theorem dX8_placesChains_103 : decode cX8_placesChains 103 = .ok (.iload 4, 2) := by decide +kernel
theorem dX8_placesChains_105 : decode cX8_placesChains 105 = .ok (.if_icmp .le 10, 3) := by decide +kernel
theorem dX8_placesChains_108 : decode cX8_placesChains 108 = .ok (.iload 5, 2) := by decide +kernel
theorem dX8_placesChains_110 : decode cX8_placesChains 110 = .ok (.istore_n 3, 1) := by decide +kernel
theorem dX8_placesChains_111 : decode cX8_placesChains 111 = .ok (.iload 6, 2) := by decide +kernel
theorem dX8_placesChains_113 : decode cX8_placesChains 113 = .ok (.istore 4, 2) := by decide +kernel
theorem dX8_placesChains_115 : decode cX8_placesChains 115 = .ok (.iinc 5 1, 3) := by decide +kernel
theorem dX8_placesChains_118 : decode cX8_placesChains 118 = .ok (.goto (-67), 3) := by decide +kernel
theorem dX8_placesChains_121 : decode cX8_placesChains 121 = .ok (.aload_n 0, 1) := by decide +kernel
theorem dX8_placesChains_122 : decode cX8_placesChains 122 = .ok (.iload_n 3, 1) := by decide +kernel
theorem dX8_placesChains_123 : decode cX8_placesChains 123 = .ok (.iload_n 1, 1) := by decide +kernel
theorem dX8_placesChains_124 : decode cX8_placesChains 124 = .ok (.invokevirtual 229, 3) := by decide +kernel
theorem dX8_placesChains_127 : decode cX8_placesChains 127 = .ok (.istore_n 1, 1) := by decide +kernel
theorem dX8_placesChains_128 : decode cX8_placesChains 128 = .ok (.goto (-119), 3) := by decide +kernel
theorem dX8_placesChains_131 : decode cX8_placesChains 131 = .ok (.return_, 1) := by decide +kernel
theorem dX8_triedCost_0 : decode cX8_triedCost 0 = .ok (.iconst 0, 1) := by decide +kernel
theorem dX8_triedCost_1 : decode cX8_triedCost 1 = .ok (.istore_n 1, 1) := by decide +kernel
theorem dX8_triedCost_2 : decode cX8_triedCost 2 = .ok (.iconst 0, 1) := by decide +kernel
theorem dX8_triedCost_3 : decode cX8_triedCost 3 = .ok (.istore_n 2, 1) := by decide +kernel
theorem dX8_triedCost_4 : decode cX8_triedCost 4 = .ok (.iload_n 2, 1) := by decide +kernel
theorem dX8_triedCost_5 : decode cX8_triedCost 5 = .ok (.aload_n 0, 1) := by decide +kernel
theorem dX8_triedCost_6 : decode cX8_triedCost 6 = .ok (.getfield 232, 3) := by decide +kernel
theorem dX8_triedCost_9 : decode cX8_triedCost 9 = .ok (.if_icmp .ge 44, 3) := by decide +kernel
theorem dX8_triedCost_12 : decode cX8_triedCost 12 = .ok (.iload_n 1, 1) := by decide +kernel
theorem dX8_triedCost_13 : decode cX8_triedCost 13 = .ok (.aload_n 0, 1) := by decide +kernel
theorem dX8_triedCost_14 : decode cX8_triedCost 14 = .ok (.aload_n 0, 1) := by decide +kernel
theorem dX8_triedCost_15 : decode cX8_triedCost 15 = .ok (.getfield 87, 3) := by decide +kernel
theorem dX8_triedCost_18 : decode cX8_triedCost 18 = .ok (.iload_n 2, 1) := by decide +kernel
theorem dX8_triedCost_19 : decode cX8_triedCost 19 = .ok (.iaload, 1) := by decide +kernel
theorem dX8_triedCost_20 : decode cX8_triedCost 20 = .ok (.iload_n 2, 1) := by decide +kernel
theorem dX8_triedCost_21 : decode cX8_triedCost 21 = .ok (.iconst 1, 1) := by decide +kernel
theorem dX8_triedCost_22 : decode cX8_triedCost 22 = .ok (.iadd, 1) := by decide +kernel
theorem dX8_triedCost_23 : decode cX8_triedCost 23 = .ok (.aload_n 0, 1) := by decide +kernel
theorem dX8_triedCost_24 : decode cX8_triedCost 24 = .ok (.getfield 232, 3) := by decide +kernel
theorem dX8_triedCost_27 : decode cX8_triedCost 27 = .ok (.if_icmp .ge 14, 3) := by decide +kernel
theorem dX8_triedCost_30 : decode cX8_triedCost 30 = .ok (.aload_n 0, 1) := by decide +kernel
theorem dX8_triedCost_31 : decode cX8_triedCost 31 = .ok (.getfield 87, 3) := by decide +kernel
theorem dX8_triedCost_34 : decode cX8_triedCost 34 = .ok (.iload_n 2, 1) := by decide +kernel
theorem dX8_triedCost_35 : decode cX8_triedCost 35 = .ok (.iconst 1, 1) := by decide +kernel
theorem dX8_triedCost_36 : decode cX8_triedCost 36 = .ok (.iadd, 1) := by decide +kernel
theorem dX8_triedCost_37 : decode cX8_triedCost 37 = .ok (.iaload, 1) := by decide +kernel
theorem dX8_triedCost_38 : decode cX8_triedCost 38 = .ok (.goto 4, 3) := by decide +kernel
theorem dX8_triedCost_41 : decode cX8_triedCost 41 = .ok (.iconst (-1), 1) := by decide +kernel
theorem dX8_triedCost_42 : decode cX8_triedCost 42 = .ok (.invokevirtual 195, 3) := by decide +kernel
theorem dX8_triedCost_45 : decode cX8_triedCost 45 = .ok (.iadd, 1) := by decide +kernel
theorem dX8_triedCost_46 : decode cX8_triedCost 46 = .ok (.istore_n 1, 1) := by decide +kernel
theorem dX8_triedCost_47 : decode cX8_triedCost 47 = .ok (.iinc 2 1, 3) := by decide +kernel
theorem dX8_triedCost_50 : decode cX8_triedCost 50 = .ok (.goto (-46), 3) := by decide +kernel
theorem dX8_triedCost_53 : decode cX8_triedCost 53 = .ok (.iload_n 1, 1) := by decide +kernel
theorem dX8_triedCost_54 : decode cX8_triedCost 54 = .ok (.ireturn, 1) := by decide +kernel
theorem dX8_goesOn_0 : decode cX8_goesOn 0 = .ok (.aload_n 0, 1) := by decide +kernel
theorem dX8_goesOn_1 : decode cX8_goesOn 1 = .ok (.getfield 232, 3) := by decide +kernel
theorem dX8_goesOn_4 : decode cX8_goesOn 4 = .ok (.iconst 2, 1) := by decide +kernel
theorem dX8_goesOn_5 : decode cX8_goesOn 5 = .ok (.isub, 1) := by decide +kernel
theorem dX8_goesOn_6 : decode cX8_goesOn 6 = .ok (.istore_n 1, 1) := by decide +kernel
theorem dX8_goesOn_7 : decode cX8_goesOn 7 = .ok (.iload_n 1, 1) := by decide +kernel
theorem dX8_goesOn_8 : decode cX8_goesOn 8 = .ok (.iconst 1, 1) := by decide +kernel
theorem dX8_goesOn_9 : decode cX8_goesOn 9 = .ok (.if_icmp .lt 26, 3) := by decide +kernel
theorem dX8_goesOn_12 : decode cX8_goesOn 12 = .ok (.aload_n 0, 1) := by decide +kernel
theorem dX8_goesOn_13 : decode cX8_goesOn 13 = .ok (.getfield 87, 3) := by decide +kernel
theorem dX8_goesOn_16 : decode cX8_goesOn 16 = .ok (.iload_n 1, 1) := by decide +kernel
theorem dX8_goesOn_17 : decode cX8_goesOn 17 = .ok (.iaload, 1) := by decide +kernel
theorem dX8_goesOn_18 : decode cX8_goesOn 18 = .ok (.aload_n 0, 1) := by decide +kernel
theorem dX8_goesOn_19 : decode cX8_goesOn 19 = .ok (.getfield 87, 3) := by decide +kernel
theorem dX8_goesOn_22 : decode cX8_goesOn 22 = .ok (.iload_n 1, 1) := by decide +kernel
theorem dX8_goesOn_23 : decode cX8_goesOn 23 = .ok (.iconst 1, 1) := by decide +kernel
theorem dX8_goesOn_24 : decode cX8_goesOn 24 = .ok (.iadd, 1) := by decide +kernel
theorem dX8_goesOn_25 : decode cX8_goesOn 25 = .ok (.iaload, 1) := by decide +kernel
theorem dX8_goesOn_26 : decode cX8_goesOn 26 = .ok (.if_icmp .le 9, 3) := by decide +kernel
theorem dX8_goesOn_29 : decode cX8_goesOn 29 = .ok (.iinc 1 (-1), 3) := by decide +kernel
theorem dX8_goesOn_32 : decode cX8_goesOn 32 = .ok (.goto (-25), 3) := by decide +kernel
theorem dX8_goesOn_35 : decode cX8_goesOn 35 = .ok (.iload_n 1, 1) := by decide +kernel
theorem dX8_goesOn_36 : decode cX8_goesOn 36 = .ok (.iconst 1, 1) := by decide +kernel
theorem dX8_goesOn_37 : decode cX8_goesOn 37 = .ok (.if_icmp .ge 5, 3) := by decide +kernel
theorem dX8_goesOn_40 : decode cX8_goesOn 40 = .ok (.iconst 0, 1) := by decide +kernel
theorem dX8_goesOn_41 : decode cX8_goesOn 41 = .ok (.ireturn, 1) := by decide +kernel
theorem dX8_goesOn_42 : decode cX8_goesOn 42 = .ok (.aload_n 0, 1) := by decide +kernel
theorem dX8_goesOn_43 : decode cX8_goesOn 43 = .ok (.getfield 232, 3) := by decide +kernel
theorem dX8_goesOn_46 : decode cX8_goesOn 46 = .ok (.iconst 1, 1) := by decide +kernel
theorem dX8_goesOn_47 : decode cX8_goesOn 47 = .ok (.isub, 1) := by decide +kernel
theorem dX8_goesOn_48 : decode cX8_goesOn 48 = .ok (.istore_n 2, 1) := by decide +kernel
theorem dX8_goesOn_49 : decode cX8_goesOn 49 = .ok (.aload_n 0, 1) := by decide +kernel
theorem dX8_goesOn_50 : decode cX8_goesOn 50 = .ok (.getfield 87, 3) := by decide +kernel
theorem dX8_goesOn_53 : decode cX8_goesOn 53 = .ok (.iload_n 2, 1) := by decide +kernel
theorem dX8_goesOn_54 : decode cX8_goesOn 54 = .ok (.iaload, 1) := by decide +kernel
theorem dX8_goesOn_55 : decode cX8_goesOn 55 = .ok (.aload_n 0, 1) := by decide +kernel
theorem dX8_goesOn_56 : decode cX8_goesOn 56 = .ok (.getfield 87, 3) := by decide +kernel
theorem dX8_goesOn_59 : decode cX8_goesOn 59 = .ok (.iload_n 1, 1) := by decide +kernel
theorem dX8_goesOn_60 : decode cX8_goesOn 60 = .ok (.iaload, 1) := by decide +kernel
theorem dX8_goesOn_61 : decode cX8_goesOn 61 = .ok (.if_icmp .ge 9, 3) := by decide +kernel
theorem dX8_goesOn_64 : decode cX8_goesOn 64 = .ok (.iinc 2 (-1), 3) := by decide +kernel
theorem dX8_goesOn_67 : decode cX8_goesOn 67 = .ok (.goto (-18), 3) := by decide +kernel
theorem dX8_goesOn_70 : decode cX8_goesOn 70 = .ok (.aload_n 0, 1) := by decide +kernel
theorem dX8_goesOn_71 : decode cX8_goesOn 71 = .ok (.iload_n 1, 1) := by decide +kernel
theorem dX8_goesOn_72 : decode cX8_goesOn 72 = .ok (.iload_n 2, 1) := by decide +kernel
theorem dX8_goesOn_73 : decode cX8_goesOn 73 = .ok (.invokevirtual 238, 3) := by decide +kernel
theorem dX8_goesOn_76 : decode cX8_goesOn 76 = .ok (.iload_n 1, 1) := by decide +kernel
theorem dX8_goesOn_77 : decode cX8_goesOn 77 = .ok (.iconst 1, 1) := by decide +kernel
theorem dX8_goesOn_78 : decode cX8_goesOn 78 = .ok (.iadd, 1) := by decide +kernel
theorem dX8_goesOn_79 : decode cX8_goesOn 79 = .ok (.istore_n 3, 1) := by decide +kernel
theorem dX8_goesOn_80 : decode cX8_goesOn 80 = .ok (.aload_n 0, 1) := by decide +kernel
theorem dX8_goesOn_81 : decode cX8_goesOn 81 = .ok (.getfield 232, 3) := by decide +kernel
theorem dX8_goesOn_84 : decode cX8_goesOn 84 = .ok (.iconst 1, 1) := by decide +kernel
theorem dX8_goesOn_85 : decode cX8_goesOn 85 = .ok (.isub, 1) := by decide +kernel
theorem dX8_goesOn_86 : decode cX8_goesOn 86 = .ok (.istore 4, 2) := by decide +kernel
theorem dX8_goesOn_88 : decode cX8_goesOn 88 = .ok (.iload_n 3, 1) := by decide +kernel
theorem dX8_goesOn_89 : decode cX8_goesOn 89 = .ok (.iload 4, 2) := by decide +kernel
theorem dX8_goesOn_91 : decode cX8_goesOn 91 = .ok (.if_icmp .ge 19, 3) := by decide +kernel
theorem dX8_goesOn_94 : decode cX8_goesOn 94 = .ok (.aload_n 0, 1) := by decide +kernel
theorem dX8_goesOn_95 : decode cX8_goesOn 95 = .ok (.iload_n 3, 1) := by decide +kernel
theorem dX8_goesOn_96 : decode cX8_goesOn 96 = .ok (.iload 4, 2) := by decide +kernel
theorem dX8_goesOn_98 : decode cX8_goesOn 98 = .ok (.invokevirtual 238, 3) := by decide +kernel
theorem dX8_goesOn_101 : decode cX8_goesOn 101 = .ok (.iinc 3 1, 3) := by decide +kernel
theorem dX8_goesOn_104 : decode cX8_goesOn 104 = .ok (.iinc 4 (-1), 3) := by decide +kernel
theorem dX8_goesOn_107 : decode cX8_goesOn 107 = .ok (.goto (-19), 3) := by decide +kernel
theorem dX8_goesOn_110 : decode cX8_goesOn 110 = .ok (.iconst 1, 1) := by decide +kernel
theorem dX8_goesOn_111 : decode cX8_goesOn 111 = .ok (.ireturn, 1) := by decide +kernel
theorem dX8_swap_0 : decode cX8_swap 0 = .ok (.aload_n 0, 1) := by decide +kernel
theorem dX8_swap_1 : decode cX8_swap 1 = .ok (.getfield 87, 3) := by decide +kernel
theorem dX8_swap_4 : decode cX8_swap 4 = .ok (.iload_n 1, 1) := by decide +kernel
theorem dX8_swap_5 : decode cX8_swap 5 = .ok (.iaload, 1) := by decide +kernel
theorem dX8_swap_6 : decode cX8_swap 6 = .ok (.istore_n 3, 1) := by decide +kernel
theorem dX8_swap_7 : decode cX8_swap 7 = .ok (.aload_n 0, 1) := by decide +kernel
theorem dX8_swap_8 : decode cX8_swap 8 = .ok (.getfield 87, 3) := by decide +kernel
theorem dX8_swap_11 : decode cX8_swap 11 = .ok (.iload_n 1, 1) := by decide +kernel
theorem dX8_swap_12 : decode cX8_swap 12 = .ok (.aload_n 0, 1) := by decide +kernel
theorem dX8_swap_13 : decode cX8_swap 13 = .ok (.getfield 87, 3) := by decide +kernel
theorem dX8_swap_16 : decode cX8_swap 16 = .ok (.iload_n 2, 1) := by decide +kernel
theorem dX8_swap_17 : decode cX8_swap 17 = .ok (.iaload, 1) := by decide +kernel
theorem dX8_swap_18 : decode cX8_swap 18 = .ok (.iastore, 1) := by decide +kernel
theorem dX8_swap_19 : decode cX8_swap 19 = .ok (.aload_n 0, 1) := by decide +kernel
theorem dX8_swap_20 : decode cX8_swap 20 = .ok (.getfield 87, 3) := by decide +kernel
theorem dX8_swap_23 : decode cX8_swap 23 = .ok (.iload_n 2, 1) := by decide +kernel
theorem dX8_swap_24 : decode cX8_swap 24 = .ok (.iload_n 3, 1) := by decide +kernel
theorem dX8_swap_25 : decode cX8_swap 25 = .ok (.iastore, 1) := by decide +kernel
theorem dX8_swap_26 : decode cX8_swap 26 = .ok (.return_, 1) := by decide +kernel
theorem dX8_triesAll_0 : decode cX8_triesAll 0 = .ok (.iconst 0, 1) := by decide +kernel
theorem dX8_triesAll_1 : decode cX8_triesAll 1 = .ok (.istore_n 1, 1) := by decide +kernel
theorem dX8_triesAll_2 : decode cX8_triesAll 2 = .ok (.iconst 0, 1) := by decide +kernel
theorem dX8_triesAll_3 : decode cX8_triesAll 3 = .ok (.istore_n 2, 1) := by decide +kernel
theorem dX8_triesAll_4 : decode cX8_triesAll 4 = .ok (.iload_n 2, 1) := by decide +kernel
theorem dX8_triesAll_5 : decode cX8_triesAll 5 = .ok (.aload_n 0, 1) := by decide +kernel
theorem dX8_triesAll_6 : decode cX8_triesAll 6 = .ok (.getfield 106, 3) := by decide +kernel
theorem dX8_triesAll_9 : decode cX8_triesAll 9 = .ok (.if_icmp .ge 27, 3) := by decide +kernel
theorem dX8_triesAll_12 : decode cX8_triesAll 12 = .ok (.aload_n 0, 1) := by decide +kernel
theorem dX8_triesAll_13 : decode cX8_triesAll 13 = .ok (.iload_n 2, 1) := by decide +kernel
theorem dX8_triesAll_14 : decode cX8_triesAll 14 = .ok (.invokevirtual 207, 3) := by decide +kernel
theorem dX8_triesAll_17 : decode cX8_triesAll 17 = .ok (.ifCond .eq 13, 3) := by decide +kernel
theorem dX8_triesAll_20 : decode cX8_triesAll 20 = .ok (.aload_n 0, 1) := by decide +kernel
theorem dX8_triesAll_21 : decode cX8_triesAll 21 = .ok (.getfield 87, 3) := by decide +kernel
theorem dX8_triesAll_24 : decode cX8_triesAll 24 = .ok (.iload_n 1, 1) := by decide +kernel
theorem dX8_triesAll_25 : decode cX8_triesAll 25 = .ok (.iload_n 2, 1) := by decide +kernel
theorem dX8_triesAll_26 : decode cX8_triesAll 26 = .ok (.iastore, 1) := by decide +kernel
theorem dX8_triesAll_27 : decode cX8_triesAll 27 = .ok (.iinc 1 1, 3) := by decide +kernel
theorem dX8_triesAll_30 : decode cX8_triesAll 30 = .ok (.iinc 2 1, 3) := by decide +kernel
theorem dX8_triesAll_33 : decode cX8_triesAll 33 = .ok (.goto (-29), 3) := by decide +kernel
theorem dX8_triesAll_36 : decode cX8_triesAll 36 = .ok (.iconst 0, 1) := by decide +kernel
theorem dX8_triesAll_37 : decode cX8_triesAll 37 = .ok (.istore_n 2, 1) := by decide +kernel
theorem dX8_triesAll_38 : decode cX8_triesAll 38 = .ok (.aload_n 0, 1) := by decide +kernel
theorem dX8_triesAll_39 : decode cX8_triesAll 39 = .ok (.invokevirtual 241, 3) := by decide +kernel
theorem dX8_triesAll_42 : decode cX8_triesAll 42 = .ok (.istore_n 3, 1) := by decide +kernel
theorem dX8_triesAll_43 : decode cX8_triesAll 43 = .ok (.iload_n 2, 1) := by decide +kernel
theorem dX8_triesAll_44 : decode cX8_triesAll 44 = .ok (.ifCond .eq 11, 3) := by decide +kernel
theorem dX8_triesAll_47 : decode cX8_triesAll 47 = .ok (.iload_n 3, 1) := by decide +kernel
theorem dX8_triesAll_48 : decode cX8_triesAll 48 = .ok (.aload_n 0, 1) := by decide +kernel
theorem dX8_triesAll_49 : decode cX8_triesAll 49 = .ok (.getfield 244, 3) := by decide +kernel
theorem dX8_triesAll_52 : decode cX8_triesAll 52 = .ok (.if_icmp .ge 42, 3) := by decide +kernel
theorem dX8_triesAll_55 : decode cX8_triesAll 55 = .ok (.iconst 1, 1) := by decide +kernel
theorem dX8_triesAll_56 : decode cX8_triesAll 56 = .ok (.istore_n 2, 1) := by decide +kernel
theorem dX8_triesAll_57 : decode cX8_triesAll 57 = .ok (.aload_n 0, 1) := by decide +kernel
theorem dX8_triesAll_58 : decode cX8_triesAll 58 = .ok (.iload_n 3, 1) := by decide +kernel
theorem dX8_triesAll_59 : decode cX8_triesAll 59 = .ok (.putfield 244, 3) := by decide +kernel
theorem dX8_triesAll_62 : decode cX8_triesAll 62 = .ok (.iconst 0, 1) := by decide +kernel
theorem dX8_triesAll_63 : decode cX8_triesAll 63 = .ok (.istore 4, 2) := by decide +kernel
theorem dX8_triesAll_65 : decode cX8_triesAll 65 = .ok (.iload 4, 2) := by decide +kernel
theorem dX8_triesAll_67 : decode cX8_triesAll 67 = .ok (.aload_n 0, 1) := by decide +kernel
theorem dX8_triesAll_68 : decode cX8_triesAll 68 = .ok (.getfield 232, 3) := by decide +kernel
theorem dX8_triesAll_71 : decode cX8_triesAll 71 = .ok (.if_icmp .ge 23, 3) := by decide +kernel
theorem dX8_triesAll_74 : decode cX8_triesAll 74 = .ok (.aload_n 0, 1) := by decide +kernel
theorem dX8_triesAll_75 : decode cX8_triesAll 75 = .ok (.getfield 90, 3) := by decide +kernel
theorem dX8_triesAll_78 : decode cX8_triesAll 78 = .ok (.iload 4, 2) := by decide +kernel
theorem dX8_triesAll_80 : decode cX8_triesAll 80 = .ok (.aload_n 0, 1) := by decide +kernel
theorem dX8_triesAll_81 : decode cX8_triesAll 81 = .ok (.getfield 87, 3) := by decide +kernel
theorem dX8_triesAll_84 : decode cX8_triesAll 84 = .ok (.iload 4, 2) := by decide +kernel
theorem dX8_triesAll_86 : decode cX8_triesAll 86 = .ok (.iaload, 1) := by decide +kernel
theorem dX8_triesAll_87 : decode cX8_triesAll 87 = .ok (.iastore, 1) := by decide +kernel
theorem dX8_triesAll_88 : decode cX8_triesAll 88 = .ok (.iinc 4 1, 3) := by decide +kernel
theorem dX8_triesAll_91 : decode cX8_triesAll 91 = .ok (.goto (-26), 3) := by decide +kernel
theorem dX8_triesAll_94 : decode cX8_triesAll 94 = .ok (.aload_n 0, 1) := by decide +kernel
theorem dX8_triesAll_95 : decode cX8_triesAll 95 = .ok (.invokevirtual 247, 3) := by decide +kernel
theorem dX8_triesAll_98 : decode cX8_triesAll 98 = .ok (.ifCond .ne (-60), 3) := by decide +kernel
theorem dX8_triesAll_101 : decode cX8_triesAll 101 = .ok (.iconst 0, 1) := by decide +kernel
theorem dX8_triesAll_102 : decode cX8_triesAll 102 = .ok (.istore_n 3, 1) := by decide +kernel
theorem dX8_triesAll_103 : decode cX8_triesAll 103 = .ok (.iload_n 3, 1) := by decide +kernel
theorem dX8_triesAll_104 : decode cX8_triesAll 104 = .ok (.aload_n 0, 1) := by decide +kernel
theorem dX8_triesAll_105 : decode cX8_triesAll 105 = .ok (.getfield 232, 3) := by decide +kernel
theorem dX8_triesAll_108 : decode cX8_triesAll 108 = .ok (.if_icmp .ge 21, 3) := by decide +kernel
theorem dX8_triesAll_111 : decode cX8_triesAll 111 = .ok (.aload_n 0, 1) := by decide +kernel
theorem dX8_triesAll_112 : decode cX8_triesAll 112 = .ok (.getfield 41, 3) := by decide +kernel
theorem dX8_triesAll_115 : decode cX8_triesAll 115 = .ok (.iload_n 3, 1) := by decide +kernel
theorem dX8_triesAll_116 : decode cX8_triesAll 116 = .ok (.aload_n 0, 1) := by decide +kernel
theorem dX8_triesAll_117 : decode cX8_triesAll 117 = .ok (.getfield 90, 3) := by decide +kernel
theorem dX8_triesAll_120 : decode cX8_triesAll 120 = .ok (.iload_n 3, 1) := by decide +kernel
theorem dX8_triesAll_121 : decode cX8_triesAll 121 = .ok (.iaload, 1) := by decide +kernel
theorem dX8_triesAll_122 : decode cX8_triesAll 122 = .ok (.iastore, 1) := by decide +kernel
theorem dX8_triesAll_123 : decode cX8_triesAll 123 = .ok (.iinc 3 1, 3) := by decide +kernel
theorem dX8_triesAll_126 : decode cX8_triesAll 126 = .ok (.goto (-23), 3) := by decide +kernel
theorem dX8_triesAll_129 : decode cX8_triesAll 129 = .ok (.return_, 1) := by decide +kernel
theorem dX8_findsHot_0 : decode cX8_findsHot 0 = .ok (.aload_n 0, 1) := by decide +kernel
theorem dX8_findsHot_1 : decode cX8_findsHot 1 = .ok (.iconst 1, 1) := by decide +kernel
theorem dX8_findsHot_2 : decode cX8_findsHot 2 = .ok (.putfield 204, 3) := by decide +kernel
theorem dX8_findsHot_5 : decode cX8_findsHot 5 = .ok (.aload_n 0, 1) := by decide +kernel
theorem dX8_findsHot_6 : decode cX8_findsHot 6 = .ok (.iconst 1, 1) := by decide +kernel
theorem dX8_findsHot_7 : decode cX8_findsHot 7 = .ok (.putfield 232, 3) := by decide +kernel
theorem dX8_findsHot_10 : decode cX8_findsHot 10 = .ok (.iconst 1, 1) := by decide +kernel
theorem dX8_findsHot_11 : decode cX8_findsHot 11 = .ok (.istore_n 2, 1) := by decide +kernel
theorem dX8_findsHot_12 : decode cX8_findsHot 12 = .ok (.iload_n 2, 1) := by decide +kernel
theorem dX8_findsHot_13 : decode cX8_findsHot 13 = .ok (.aload_n 0, 1) := by decide +kernel
theorem dX8_findsHot_14 : decode cX8_findsHot 14 = .ok (.getfield 106, 3) := by decide +kernel
theorem dX8_findsHot_17 : decode cX8_findsHot 17 = .ok (.if_icmp .ge 63, 3) := by decide +kernel
theorem dX8_findsHot_20 : decode cX8_findsHot 20 = .ok (.aload_n 0, 1) := by decide +kernel
theorem dX8_findsHot_21 : decode cX8_findsHot 21 = .ok (.getfield 32, 3) := by decide +kernel
theorem dX8_findsHot_24 : decode cX8_findsHot 24 = .ok (.iload_n 2, 1) := by decide +kernel
theorem dX8_findsHot_25 : decode cX8_findsHot 25 = .ok (.iaload, 1) := by decide +kernel
theorem dX8_findsHot_26 : decode cX8_findsHot 26 = .ok (.iload_n 1, 1) := by decide +kernel
theorem dX8_findsHot_27 : decode cX8_findsHot 27 = .ok (.if_icmp .le 7, 3) := by decide +kernel
theorem dX8_findsHot_30 : decode cX8_findsHot 30 = .ok (.iconst 1, 1) := by decide +kernel
theorem dX8_findsHot_31 : decode cX8_findsHot 31 = .ok (.goto 4, 3) := by decide +kernel
theorem dX8_findsHot_34 : decode cX8_findsHot 34 = .ok (.iconst 0, 1) := by decide +kernel
theorem dX8_findsHot_35 : decode cX8_findsHot 35 = .ok (.istore_n 3, 1) := by decide +kernel
theorem dX8_findsHot_36 : decode cX8_findsHot 36 = .ok (.aload_n 0, 1) := by decide +kernel
theorem dX8_findsHot_37 : decode cX8_findsHot 37 = .ok (.dup, 1) := by decide +kernel
theorem dX8_findsHot_38 : decode cX8_findsHot 38 = .ok (.getfield 204, 3) := by decide +kernel
theorem dX8_findsHot_41 : decode cX8_findsHot 41 = .ok (.iload_n 3, 1) := by decide +kernel
theorem dX8_findsHot_42 : decode cX8_findsHot 42 = .ok (.ifCond .eq 9, 3) := by decide +kernel
theorem dX8_findsHot_45 : decode cX8_findsHot 45 = .ok (.iconst 1, 1) := by decide +kernel
theorem dX8_findsHot_46 : decode cX8_findsHot 46 = .ok (.iload_n 2, 1) := by decide +kernel
theorem dX8_findsHot_47 : decode cX8_findsHot 47 = .ok (.ishl, 1) := by decide +kernel
theorem dX8_findsHot_48 : decode cX8_findsHot 48 = .ok (.goto 4, 3) := by decide +kernel
theorem dX8_findsHot_51 : decode cX8_findsHot 51 = .ok (.iconst 0, 1) := by decide +kernel
theorem dX8_findsHot_52 : decode cX8_findsHot 52 = .ok (.ior, 1) := by decide +kernel
theorem dX8_findsHot_53 : decode cX8_findsHot 53 = .ok (.putfield 204, 3) := by decide +kernel
theorem dX8_findsHot_56 : decode cX8_findsHot 56 = .ok (.aload_n 0, 1) := by decide +kernel
theorem dX8_findsHot_57 : decode cX8_findsHot 57 = .ok (.dup, 1) := by decide +kernel
theorem dX8_findsHot_58 : decode cX8_findsHot 58 = .ok (.getfield 232, 3) := by decide +kernel
theorem dX8_findsHot_61 : decode cX8_findsHot 61 = .ok (.iload_n 3, 1) := by decide +kernel
theorem dX8_findsHot_62 : decode cX8_findsHot 62 = .ok (.ifCond .eq 7, 3) := by decide +kernel
theorem dX8_findsHot_65 : decode cX8_findsHot 65 = .ok (.iconst 1, 1) := by decide +kernel
theorem dX8_findsHot_66 : decode cX8_findsHot 66 = .ok (.goto 4, 3) := by decide +kernel
theorem dX8_findsHot_69 : decode cX8_findsHot 69 = .ok (.iconst 0, 1) := by decide +kernel
theorem dX8_findsHot_70 : decode cX8_findsHot 70 = .ok (.iadd, 1) := by decide +kernel
theorem dX8_findsHot_71 : decode cX8_findsHot 71 = .ok (.putfield 232, 3) := by decide +kernel
theorem dX8_findsHot_74 : decode cX8_findsHot 74 = .ok (.iinc 2 1, 3) := by decide +kernel
theorem dX8_findsHot_77 : decode cX8_findsHot 77 = .ok (.goto (-65), 3) := by decide +kernel
theorem dX8_findsHot_80 : decode cX8_findsHot 80 = .ok (.return_, 1) := by decide +kernel
theorem dX8_arrange_0 : decode cX8_arrange 0 = .ok (.aload_n 0, 1) := by decide +kernel
theorem dX8_arrange_1 : decode cX8_arrange 1 = .ok (.iload_n 1, 1) := by decide +kernel
theorem dX8_arrange_2 : decode cX8_arrange 2 = .ok (.iconst 0, 1) := by decide +kernel
theorem dX8_arrange_3 : decode cX8_arrange 3 = .ok (.iconst 2, 1) := by decide +kernel
theorem dX8_arrange_4 : decode cX8_arrange 4 = .ok (.invokestatic 109, 3) := by decide +kernel
theorem dX8_arrange_7 : decode cX8_arrange 7 = .ok (.ifCond .eq 18, 3) := by decide +kernel
theorem dX8_arrange_10 : decode cX8_arrange 10 = .ok (.iload_n 2, 1) := by decide +kernel
theorem dX8_arrange_11 : decode cX8_arrange 11 = .ok (.iconst (-1), 1) := by decide +kernel
theorem dX8_arrange_12 : decode cX8_arrange 12 = .ok (.sipush 9999, 3) := by decide +kernel
theorem dX8_arrange_15 : decode cX8_arrange 15 = .ok (.invokestatic 109, 3) := by decide +kernel
theorem dX8_arrange_18 : decode cX8_arrange 18 = .ok (.ifCond .eq 7, 3) := by decide +kernel
theorem dX8_arrange_21 : decode cX8_arrange 21 = .ok (.iconst 0, 1) := by decide +kernel
theorem dX8_arrange_22 : decode cX8_arrange 22 = .ok (.goto 4, 3) := by decide +kernel
theorem dX8_arrange_25 : decode cX8_arrange 25 = .ok (.iconst 1, 1) := by decide +kernel
theorem dX8_arrange_26 : decode cX8_arrange 26 = .ok (.putfield 103, 3) := by decide +kernel
theorem dX8_arrange_29 : decode cX8_arrange 29 = .ok (.aload_n 0, 1) := by decide +kernel
theorem dX8_arrange_30 : decode cX8_arrange 30 = .ok (.getfield 103, 3) := by decide +kernel
theorem dX8_arrange_33 : decode cX8_arrange 33 = .ok (.ifCond .eq 5, 3) := by decide +kernel
theorem dX8_arrange_36 : decode cX8_arrange 36 = .ok (.iconst 0, 1) := by decide +kernel
theorem dX8_arrange_37 : decode cX8_arrange 37 = .ok (.ireturn, 1) := by decide +kernel
theorem dX8_arrange_38 : decode cX8_arrange 38 = .ok (.aload_n 0, 1) := by decide +kernel
theorem dX8_arrange_39 : decode cX8_arrange 39 = .ok (.iload_n 2, 1) := by decide +kernel
theorem dX8_arrange_40 : decode cX8_arrange 40 = .ok (.invokevirtual 250, 3) := by decide +kernel
theorem dX8_arrange_43 : decode cX8_arrange 43 = .ok (.aload_n 0, 1) := by decide +kernel
theorem dX8_arrange_44 : decode cX8_arrange 44 = .ok (.iload_n 1, 1) := by decide +kernel
theorem dX8_arrange_45 : decode cX8_arrange 45 = .ok (.iconst 2, 1) := by decide +kernel
theorem dX8_arrange_46 : decode cX8_arrange 46 = .ok (.if_icmp .ne 16, 3) := by decide +kernel
theorem dX8_arrange_49 : decode cX8_arrange 49 = .ok (.aload_n 0, 1) := by decide +kernel
theorem dX8_arrange_50 : decode cX8_arrange 50 = .ok (.getfield 232, 3) := by decide +kernel
theorem dX8_arrange_53 : decode cX8_arrange 53 = .ok (.bipush 7, 2) := by decide +kernel
theorem dX8_arrange_55 : decode cX8_arrange 55 = .ok (.if_icmp .le 7, 3) := by decide +kernel
theorem dX8_arrange_58 : decode cX8_arrange 58 = .ok (.iconst 2, 1) := by decide +kernel
theorem dX8_arrange_59 : decode cX8_arrange 59 = .ok (.goto 4, 3) := by decide +kernel
theorem dX8_arrange_62 : decode cX8_arrange 62 = .ok (.iconst 0, 1) := by decide +kernel
theorem dX8_arrange_63 : decode cX8_arrange 63 = .ok (.putfield 103, 3) := by decide +kernel
theorem dX8_arrange_66 : decode cX8_arrange 66 = .ok (.aload_n 0, 1) := by decide +kernel
theorem dX8_arrange_67 : decode cX8_arrange 67 = .ok (.getfield 103, 3) := by decide +kernel
theorem dX8_arrange_70 : decode cX8_arrange 70 = .ok (.ifCond .eq 5, 3) := by decide +kernel
theorem dX8_arrange_73 : decode cX8_arrange 73 = .ok (.iconst 0, 1) := by decide +kernel
theorem dX8_arrange_74 : decode cX8_arrange 74 = .ok (.ireturn, 1) := by decide +kernel
theorem dX8_arrange_75 : decode cX8_arrange 75 = .ok (.aload_n 0, 1) := by decide +kernel
theorem dX8_arrange_76 : decode cX8_arrange 76 = .ok (.invokevirtual 201, 3) := by decide +kernel
theorem dX8_arrange_79 : decode cX8_arrange 79 = .ok (.iconst 0, 1) := by decide +kernel
theorem dX8_arrange_80 : decode cX8_arrange 80 = .ok (.istore_n 3, 1) := by decide +kernel
theorem dX8_arrange_81 : decode cX8_arrange 81 = .ok (.iload_n 3, 1) := by decide +kernel
theorem dX8_arrange_82 : decode cX8_arrange 82 = .ok (.bipush 16, 2) := by decide +kernel
theorem dX8_arrange_84 : decode cX8_arrange 84 = .ok (.if_icmp .ge 23, 3) := by decide +kernel
theorem dX8_arrange_87 : decode cX8_arrange 87 = .ok (.aload_n 0, 1) := by decide +kernel
theorem dX8_arrange_88 : decode cX8_arrange 88 = .ok (.getfield 81, 3) := by decide +kernel
theorem dX8_arrange_91 : decode cX8_arrange 91 = .ok (.iload_n 3, 1) := by decide +kernel
theorem dX8_arrange_92 : decode cX8_arrange 92 = .ok (.iconst (-1), 1) := by decide +kernel
theorem dX8_arrange_93 : decode cX8_arrange 93 = .ok (.iastore, 1) := by decide +kernel
theorem dX8_arrange_94 : decode cX8_arrange 94 = .ok (.aload_n 0, 1) := by decide +kernel
theorem dX8_arrange_95 : decode cX8_arrange 95 = .ok (.getfield 84, 3) := by decide +kernel
theorem dX8_arrange_98 : decode cX8_arrange 98 = .ok (.iload_n 3, 1) := by decide +kernel
theorem dX8_arrange_99 : decode cX8_arrange 99 = .ok (.iconst (-1), 1) := by decide +kernel
theorem dX8_arrange_100 : decode cX8_arrange 100 = .ok (.iastore, 1) := by decide +kernel
theorem dX8_arrange_101 : decode cX8_arrange 101 = .ok (.iinc 3 1, 3) := by decide +kernel
theorem dX8_arrange_104 : decode cX8_arrange 104 = .ok (.goto (-23), 3) := by decide +kernel
theorem dX8_arrange_107 : decode cX8_arrange 107 = .ok (.iload_n 1, 1) := by decide +kernel
theorem dX8_arrange_108 : decode cX8_arrange 108 = .ok (.ifCond .ne 10, 3) := by decide +kernel
theorem dX8_arrange_111 : decode cX8_arrange 111 = .ok (.aload_n 0, 1) := by decide +kernel
theorem dX8_arrange_112 : decode cX8_arrange 112 = .ok (.invokevirtual 253, 3) := by decide +kernel
theorem dX8_arrange_115 : decode cX8_arrange 115 = .ok (.goto 12, 3) := by decide +kernel
theorem dX8_arrange_118 : decode cX8_arrange 118 = .ok (.iload_n 1, 1) := by decide +kernel
theorem dX8_arrange_119 : decode cX8_arrange 119 = .ok (.iconst 1, 1) := by decide +kernel
theorem dX8_arrange_120 : decode cX8_arrange 120 = .ok (.if_icmp .ne 7, 3) := by decide +kernel
theorem dX8_arrange_123 : decode cX8_arrange 123 = .ok (.aload_n 0, 1) := by decide +kernel
theorem dX8_arrange_124 : decode cX8_arrange 124 = .ok (.invokevirtual 256, 3) := by decide +kernel
theorem dX8_arrange_127 : decode cX8_arrange 127 = .ok (.iload_n 1, 1) := by decide +kernel
theorem dX8_arrange_128 : decode cX8_arrange 128 = .ok (.iconst 2, 1) := by decide +kernel
theorem dX8_arrange_129 : decode cX8_arrange 129 = .ok (.if_icmp .ne 10, 3) := by decide +kernel
theorem dX8_arrange_132 : decode cX8_arrange 132 = .ok (.aload_n 0, 1) := by decide +kernel
theorem dX8_arrange_133 : decode cX8_arrange 133 = .ok (.invokevirtual 259, 3) := by decide +kernel
theorem dX8_arrange_136 : decode cX8_arrange 136 = .ok (.goto 7, 3) := by decide +kernel
theorem dX8_arrange_139 : decode cX8_arrange 139 = .ok (.aload_n 0, 1) := by decide +kernel
theorem dX8_arrange_140 : decode cX8_arrange 140 = .ok (.invokevirtual 262, 3) := by decide +kernel
theorem dX8_arrange_143 : decode cX8_arrange 143 = .ok (.aload_n 0, 1) := by decide +kernel
theorem dX8_arrange_144 : decode cX8_arrange 144 = .ok (.getfield 232, 3) := by decide +kernel
theorem dX8_arrange_147 : decode cX8_arrange 147 = .ok (.istore_n 3, 1) := by decide +kernel
theorem dX8_arrange_148 : decode cX8_arrange 148 = .ok (.iconst 0, 1) := by decide +kernel
theorem dX8_arrange_149 : decode cX8_arrange 149 = .ok (.istore 4, 2) := by decide +kernel
theorem dX8_arrange_151 : decode cX8_arrange 151 = .ok (.iload 4, 2) := by decide +kernel
theorem dX8_arrange_153 : decode cX8_arrange 153 = .ok (.aload_n 0, 1) := by decide +kernel
theorem dX8_arrange_154 : decode cX8_arrange 154 = .ok (.getfield 106, 3) := by decide +kernel
theorem dX8_arrange_157 : decode cX8_arrange 157 = .ok (.if_icmp .ge 29, 3) := by decide +kernel
theorem dX8_arrange_160 : decode cX8_arrange 160 = .ok (.aload_n 0, 1) := by decide +kernel
theorem dX8_arrange_161 : decode cX8_arrange 161 = .ok (.iload 4, 2) := by decide +kernel
theorem dX8_arrange_163 : decode cX8_arrange 163 = .ok (.invokevirtual 207, 3) := by decide +kernel
theorem dX8_arrange_166 : decode cX8_arrange 166 = .ok (.ifCond .ne 14, 3) := by decide +kernel
theorem dX8_arrange_169 : decode cX8_arrange 169 = .ok (.aload_n 0, 1) := by decide +kernel
theorem dX8_arrange_170 : decode cX8_arrange 170 = .ok (.getfield 41, 3) := by decide +kernel
theorem dX8_arrange_173 : decode cX8_arrange 173 = .ok (.iload_n 3, 1) := by decide +kernel
theorem dX8_arrange_174 : decode cX8_arrange 174 = .ok (.iload 4, 2) := by decide +kernel
theorem dX8_arrange_176 : decode cX8_arrange 176 = .ok (.iastore, 1) := by decide +kernel
theorem dX8_arrange_177 : decode cX8_arrange 177 = .ok (.iinc 3 1, 3) := by decide +kernel
theorem dX8_arrange_180 : decode cX8_arrange 180 = .ok (.iinc 4 1, 3) := by decide +kernel
theorem dX8_arrange_183 : decode cX8_arrange 183 = .ok (.goto (-32), 3) := by decide +kernel
theorem dX8_arrange_186 : decode cX8_arrange 186 = .ok (.aload_n 0, 1) := by decide +kernel
theorem dX8_arrange_187 : decode cX8_arrange 187 = .ok (.aload_n 0, 1) := by decide +kernel
theorem dX8_arrange_188 : decode cX8_arrange 188 = .ok (.getfield 232, 3) := by decide +kernel
theorem dX8_arrange_191 : decode cX8_arrange 191 = .ok (.putfield 113, 3) := by decide +kernel
theorem dX8_arrange_194 : decode cX8_arrange 194 = .ok (.aload_n 0, 1) := by decide +kernel
theorem dX8_arrange_195 : decode cX8_arrange 195 = .ok (.aload_n 0, 1) := by decide +kernel
theorem dX8_arrange_196 : decode cX8_arrange 196 = .ok (.getfield 232, 3) := by decide +kernel
theorem dX8_arrange_199 : decode cX8_arrange 199 = .ok (.invokevirtual 265, 3) := by decide +kernel
theorem dX8_arrange_202 : decode cX8_arrange 202 = .ok (.ireturn, 1) := by decide +kernel
theorem dX8_order_0 : decode cX8_order 0 = .ok (.aload_n 0, 1) := by decide +kernel
theorem dX8_order_1 : decode cX8_order 1 = .ok (.aload_n 0, 1) := by decide +kernel
theorem dX8_order_2 : decode cX8_order 2 = .ok (.iload_n 1, 1) := by decide +kernel
theorem dX8_order_3 : decode cX8_order 3 = .ok (.invokevirtual 119, 3) := by decide +kernel
theorem dX8_order_6 : decode cX8_order 6 = .ok (.ifCond .eq 7, 3) := by decide +kernel
theorem dX8_order_9 : decode cX8_order 9 = .ok (.iconst 0, 1) := by decide +kernel
theorem dX8_order_10 : decode cX8_order 10 = .ok (.goto 4, 3) := by decide +kernel
theorem dX8_order_13 : decode cX8_order 13 = .ok (.iconst 1, 1) := by decide +kernel
theorem dX8_order_14 : decode cX8_order 14 = .ok (.putfield 103, 3) := by decide +kernel
theorem dX8_order_17 : decode cX8_order 17 = .ok (.aload_n 0, 1) := by decide +kernel
theorem dX8_order_18 : decode cX8_order 18 = .ok (.getfield 103, 3) := by decide +kernel
theorem dX8_order_21 : decode cX8_order 21 = .ok (.ifCond .ne 12, 3) := by decide +kernel
theorem dX8_order_24 : decode cX8_order 24 = .ok (.aload_n 0, 1) := by decide +kernel
theorem dX8_order_25 : decode cX8_order 25 = .ok (.getfield 41, 3) := by decide +kernel
theorem dX8_order_28 : decode cX8_order 28 = .ok (.iload_n 1, 1) := by decide +kernel
theorem dX8_order_29 : decode cX8_order 29 = .ok (.iaload, 1) := by decide +kernel
theorem dX8_order_30 : decode cX8_order 30 = .ok (.goto 4, 3) := by decide +kernel
theorem dX8_order_33 : decode cX8_order 33 = .ok (.iconst 0, 1) := by decide +kernel
theorem dX8_order_34 : decode cX8_order 34 = .ok (.ireturn, 1) := by decide +kernel
theorem dX8_place_0 : decode cX8_place 0 = .ok (.aload_n 0, 1) := by decide +kernel
theorem dX8_place_1 : decode cX8_place 1 = .ok (.aload_n 0, 1) := by decide +kernel
theorem dX8_place_2 : decode cX8_place 2 = .ok (.iload_n 1, 1) := by decide +kernel
theorem dX8_place_3 : decode cX8_place 3 = .ok (.invokevirtual 119, 3) := by decide +kernel
theorem dX8_place_6 : decode cX8_place 6 = .ok (.ifCond .ne 7, 3) := by decide +kernel
theorem dX8_place_9 : decode cX8_place 9 = .ok (.iconst 1, 1) := by decide +kernel
theorem dX8_place_10 : decode cX8_place 10 = .ok (.goto 17, 3) := by decide +kernel
theorem dX8_place_13 : decode cX8_place 13 = .ok (.iload_n 2, 1) := by decide +kernel
theorem dX8_place_14 : decode cX8_place 14 = .ok (.iconst 0, 1) := by decide +kernel
theorem dX8_place_15 : decode cX8_place 15 = .ok (.iconst 3, 1) := by decide +kernel
theorem dX8_place_16 : decode cX8_place 16 = .ok (.invokestatic 109, 3) := by decide +kernel
theorem dX8_place_19 : decode cX8_place 19 = .ok (.ifCond .eq 7, 3) := by decide +kernel
theorem dX8_place_22 : decode cX8_place 22 = .ok (.iconst 0, 1) := by decide +kernel
theorem dX8_place_23 : decode cX8_place 23 = .ok (.goto 4, 3) := by decide +kernel
theorem dX8_place_26 : decode cX8_place 26 = .ok (.iconst 2, 1) := by decide +kernel
theorem dX8_place_27 : decode cX8_place 27 = .ok (.putfield 103, 3) := by decide +kernel
theorem dX8_place_30 : decode cX8_place 30 = .ok (.aload_n 0, 1) := by decide +kernel
theorem dX8_place_31 : decode cX8_place 31 = .ok (.getfield 103, 3) := by decide +kernel
theorem dX8_place_34 : decode cX8_place 34 = .ok (.ifCond .eq 5, 3) := by decide +kernel
theorem dX8_place_37 : decode cX8_place 37 = .ok (.iconst 0, 1) := by decide +kernel
theorem dX8_place_38 : decode cX8_place 38 = .ok (.ireturn, 1) := by decide +kernel
theorem dX8_place_39 : decode cX8_place 39 = .ok (.aload_n 0, 1) := by decide +kernel
theorem dX8_place_40 : decode cX8_place 40 = .ok (.invokevirtual 150, 3) := by decide +kernel
theorem dX8_place_43 : decode cX8_place 43 = .ok (.iload_n 2, 1) := by decide +kernel
theorem dX8_place_44 : decode cX8_place 44 = .ok (.tableswitch 48 0 2 #[28, 34, 41], 28) := by decide +kernel
theorem dX8_place_72 : decode cX8_place 72 = .ok (.aload_n 0, 1) := by decide +kernel
theorem dX8_place_73 : decode cX8_place 73 = .ok (.iload_n 1, 1) := by decide +kernel
theorem dX8_place_74 : decode cX8_place 74 = .ok (.invokevirtual 164, 3) := by decide +kernel
theorem dX8_place_77 : decode cX8_place 77 = .ok (.ireturn, 1) := by decide +kernel
theorem dX8_place_78 : decode cX8_place 78 = .ok (.aload_n 0, 1) := by decide +kernel
theorem dX8_place_79 : decode cX8_place 79 = .ok (.getfield 57, 3) := by decide +kernel
theorem dX8_place_82 : decode cX8_place 82 = .ok (.iload_n 1, 1) := by decide +kernel
theorem dX8_place_83 : decode cX8_place 83 = .ok (.iaload, 1) := by decide +kernel
theorem dX8_place_84 : decode cX8_place 84 = .ok (.ireturn, 1) := by decide +kernel
theorem dX8_place_85 : decode cX8_place 85 = .ok (.aload_n 0, 1) := by decide +kernel
theorem dX8_place_86 : decode cX8_place 86 = .ok (.getfield 60, 3) := by decide +kernel
theorem dX8_place_89 : decode cX8_place 89 = .ok (.iload_n 1, 1) := by decide +kernel
theorem dX8_place_90 : decode cX8_place 90 = .ok (.iaload, 1) := by decide +kernel
theorem dX8_place_91 : decode cX8_place 91 = .ok (.ireturn, 1) := by decide +kernel
theorem dX8_place_92 : decode cX8_place 92 = .ok (.aload_n 0, 1) := by decide +kernel
theorem dX8_place_93 : decode cX8_place 93 = .ok (.iload_n 1, 1) := by decide +kernel
theorem dX8_place_94 : decode cX8_place 94 = .ok (.invokevirtual 164, 3) := by decide +kernel
theorem dX8_place_97 : decode cX8_place 97 = .ok (.aload_n 0, 1) := by decide +kernel
theorem dX8_place_98 : decode cX8_place 98 = .ok (.getfield 113, 3) := by decide +kernel
theorem dX8_place_101 : decode cX8_place 101 = .ok (.if_icmp .ge 7, 3) := by decide +kernel
theorem dX8_place_104 : decode cX8_place 104 = .ok (.iconst 1, 1) := by decide +kernel
theorem dX8_place_105 : decode cX8_place 105 = .ok (.goto 4, 3) := by decide +kernel
theorem dX8_place_108 : decode cX8_place 108 = .ok (.iconst 0, 1) := by decide +kernel
theorem dX8_place_109 : decode cX8_place 109 = .ok (.ireturn, 1) := by decide +kernel
theorem dX8_end_0 : decode cX8_end 0 = .ok (.aload_n 0, 1) := by decide +kernel
theorem dX8_end_1 : decode cX8_end 1 = .ok (.aload_n 0, 1) := by decide +kernel
theorem dX8_end_2 : decode cX8_end 2 = .ok (.iload_n 1, 1) := by decide +kernel
theorem dX8_end_3 : decode cX8_end 3 = .ok (.invokevirtual 119, 3) := by decide +kernel
theorem dX8_end_6 : decode cX8_end 6 = .ok (.ifCond .ne 7, 3) := by decide +kernel
theorem dX8_end_9 : decode cX8_end 9 = .ok (.iconst 1, 1) := by decide +kernel
theorem dX8_end_10 : decode cX8_end 10 = .ok (.goto 17, 3) := by decide +kernel
theorem dX8_end_13 : decode cX8_end 13 = .ok (.iload_n 2, 1) := by decide +kernel
theorem dX8_end_14 : decode cX8_end 14 = .ok (.iconst 0, 1) := by decide +kernel
theorem dX8_end_15 : decode cX8_end 15 = .ok (.iconst 3, 1) := by decide +kernel
theorem dX8_end_16 : decode cX8_end 16 = .ok (.invokestatic 109, 3) := by decide +kernel
theorem dX8_end_19 : decode cX8_end 19 = .ok (.ifCond .eq 7, 3) := by decide +kernel
theorem dX8_end_22 : decode cX8_end 22 = .ok (.iconst 0, 1) := by decide +kernel
theorem dX8_end_23 : decode cX8_end 23 = .ok (.goto 4, 3) := by decide +kernel
theorem dX8_end_26 : decode cX8_end 26 = .ok (.iconst 2, 1) := by decide +kernel
theorem dX8_end_27 : decode cX8_end 27 = .ok (.putfield 103, 3) := by decide +kernel
theorem dX8_end_30 : decode cX8_end 30 = .ok (.aload_n 0, 1) := by decide +kernel
theorem dX8_end_31 : decode cX8_end 31 = .ok (.getfield 103, 3) := by decide +kernel
theorem dX8_end_34 : decode cX8_end 34 = .ok (.ifCond .eq 5, 3) := by decide +kernel
theorem dX8_end_37 : decode cX8_end 37 = .ok (.iconst 0, 1) := by decide +kernel
theorem dX8_end_38 : decode cX8_end 38 = .ok (.ireturn, 1) := by decide +kernel
theorem dX8_end_39 : decode cX8_end 39 = .ok (.aload_n 0, 1) := by decide +kernel
theorem dX8_end_40 : decode cX8_end 40 = .ok (.invokevirtual 150, 3) := by decide +kernel
theorem dX8_end_43 : decode cX8_end 43 = .ok (.iload_n 2, 1) := by decide +kernel
theorem dX8_end_44 : decode cX8_end 44 = .ok (.tableswitch 56 0 2 #[28, 35, 41], 28) := by decide +kernel
theorem dX8_end_72 : decode cX8_end 72 = .ok (.aload_n 0, 1) := by decide +kernel
theorem dX8_end_73 : decode cX8_end 73 = .ok (.getfield 63, 3) := by decide +kernel
theorem dX8_end_76 : decode cX8_end 76 = .ok (.iload_n 1, 1) := by decide +kernel
theorem dX8_end_77 : decode cX8_end 77 = .ok (.iaload, 1) := by decide +kernel
theorem dX8_end_78 : decode cX8_end 78 = .ok (.ireturn, 1) := by decide +kernel
theorem dX8_end_79 : decode cX8_end 79 = .ok (.aload_n 0, 1) := by decide +kernel
theorem dX8_end_80 : decode cX8_end 80 = .ok (.iload_n 1, 1) := by decide +kernel
theorem dX8_end_81 : decode cX8_end 81 = .ok (.invokevirtual 176, 3) := by decide +kernel
theorem dX8_end_84 : decode cX8_end 84 = .ok (.ireturn, 1) := by decide +kernel
theorem dX8_end_85 : decode cX8_end 85 = .ok (.aload_n 0, 1) := by decide +kernel
theorem dX8_end_86 : decode cX8_end 86 = .ok (.getfield 66, 3) := by decide +kernel
theorem dX8_end_89 : decode cX8_end 89 = .ok (.iload_n 1, 1) := by decide +kernel
theorem dX8_end_90 : decode cX8_end 90 = .ok (.baload, 1) := by decide +kernel
theorem dX8_end_91 : decode cX8_end 91 = .ok (.ifCond .eq 7, 3) := by decide +kernel
theorem dX8_end_94 : decode cX8_end 94 = .ok (.iconst 1, 1) := by decide +kernel
theorem dX8_end_95 : decode cX8_end 95 = .ok (.goto 4, 3) := by decide +kernel
theorem dX8_end_98 : decode cX8_end 98 = .ok (.iconst 0, 1) := by decide +kernel
theorem dX8_end_99 : decode cX8_end 99 = .ok (.ireturn, 1) := by decide +kernel
theorem dX8_end_100 : decode cX8_end 100 = .ok (.aload_n 0, 1) := by decide +kernel
theorem dX8_end_101 : decode cX8_end 101 = .ok (.getfield 69, 3) := by decide +kernel
theorem dX8_end_104 : decode cX8_end 104 = .ok (.iload_n 1, 1) := by decide +kernel
theorem dX8_end_105 : decode cX8_end 105 = .ok (.baload, 1) := by decide +kernel
theorem dX8_end_106 : decode cX8_end 106 = .ok (.ifCond .eq 7, 3) := by decide +kernel
theorem dX8_end_109 : decode cX8_end 109 = .ok (.iconst 1, 1) := by decide +kernel
theorem dX8_end_110 : decode cX8_end 110 = .ok (.goto 4, 3) := by decide +kernel
theorem dX8_end_113 : decode cX8_end 113 = .ok (.iconst 0, 1) := by decide +kernel
theorem dX8_end_114 : decode cX8_end 114 = .ok (.ireturn, 1) := by decide +kernel
theorem dX8_sumOfPadding_0 : decode cX8_sumOfPadding 0 = .ok (.iconst 0, 1) := by decide +kernel
theorem dX8_sumOfPadding_1 : decode cX8_sumOfPadding 1 = .ok (.istore_n 1, 1) := by decide +kernel
theorem dX8_sumOfPadding_2 : decode cX8_sumOfPadding 2 = .ok (.iconst 0, 1) := by decide +kernel
theorem dX8_sumOfPadding_3 : decode cX8_sumOfPadding 3 = .ok (.istore_n 2, 1) := by decide +kernel
theorem dX8_sumOfPadding_4 : decode cX8_sumOfPadding 4 = .ok (.iload_n 2, 1) := by decide +kernel
theorem dX8_sumOfPadding_5 : decode cX8_sumOfPadding 5 = .ok (.aload_n 0, 1) := by decide +kernel
theorem dX8_sumOfPadding_6 : decode cX8_sumOfPadding 6 = .ok (.getfield 106, 3) := by decide +kernel
theorem dX8_sumOfPadding_9 : decode cX8_sumOfPadding 9 = .ok (.if_icmp .ge 18, 3) := by decide +kernel
theorem dX8_sumOfPadding_12 : decode cX8_sumOfPadding 12 = .ok (.iload_n 1, 1) := by decide +kernel
theorem dX8_sumOfPadding_13 : decode cX8_sumOfPadding 13 = .ok (.aload_n 0, 1) := by decide +kernel
theorem dX8_sumOfPadding_14 : decode cX8_sumOfPadding 14 = .ok (.getfield 60, 3) := by decide +kernel
theorem dX8_sumOfPadding_17 : decode cX8_sumOfPadding 17 = .ok (.iload_n 2, 1) := by decide +kernel
theorem dX8_sumOfPadding_18 : decode cX8_sumOfPadding 18 = .ok (.iaload, 1) := by decide +kernel
theorem dX8_sumOfPadding_19 : decode cX8_sumOfPadding 19 = .ok (.iadd, 1) := by decide +kernel
theorem dX8_sumOfPadding_20 : decode cX8_sumOfPadding 20 = .ok (.istore_n 1, 1) := by decide +kernel
theorem dX8_sumOfPadding_21 : decode cX8_sumOfPadding 21 = .ok (.iinc 2 1, 3) := by decide +kernel
theorem dX8_sumOfPadding_24 : decode cX8_sumOfPadding 24 = .ok (.goto (-20), 3) := by decide +kernel
theorem dX8_sumOfPadding_27 : decode cX8_sumOfPadding 27 = .ok (.iload_n 1, 1) := by decide +kernel
theorem dX8_sumOfPadding_28 : decode cX8_sumOfPadding 28 = .ok (.ireturn, 1) := by decide +kernel
theorem dX8_longOnes_0 : decode cX8_longOnes 0 = .ok (.iconst 0, 1) := by decide +kernel
theorem dX8_longOnes_1 : decode cX8_longOnes 1 = .ok (.istore_n 1, 1) := by decide +kernel
theorem dX8_longOnes_2 : decode cX8_longOnes 2 = .ok (.iconst 0, 1) := by decide +kernel
theorem dX8_longOnes_3 : decode cX8_longOnes 3 = .ok (.istore_n 2, 1) := by decide +kernel
theorem dX8_longOnes_4 : decode cX8_longOnes 4 = .ok (.iload_n 2, 1) := by decide +kernel
theorem dX8_longOnes_5 : decode cX8_longOnes 5 = .ok (.aload_n 0, 1) := by decide +kernel
theorem dX8_longOnes_6 : decode cX8_longOnes 6 = .ok (.getfield 106, 3) := by decide +kernel
theorem dX8_longOnes_9 : decode cX8_longOnes 9 = .ok (.if_icmp .ge 41, 3) := by decide +kernel
theorem dX8_longOnes_12 : decode cX8_longOnes 12 = .ok (.iload_n 1, 1) := by decide +kernel
theorem dX8_longOnes_13 : decode cX8_longOnes 13 = .ok (.aload_n 0, 1) := by decide +kernel
theorem dX8_longOnes_14 : decode cX8_longOnes 14 = .ok (.getfield 66, 3) := by decide +kernel
theorem dX8_longOnes_17 : decode cX8_longOnes 17 = .ok (.iload_n 2, 1) := by decide +kernel
theorem dX8_longOnes_18 : decode cX8_longOnes 18 = .ok (.baload, 1) := by decide +kernel
theorem dX8_longOnes_19 : decode cX8_longOnes 19 = .ok (.ifCond .eq 7, 3) := by decide +kernel
theorem dX8_longOnes_22 : decode cX8_longOnes 22 = .ok (.iconst 1, 1) := by decide +kernel
theorem dX8_longOnes_23 : decode cX8_longOnes 23 = .ok (.goto 4, 3) := by decide +kernel
theorem dX8_longOnes_26 : decode cX8_longOnes 26 = .ok (.iconst 0, 1) := by decide +kernel
theorem dX8_longOnes_27 : decode cX8_longOnes 27 = .ok (.aload_n 0, 1) := by decide +kernel
theorem dX8_longOnes_28 : decode cX8_longOnes 28 = .ok (.getfield 69, 3) := by decide +kernel
theorem dX8_longOnes_31 : decode cX8_longOnes 31 = .ok (.iload_n 2, 1) := by decide +kernel
theorem dX8_longOnes_32 : decode cX8_longOnes 32 = .ok (.baload, 1) := by decide +kernel
theorem dX8_longOnes_33 : decode cX8_longOnes 33 = .ok (.ifCond .eq 7, 3) := by decide +kernel
theorem dX8_longOnes_36 : decode cX8_longOnes 36 = .ok (.iconst 1, 1) := by decide +kernel
theorem dX8_longOnes_37 : decode cX8_longOnes 37 = .ok (.goto 4, 3) := by decide +kernel
theorem dX8_longOnes_40 : decode cX8_longOnes 40 = .ok (.iconst 0, 1) := by decide +kernel
theorem dX8_longOnes_41 : decode cX8_longOnes 41 = .ok (.iadd, 1) := by decide +kernel
theorem dX8_longOnes_42 : decode cX8_longOnes 42 = .ok (.iadd, 1) := by decide +kernel
theorem dX8_longOnes_43 : decode cX8_longOnes 43 = .ok (.istore_n 1, 1) := by decide +kernel
theorem dX8_longOnes_44 : decode cX8_longOnes 44 = .ok (.iinc 2 1, 3) := by decide +kernel
theorem dX8_longOnes_47 : decode cX8_longOnes 47 = .ok (.goto (-43), 3) := by decide +kernel
theorem dX8_longOnes_50 : decode cX8_longOnes 50 = .ok (.iload_n 1, 1) := by decide +kernel
theorem dX8_longOnes_51 : decode cX8_longOnes 51 = .ok (.ireturn, 1) := by decide +kernel
theorem dX8_invertedOnes_0 : decode cX8_invertedOnes 0 = .ok (.iconst 0, 1) := by decide +kernel
theorem dX8_invertedOnes_1 : decode cX8_invertedOnes 1 = .ok (.istore_n 1, 1) := by decide +kernel
theorem dX8_invertedOnes_2 : decode cX8_invertedOnes 2 = .ok (.iconst 0, 1) := by decide +kernel
theorem dX8_invertedOnes_3 : decode cX8_invertedOnes 3 = .ok (.istore_n 2, 1) := by decide +kernel
theorem dX8_invertedOnes_4 : decode cX8_invertedOnes 4 = .ok (.iload_n 2, 1) := by decide +kernel
theorem dX8_invertedOnes_5 : decode cX8_invertedOnes 5 = .ok (.aload_n 0, 1) := by decide +kernel
theorem dX8_invertedOnes_6 : decode cX8_invertedOnes 6 = .ok (.getfield 106, 3) := by decide +kernel
theorem dX8_invertedOnes_9 : decode cX8_invertedOnes 9 = .ok (.if_icmp .ge 27, 3) := by decide +kernel
theorem dX8_invertedOnes_12 : decode cX8_invertedOnes 12 = .ok (.iload_n 1, 1) := by decide +kernel
theorem dX8_invertedOnes_13 : decode cX8_invertedOnes 13 = .ok (.aload_n 0, 1) := by decide +kernel
theorem dX8_invertedOnes_14 : decode cX8_invertedOnes 14 = .ok (.getfield 63, 3) := by decide +kernel
theorem dX8_invertedOnes_17 : decode cX8_invertedOnes 17 = .ok (.iload_n 2, 1) := by decide +kernel
theorem dX8_invertedOnes_18 : decode cX8_invertedOnes 18 = .ok (.iaload, 1) := by decide +kernel
theorem dX8_invertedOnes_19 : decode cX8_invertedOnes 19 = .ok (.iconst 3, 1) := by decide +kernel
theorem dX8_invertedOnes_20 : decode cX8_invertedOnes 20 = .ok (.if_icmp .ne 7, 3) := by decide +kernel
theorem dX8_invertedOnes_23 : decode cX8_invertedOnes 23 = .ok (.iconst 1, 1) := by decide +kernel
theorem dX8_invertedOnes_24 : decode cX8_invertedOnes 24 = .ok (.goto 4, 3) := by decide +kernel
theorem dX8_invertedOnes_27 : decode cX8_invertedOnes 27 = .ok (.iconst 0, 1) := by decide +kernel
theorem dX8_invertedOnes_28 : decode cX8_invertedOnes 28 = .ok (.iadd, 1) := by decide +kernel
theorem dX8_invertedOnes_29 : decode cX8_invertedOnes 29 = .ok (.istore_n 1, 1) := by decide +kernel
theorem dX8_invertedOnes_30 : decode cX8_invertedOnes 30 = .ok (.iinc 2 1, 3) := by decide +kernel
theorem dX8_invertedOnes_33 : decode cX8_invertedOnes 33 = .ok (.goto (-29), 3) := by decide +kernel
theorem dX8_invertedOnes_36 : decode cX8_invertedOnes 36 = .ok (.iload_n 1, 1) := by decide +kernel
theorem dX8_invertedOnes_37 : decode cX8_invertedOnes 37 = .ok (.ireturn, 1) := by decide +kernel
theorem dX8_layout_0 : decode cX8_layout 0 = .ok (.aload_n 0, 1) := by decide +kernel
theorem dX8_layout_1 : decode cX8_layout 1 = .ok (.iload_n 1, 1) := by decide +kernel
theorem dX8_layout_2 : decode cX8_layout 2 = .ok (.iconst 0, 1) := by decide +kernel
theorem dX8_layout_3 : decode cX8_layout 3 = .ok (.bipush 8, 2) := by decide +kernel
theorem dX8_layout_5 : decode cX8_layout 5 = .ok (.invokestatic 109, 3) := by decide +kernel
theorem dX8_layout_8 : decode cX8_layout 8 = .ok (.ifCond .eq 7, 3) := by decide +kernel
theorem dX8_layout_11 : decode cX8_layout 11 = .ok (.iconst 0, 1) := by decide +kernel
theorem dX8_layout_12 : decode cX8_layout 12 = .ok (.goto 4, 3) := by decide +kernel
theorem dX8_layout_15 : decode cX8_layout 15 = .ok (.iconst 1, 1) := by decide +kernel
theorem dX8_layout_16 : decode cX8_layout 16 = .ok (.putfield 103, 3) := by decide +kernel
theorem dX8_layout_19 : decode cX8_layout 19 = .ok (.aload_n 0, 1) := by decide +kernel
theorem dX8_layout_20 : decode cX8_layout 20 = .ok (.getfield 103, 3) := by decide +kernel
theorem dX8_layout_23 : decode cX8_layout 23 = .ok (.ifCond .eq 5, 3) := by decide +kernel
theorem dX8_layout_26 : decode cX8_layout 26 = .ok (.iconst 0, 1) := by decide +kernel
theorem dX8_layout_27 : decode cX8_layout 27 = .ok (.ireturn, 1) := by decide +kernel
theorem dX8_layout_28 : decode cX8_layout 28 = .ok (.aload_n 0, 1) := by decide +kernel
theorem dX8_layout_29 : decode cX8_layout 29 = .ok (.invokevirtual 150, 3) := by decide +kernel
theorem dX8_layout_32 : decode cX8_layout 32 = .ok (.iload_n 1, 1) := by decide +kernel
theorem dX8_layout_33 : decode cX8_layout 33 = .ok (.tableswitch 91 0 7 #[47, 52, 57, 62, 67, 72, 81, 86], 47) := by decide +kernel
theorem dX8_layout_80 : decode cX8_layout 80 = .ok (.aload_n 0, 1) := by decide +kernel
theorem dX8_layout_81 : decode cX8_layout 81 = .ok (.getfield 179, 3) := by decide +kernel
theorem dX8_layout_84 : decode cX8_layout 84 = .ok (.ireturn, 1) := by decide +kernel
theorem dX8_layout_85 : decode cX8_layout 85 = .ok (.aload_n 0, 1) := by decide +kernel
theorem dX8_layout_86 : decode cX8_layout 86 = .ok (.getfield 182, 3) := by decide +kernel
theorem dX8_layout_89 : decode cX8_layout 89 = .ok (.ireturn, 1) := by decide +kernel
theorem dX8_layout_90 : decode cX8_layout 90 = .ok (.aload_n 0, 1) := by decide +kernel
theorem dX8_layout_91 : decode cX8_layout 91 = .ok (.getfield 113, 3) := by decide +kernel
theorem dX8_layout_94 : decode cX8_layout 94 = .ok (.ireturn, 1) := by decide +kernel
theorem dX8_layout_95 : decode cX8_layout 95 = .ok (.aload_n 0, 1) := by decide +kernel
theorem dX8_layout_96 : decode cX8_layout 96 = .ok (.invokevirtual 268, 3) := by decide +kernel
theorem dX8_layout_99 : decode cX8_layout 99 = .ok (.ireturn, 1) := by decide +kernel
theorem dX8_layout_100 : decode cX8_layout 100 = .ok (.aload_n 0, 1) := by decide +kernel
theorem dX8_layout_101 : decode cX8_layout 101 = .ok (.invokevirtual 271, 3) := by decide +kernel
theorem dX8_layout_104 : decode cX8_layout 104 = .ok (.ireturn, 1) := by decide +kernel
theorem dX8_layout_105 : decode cX8_layout 105 = .ok (.aload_n 0, 1) := by decide +kernel
theorem dX8_layout_106 : decode cX8_layout 106 = .ok (.aload_n 0, 1) := by decide +kernel
theorem dX8_layout_107 : decode cX8_layout 107 = .ok (.getfield 106, 3) := by decide +kernel
theorem dX8_layout_110 : decode cX8_layout 110 = .ok (.invokevirtual 265, 3) := by decide +kernel
theorem dX8_layout_113 : decode cX8_layout 113 = .ok (.ireturn, 1) := by decide +kernel
theorem dX8_layout_114 : decode cX8_layout 114 = .ok (.aload_n 0, 1) := by decide +kernel
theorem dX8_layout_115 : decode cX8_layout 115 = .ok (.invokevirtual 274, 3) := by decide +kernel
theorem dX8_layout_118 : decode cX8_layout 118 = .ok (.ireturn, 1) := by decide +kernel
theorem dX8_layout_119 : decode cX8_layout 119 = .ok (.aload_n 0, 1) := by decide +kernel
theorem dX8_layout_120 : decode cX8_layout 120 = .ok (.getfield 7, 3) := by decide +kernel
theorem dX8_layout_123 : decode cX8_layout 123 = .ok (.ireturn, 1) := by decide +kernel
theorem dX8_layout_124 : decode cX8_layout 124 = .ok (.aload_n 0, 1) := by decide +kernel
theorem dX8_layout_125 : decode cX8_layout 125 = .ok (.getfield 13, 3) := by decide +kernel
theorem dX8_layout_128 : decode cX8_layout 128 = .ok (.ireturn, 1) := by decide +kernel
theorem dX8_through_0 : decode cX8_through 0 = .ok (.aload_n 0, 1) := by decide +kernel
theorem dX8_through_1 : decode cX8_through 1 = .ok (.iload_n 1, 1) := by decide +kernel
theorem dX8_through_2 : decode cX8_through 2 = .ok (.iload_n 2, 1) := by decide +kernel
theorem dX8_through_3 : decode cX8_through 3 = .ok (.invokevirtual 156, 3) := by decide +kernel
theorem dX8_through_6 : decode cX8_through 6 = .ok (.tableswitch 51 0 3 #[30, 51, 37, 44], 30) := by decide +kernel
theorem dX8_through_36 : decode cX8_through 36 = .ok (.aload_n 0, 1) := by decide +kernel
theorem dX8_through_37 : decode cX8_through 37 = .ok (.getfield 35, 3) := by decide +kernel
theorem dX8_through_40 : decode cX8_through 40 = .ok (.iload_n 1, 1) := by decide +kernel
theorem dX8_through_41 : decode cX8_through 41 = .ok (.iaload, 1) := by decide +kernel
theorem dX8_through_42 : decode cX8_through 42 = .ok (.ireturn, 1) := by decide +kernel
theorem dX8_through_43 : decode cX8_through 43 = .ok (.aload_n 0, 1) := by decide +kernel
theorem dX8_through_44 : decode cX8_through 44 = .ok (.getfield 38, 3) := by decide +kernel
theorem dX8_through_47 : decode cX8_through 47 = .ok (.iload_n 1, 1) := by decide +kernel
theorem dX8_through_48 : decode cX8_through 48 = .ok (.iaload, 1) := by decide +kernel
theorem dX8_through_49 : decode cX8_through 49 = .ok (.ireturn, 1) := by decide +kernel
theorem dX8_through_50 : decode cX8_through 50 = .ok (.aload_n 0, 1) := by decide +kernel
theorem dX8_through_51 : decode cX8_through 51 = .ok (.getfield 35, 3) := by decide +kernel
theorem dX8_through_54 : decode cX8_through 54 = .ok (.iload_n 1, 1) := by decide +kernel
theorem dX8_through_55 : decode cX8_through 55 = .ok (.iaload, 1) := by decide +kernel
theorem dX8_through_56 : decode cX8_through 56 = .ok (.ireturn, 1) := by decide +kernel
theorem dX8_through_57 : decode cX8_through 57 = .ok (.iconst 0, 1) := by decide +kernel
theorem dX8_through_58 : decode cX8_through 58 = .ok (.ireturn, 1) := by decide +kernel
theorem dX8_cyclesNow_0 : decode cX8_cyclesNow 0 = .ok (.aload_n 0, 1) := by decide +kernel
theorem dX8_cyclesNow_1 : decode cX8_cyclesNow 1 = .ok (.invokevirtual 150, 3) := by decide +kernel
theorem dX8_cyclesNow_4 : decode cX8_cyclesNow 4 = .ok (.aload_n 0, 1) := by decide +kernel
theorem dX8_cyclesNow_5 : decode cX8_cyclesNow 5 = .ok (.aload_n 0, 1) := by decide +kernel
theorem dX8_cyclesNow_6 : decode cX8_cyclesNow 6 = .ok (.getfield 106, 3) := by decide +kernel
theorem dX8_cyclesNow_9 : decode cX8_cyclesNow 9 = .ok (.invokevirtual 265, 3) := by decide +kernel
theorem dX8_cyclesNow_12 : decode cX8_cyclesNow 12 = .ok (.istore_n 1, 1) := by decide +kernel
theorem dX8_cyclesNow_13 : decode cX8_cyclesNow 13 = .ok (.iconst 0, 1) := by decide +kernel
theorem dX8_cyclesNow_14 : decode cX8_cyclesNow 14 = .ok (.istore_n 2, 1) := by decide +kernel
theorem dX8_cyclesNow_15 : decode cX8_cyclesNow 15 = .ok (.iload_n 2, 1) := by decide +kernel
theorem dX8_cyclesNow_16 : decode cX8_cyclesNow 16 = .ok (.aload_n 0, 1) := by decide +kernel
theorem dX8_cyclesNow_17 : decode cX8_cyclesNow 17 = .ok (.getfield 106, 3) := by decide +kernel
theorem dX8_cyclesNow_20 : decode cX8_cyclesNow 20 = .ok (.if_icmp .ge 41, 3) := by decide +kernel
theorem dX8_cyclesNow_23 : decode cX8_cyclesNow 23 = .ok (.aload_n 0, 1) := by decide +kernel
theorem dX8_cyclesNow_24 : decode cX8_cyclesNow 24 = .ok (.iload_n 2, 1) := by decide +kernel
theorem dX8_cyclesNow_25 : decode cX8_cyclesNow 25 = .ok (.invokevirtual 153, 3) := by decide +kernel
theorem dX8_cyclesNow_28 : decode cX8_cyclesNow 28 = .ok (.istore_n 3, 1) := by decide +kernel
theorem dX8_cyclesNow_29 : decode cX8_cyclesNow 29 = .ok (.iload_n 1, 1) := by decide +kernel
theorem dX8_cyclesNow_30 : decode cX8_cyclesNow 30 = .ok (.iload_n 3, 1) := by decide +kernel
theorem dX8_cyclesNow_31 : decode cX8_cyclesNow 31 = .ok (.ifCond .lt 21, 3) := by decide +kernel
theorem dX8_cyclesNow_34 : decode cX8_cyclesNow 34 = .ok (.aload_n 0, 1) := by decide +kernel
theorem dX8_cyclesNow_35 : decode cX8_cyclesNow 35 = .ok (.getfield 60, 3) := by decide +kernel
theorem dX8_cyclesNow_38 : decode cX8_cyclesNow 38 = .ok (.iload_n 3, 1) := by decide +kernel
theorem dX8_cyclesNow_39 : decode cX8_cyclesNow 39 = .ok (.iaload, 1) := by decide +kernel
theorem dX8_cyclesNow_40 : decode cX8_cyclesNow 40 = .ok (.ifCond .le 12, 3) := by decide +kernel
theorem dX8_cyclesNow_43 : decode cX8_cyclesNow 43 = .ok (.aload_n 0, 1) := by decide +kernel
theorem dX8_cyclesNow_44 : decode cX8_cyclesNow 44 = .ok (.iload_n 2, 1) := by decide +kernel
theorem dX8_cyclesNow_45 : decode cX8_cyclesNow 45 = .ok (.iload_n 3, 1) := by decide +kernel
theorem dX8_cyclesNow_46 : decode cX8_cyclesNow 46 = .ok (.invokevirtual 277, 3) := by decide +kernel
theorem dX8_cyclesNow_49 : decode cX8_cyclesNow 49 = .ok (.goto 4, 3) := by decide +kernel
theorem dX8_cyclesNow_52 : decode cX8_cyclesNow 52 = .ok (.iconst 0, 1) := by decide +kernel
theorem dX8_cyclesNow_53 : decode cX8_cyclesNow 53 = .ok (.iadd, 1) := by decide +kernel
theorem dX8_cyclesNow_54 : decode cX8_cyclesNow 54 = .ok (.istore_n 1, 1) := by decide +kernel
theorem dX8_cyclesNow_55 : decode cX8_cyclesNow 55 = .ok (.iinc 2 1, 3) := by decide +kernel
theorem dX8_cyclesNow_58 : decode cX8_cyclesNow 58 = .ok (.goto (-43), 3) := by decide +kernel
theorem dX8_cyclesNow_61 : decode cX8_cyclesNow 61 = .ok (.iload_n 1, 1) := by decide +kernel
theorem dX8_cyclesNow_62 : decode cX8_cyclesNow 62 = .ok (.ireturn, 1) := by decide +kernel
theorem dX8_cycles_0 : decode cX8_cycles 0 = .ok (.aload_n 0, 1) := by decide +kernel
theorem dX8_cycles_1 : decode cX8_cycles 1 = .ok (.iconst 0, 1) := by decide +kernel
theorem dX8_cycles_2 : decode cX8_cycles 2 = .ok (.putfield 103, 3) := by decide +kernel
theorem dX8_cycles_5 : decode cX8_cycles 5 = .ok (.aload_n 0, 1) := by decide +kernel
theorem dX8_cycles_6 : decode cX8_cycles 6 = .ok (.invokevirtual 280, 3) := by decide +kernel
theorem dX8_cycles_9 : decode cX8_cycles 9 = .ok (.ireturn, 1) := by decide +kernel
theorem dX8_meanCycles_0 : decode cX8_meanCycles 0 = .ok (.aload_n 0, 1) := by decide +kernel
theorem dX8_meanCycles_1 : decode cX8_meanCycles 1 = .ok (.invokevirtual 160, 3) := by decide +kernel
theorem dX8_meanCycles_4 : decode cX8_meanCycles 4 = .ok (.istore_n 1, 1) := by decide +kernel
theorem dX8_meanCycles_5 : decode cX8_meanCycles 5 = .ok (.aload_n 0, 1) := by decide +kernel
theorem dX8_meanCycles_6 : decode cX8_meanCycles 6 = .ok (.iload_n 1, 1) := by decide +kernel
theorem dX8_meanCycles_7 : decode cX8_meanCycles 7 = .ok (.ifCond .ne 7, 3) := by decide +kernel
theorem dX8_meanCycles_10 : decode cX8_meanCycles 10 = .ok (.iconst 1, 1) := by decide +kernel
theorem dX8_meanCycles_11 : decode cX8_meanCycles 11 = .ok (.goto 4, 3) := by decide +kernel
theorem dX8_meanCycles_14 : decode cX8_meanCycles 14 = .ok (.iconst 0, 1) := by decide +kernel
theorem dX8_meanCycles_15 : decode cX8_meanCycles 15 = .ok (.putfield 103, 3) := by decide +kernel
theorem dX8_meanCycles_18 : decode cX8_meanCycles 18 = .ok (.aload_n 0, 1) := by decide +kernel
theorem dX8_meanCycles_19 : decode cX8_meanCycles 19 = .ok (.getfield 103, 3) := by decide +kernel
theorem dX8_meanCycles_22 : decode cX8_meanCycles 22 = .ok (.ifCond .ne 14, 3) := by decide +kernel
theorem dX8_meanCycles_25 : decode cX8_meanCycles 25 = .ok (.aload_n 0, 1) := by decide +kernel
theorem dX8_meanCycles_26 : decode cX8_meanCycles 26 = .ok (.invokevirtual 280, 3) := by decide +kernel
theorem dX8_meanCycles_29 : decode cX8_meanCycles 29 = .ok (.i2d, 1) := by decide +kernel
theorem dX8_meanCycles_30 : decode cX8_meanCycles 30 = .ok (.iload_n 1, 1) := by decide +kernel
theorem dX8_meanCycles_31 : decode cX8_meanCycles 31 = .ok (.i2d, 1) := by decide +kernel
theorem dX8_meanCycles_32 : decode cX8_meanCycles 32 = .ok (.ddiv, 1) := by decide +kernel
theorem dX8_meanCycles_33 : decode cX8_meanCycles 33 = .ok (.goto 4, 3) := by decide +kernel
theorem dX8_meanCycles_36 : decode cX8_meanCycles 36 = .ok (.dconst 0, 1) := by decide +kernel
theorem dX8_meanCycles_37 : decode cX8_meanCycles 37 = .ok (.dreturn, 1) := by decide +kernel
theorem dX8_bestAlignment_0 : decode cX8_bestAlignment 0 = .ok (.aload_n 0, 1) := by decide +kernel
theorem dX8_bestAlignment_1 : decode cX8_bestAlignment 1 = .ok (.iconst 0, 1) := by decide +kernel
theorem dX8_bestAlignment_2 : decode cX8_bestAlignment 2 = .ok (.putfield 103, 3) := by decide +kernel
theorem dX8_bestAlignment_5 : decode cX8_bestAlignment 5 = .ok (.aload_n 0, 1) := by decide +kernel
theorem dX8_bestAlignment_6 : decode cX8_bestAlignment 6 = .ok (.getfield 7, 3) := by decide +kernel
theorem dX8_bestAlignment_9 : decode cX8_bestAlignment 9 = .ok (.istore_n 1, 1) := by decide +kernel
theorem dX8_bestAlignment_10 : decode cX8_bestAlignment 10 = .ok (.iconst 0, 1) := by decide +kernel
theorem dX8_bestAlignment_11 : decode cX8_bestAlignment 11 = .ok (.istore_n 2, 1) := by decide +kernel
theorem dX8_bestAlignment_12 : decode cX8_bestAlignment 12 = .ok (.iconst 0, 1) := by decide +kernel
theorem dX8_bestAlignment_13 : decode cX8_bestAlignment 13 = .ok (.istore_n 3, 1) := by decide +kernel
theorem dX8_bestAlignment_14 : decode cX8_bestAlignment 14 = .ok (.iconst 0, 1) := by decide +kernel
theorem dX8_bestAlignment_15 : decode cX8_bestAlignment 15 = .ok (.istore 4, 2) := by decide +kernel
theorem dX8_bestAlignment_17 : decode cX8_bestAlignment 17 = .ok (.iconst 1, 1) := by decide +kernel
theorem dX8_bestAlignment_18 : decode cX8_bestAlignment 18 = .ok (.istore 5, 2) := by decide +kernel
theorem dX8_bestAlignment_20 : decode cX8_bestAlignment 20 = .ok (.iload 5, 2) := by decide +kernel
theorem dX8_bestAlignment_22 : decode cX8_bestAlignment 22 = .ok (.bipush 32, 2) := by decide +kernel
theorem dX8_bestAlignment_24 : decode cX8_bestAlignment 24 = .ok (.if_icmp .gt 61, 3) := by decide +kernel
theorem dX8_bestAlignment_27 : decode cX8_bestAlignment 27 = .ok (.aload_n 0, 1) := by decide +kernel
theorem dX8_bestAlignment_28 : decode cX8_bestAlignment 28 = .ok (.iload 5, 2) := by decide +kernel
theorem dX8_bestAlignment_30 : decode cX8_bestAlignment 30 = .ok (.putfield 7, 3) := by decide +kernel
theorem dX8_bestAlignment_33 : decode cX8_bestAlignment 33 = .ok (.aload_n 0, 1) := by decide +kernel
theorem dX8_bestAlignment_34 : decode cX8_bestAlignment 34 = .ok (.invokevirtual 280, 3) := by decide +kernel
theorem dX8_bestAlignment_37 : decode cX8_bestAlignment 37 = .ok (.istore 6, 2) := by decide +kernel
theorem dX8_bestAlignment_39 : decode cX8_bestAlignment 39 = .ok (.iload_n 2, 1) := by decide +kernel
theorem dX8_bestAlignment_40 : decode cX8_bestAlignment 40 = .ok (.ifCond .eq 24, 3) := by decide +kernel
theorem dX8_bestAlignment_43 : decode cX8_bestAlignment 43 = .ok (.iload 6, 2) := by decide +kernel
theorem dX8_bestAlignment_45 : decode cX8_bestAlignment 45 = .ok (.iload_n 3, 1) := by decide +kernel
theorem dX8_bestAlignment_46 : decode cX8_bestAlignment 46 = .ok (.if_icmp .lt 18, 3) := by decide +kernel
theorem dX8_bestAlignment_49 : decode cX8_bestAlignment 49 = .ok (.iload 6, 2) := by decide +kernel
theorem dX8_bestAlignment_51 : decode cX8_bestAlignment 51 = .ok (.iload_n 3, 1) := by decide +kernel
theorem dX8_bestAlignment_52 : decode cX8_bestAlignment 52 = .ok (.if_icmp .ne 24, 3) := by decide +kernel
theorem dX8_bestAlignment_55 : decode cX8_bestAlignment 55 = .ok (.aload_n 0, 1) := by decide +kernel
theorem dX8_bestAlignment_56 : decode cX8_bestAlignment 56 = .ok (.getfield 182, 3) := by decide +kernel
theorem dX8_bestAlignment_59 : decode cX8_bestAlignment 59 = .ok (.iload 4, 2) := by decide +kernel
theorem dX8_bestAlignment_61 : decode cX8_bestAlignment 61 = .ok (.if_icmp .ge 15, 3) := by decide +kernel
theorem dX8_bestAlignment_64 : decode cX8_bestAlignment 64 = .ok (.iload 5, 2) := by decide +kernel
theorem dX8_bestAlignment_66 : decode cX8_bestAlignment 66 = .ok (.istore_n 2, 1) := by decide +kernel
theorem dX8_bestAlignment_67 : decode cX8_bestAlignment 67 = .ok (.iload 6, 2) := by decide +kernel
theorem dX8_bestAlignment_69 : decode cX8_bestAlignment 69 = .ok (.istore_n 3, 1) := by decide +kernel
theorem dX8_bestAlignment_70 : decode cX8_bestAlignment 70 = .ok (.aload_n 0, 1) := by decide +kernel
theorem dX8_bestAlignment_71 : decode cX8_bestAlignment 71 = .ok (.getfield 182, 3) := by decide +kernel
theorem dX8_bestAlignment_74 : decode cX8_bestAlignment 74 = .ok (.istore 4, 2) := by decide +kernel
theorem dX8_bestAlignment_76 : decode cX8_bestAlignment 76 = .ok (.iload 5, 2) := by decide +kernel
theorem dX8_bestAlignment_78 : decode cX8_bestAlignment 78 = .ok (.iconst 2, 1) := by decide +kernel
theorem dX8_bestAlignment_79 : decode cX8_bestAlignment 79 = .ok (.imul, 1) := by decide +kernel
theorem dX8_bestAlignment_80 : decode cX8_bestAlignment 80 = .ok (.istore 5, 2) := by decide +kernel
theorem dX8_bestAlignment_82 : decode cX8_bestAlignment 82 = .ok (.goto (-62), 3) := by decide +kernel
theorem dX8_bestAlignment_85 : decode cX8_bestAlignment 85 = .ok (.aload_n 0, 1) := by decide +kernel
theorem dX8_bestAlignment_86 : decode cX8_bestAlignment 86 = .ok (.iload_n 1, 1) := by decide +kernel
theorem dX8_bestAlignment_87 : decode cX8_bestAlignment 87 = .ok (.putfield 7, 3) := by decide +kernel
theorem dX8_bestAlignment_90 : decode cX8_bestAlignment 90 = .ok (.iload_n 2, 1) := by decide +kernel
theorem dX8_bestAlignment_91 : decode cX8_bestAlignment 91 = .ok (.ireturn, 1) := by decide +kernel
theorem dX8_feed_0 : decode cX8_feed 0 = .ok (.aload_n 0, 1) := by decide +kernel
theorem dX8_feed_1 : decode cX8_feed 1 = .ok (.aload_n 0, 1) := by decide +kernel
theorem dX8_feed_2 : decode cX8_feed 2 = .ok (.getfield 283, 3) := by decide +kernel
theorem dX8_feed_5 : decode cX8_feed 5 = .ok (.bipush 60, 2) := by decide +kernel
theorem dX8_feed_7 : decode cX8_feed 7 = .ok (.if_icmp .ne 7, 3) := by decide +kernel
theorem dX8_feed_10 : decode cX8_feed 10 = .ok (.iconst 1, 1) := by decide +kernel
theorem dX8_feed_11 : decode cX8_feed 11 = .ok (.goto 4, 3) := by decide +kernel
theorem dX8_feed_14 : decode cX8_feed 14 = .ok (.iconst 0, 1) := by decide +kernel
theorem dX8_feed_15 : decode cX8_feed 15 = .ok (.putfield 103, 3) := by decide +kernel
theorem dX8_feed_18 : decode cX8_feed 18 = .ok (.aload_n 0, 1) := by decide +kernel
theorem dX8_feed_19 : decode cX8_feed 19 = .ok (.getfield 103, 3) := by decide +kernel
theorem dX8_feed_22 : decode cX8_feed 22 = .ok (.ifCond .eq 5, 3) := by decide +kernel
theorem dX8_feed_25 : decode cX8_feed 25 = .ok (.iconst 0, 1) := by decide +kernel
theorem dX8_feed_26 : decode cX8_feed 26 = .ok (.ireturn, 1) := by decide +kernel
theorem dX8_feed_27 : decode cX8_feed 27 = .ok (.aload_n 0, 1) := by decide +kernel
theorem dX8_feed_28 : decode cX8_feed 28 = .ok (.getfield 93, 3) := by decide +kernel
theorem dX8_feed_31 : decode cX8_feed 31 = .ok (.aload_n 0, 1) := by decide +kernel
theorem dX8_feed_32 : decode cX8_feed 32 = .ok (.getfield 283, 3) := by decide +kernel
theorem dX8_feed_35 : decode cX8_feed 35 = .ok (.iload_n 1, 1) := by decide +kernel
theorem dX8_feed_36 : decode cX8_feed 36 = .ok (.iastore, 1) := by decide +kernel
theorem dX8_feed_37 : decode cX8_feed 37 = .ok (.aload_n 0, 1) := by decide +kernel
theorem dX8_feed_38 : decode cX8_feed 38 = .ok (.dup, 1) := by decide +kernel
theorem dX8_feed_39 : decode cX8_feed 39 = .ok (.getfield 283, 3) := by decide +kernel
theorem dX8_feed_42 : decode cX8_feed 42 = .ok (.iconst 1, 1) := by decide +kernel
theorem dX8_feed_43 : decode cX8_feed 43 = .ok (.iadd, 1) := by decide +kernel
theorem dX8_feed_44 : decode cX8_feed 44 = .ok (.putfield 283, 3) := by decide +kernel
theorem dX8_feed_47 : decode cX8_feed 47 = .ok (.aload_n 0, 1) := by decide +kernel
theorem dX8_feed_48 : decode cX8_feed 48 = .ok (.getfield 283, 3) := by decide +kernel
theorem dX8_feed_51 : decode cX8_feed 51 = .ok (.ireturn, 1) := by decide +kernel
theorem dX8_here_0 : decode cX8_here 0 = .ok (.aload_n 0, 1) := by decide +kernel
theorem dX8_here_1 : decode cX8_here 1 = .ok (.getfield 286, 3) := by decide +kernel
theorem dX8_here_4 : decode cX8_here 4 = .ok (.aload_n 0, 1) := by decide +kernel
theorem dX8_here_5 : decode cX8_here 5 = .ok (.getfield 283, 3) := by decide +kernel
theorem dX8_here_8 : decode cX8_here 8 = .ok (.if_icmp .ge 15, 3) := by decide +kernel
theorem dX8_here_11 : decode cX8_here 11 = .ok (.aload_n 0, 1) := by decide +kernel
theorem dX8_here_12 : decode cX8_here 12 = .ok (.getfield 93, 3) := by decide +kernel
theorem dX8_here_15 : decode cX8_here 15 = .ok (.aload_n 0, 1) := by decide +kernel
theorem dX8_here_16 : decode cX8_here 16 = .ok (.getfield 286, 3) := by decide +kernel
theorem dX8_here_19 : decode cX8_here 19 = .ok (.iaload, 1) := by decide +kernel
theorem dX8_here_20 : decode cX8_here 20 = .ok (.goto 4, 3) := by decide +kernel
theorem dX8_here_23 : decode cX8_here 23 = .ok (.iconst (-1), 1) := by decide +kernel
theorem dX8_here_24 : decode cX8_here 24 = .ok (.ireturn, 1) := by decide +kernel
theorem dX8_takes_0 : decode cX8_takes 0 = .ok (.iconst 0, 1) := by decide +kernel
theorem dX8_takes_1 : decode cX8_takes 1 = .ok (.istore_n 2, 1) := by decide +kernel
theorem dX8_takes_2 : decode cX8_takes 2 = .ok (.iload_n 2, 1) := by decide +kernel
theorem dX8_takes_3 : decode cX8_takes 3 = .ok (.aload_n 1, 1) := by decide +kernel
theorem dX8_takes_4 : decode cX8_takes 4 = .ok (.invokevirtual 289, 3) := by decide +kernel
theorem dX8_takes_7 : decode cX8_takes 7 = .ok (.if_icmp .ge 33, 3) := by decide +kernel
theorem dX8_takes_10 : decode cX8_takes 10 = .ok (.aload_n 0, 1) := by decide +kernel
theorem dX8_takes_11 : decode cX8_takes 11 = .ok (.invokevirtual 293, 3) := by decide +kernel
theorem dX8_takes_14 : decode cX8_takes 14 = .ok (.aload_n 1, 1) := by decide +kernel
theorem dX8_takes_15 : decode cX8_takes 15 = .ok (.iload_n 2, 1) := by decide +kernel
theorem dX8_takes_16 : decode cX8_takes 16 = .ok (.invokevirtual 296, 3) := by decide +kernel
theorem dX8_takes_19 : decode cX8_takes 19 = .ok (.if_icmp .eq 5, 3) := by decide +kernel
theorem dX8_takes_22 : decode cX8_takes 22 = .ok (.iconst 0, 1) := by decide +kernel
theorem dX8_takes_23 : decode cX8_takes 23 = .ok (.ireturn, 1) := by decide +kernel
theorem dX8_takes_24 : decode cX8_takes 24 = .ok (.aload_n 0, 1) := by decide +kernel
theorem dX8_takes_25 : decode cX8_takes 25 = .ok (.dup, 1) := by decide +kernel
theorem dX8_takes_26 : decode cX8_takes 26 = .ok (.getfield 286, 3) := by decide +kernel
theorem dX8_takes_29 : decode cX8_takes 29 = .ok (.iconst 1, 1) := by decide +kernel
theorem dX8_takes_30 : decode cX8_takes 30 = .ok (.iadd, 1) := by decide +kernel
theorem dX8_takes_31 : decode cX8_takes 31 = .ok (.putfield 286, 3) := by decide +kernel
theorem dX8_takes_34 : decode cX8_takes 34 = .ok (.iinc 2 1, 3) := by decide +kernel
theorem dX8_takes_37 : decode cX8_takes 37 = .ok (.goto (-35), 3) := by decide +kernel
theorem dX8_takes_40 : decode cX8_takes 40 = .ok (.iconst 1, 1) := by decide +kernel
theorem dX8_takes_41 : decode cX8_takes 41 = .ok (.ireturn, 1) := by decide +kernel
theorem dX8_takesNumber_0 : decode cX8_takesNumber 0 = .ok (.aload_n 0, 1) := by decide +kernel
theorem dX8_takesNumber_1 : decode cX8_takesNumber 1 = .ok (.invokevirtual 293, 3) := by decide +kernel
theorem dX8_takesNumber_4 : decode cX8_takesNumber 4 = .ok (.bipush 48, 2) := by decide +kernel
theorem dX8_takesNumber_6 : decode cX8_takesNumber 6 = .ok (.bipush 57, 2) := by decide +kernel
theorem dX8_takesNumber_8 : decode cX8_takesNumber 8 = .ok (.invokestatic 109, 3) := by decide +kernel
theorem dX8_takesNumber_11 : decode cX8_takesNumber 11 = .ok (.ifCond .ne 5, 3) := by decide +kernel
theorem dX8_takesNumber_14 : decode cX8_takesNumber 14 = .ok (.iconst 0, 1) := by decide +kernel
theorem dX8_takesNumber_15 : decode cX8_takesNumber 15 = .ok (.ireturn, 1) := by decide +kernel
theorem dX8_takesNumber_16 : decode cX8_takesNumber 16 = .ok (.aload_n 0, 1) := by decide +kernel
theorem dX8_takesNumber_17 : decode cX8_takesNumber 17 = .ok (.iconst 0, 1) := by decide +kernel
theorem dX8_takesNumber_18 : decode cX8_takesNumber 18 = .ok (.putfield 300, 3) := by decide +kernel
theorem dX8_takesNumber_21 : decode cX8_takesNumber 21 = .ok (.iconst 0, 1) := by decide +kernel
theorem dX8_takesNumber_22 : decode cX8_takesNumber 22 = .ok (.istore_n 2, 1) := by decide +kernel
theorem dX8_takesNumber_23 : decode cX8_takesNumber 23 = .ok (.iload_n 2, 1) := by decide +kernel
theorem dX8_takesNumber_24 : decode cX8_takesNumber 24 = .ok (.iload_n 1, 1) := by decide +kernel
theorem dX8_takesNumber_25 : decode cX8_takesNumber 25 = .ok (.if_icmp .ge 52, 3) := by decide +kernel
theorem dX8_takesNumber_28 : decode cX8_takesNumber 28 = .ok (.aload_n 0, 1) := by decide +kernel
theorem dX8_takesNumber_29 : decode cX8_takesNumber 29 = .ok (.invokevirtual 293, 3) := by decide +kernel
theorem dX8_takesNumber_32 : decode cX8_takesNumber 32 = .ok (.bipush 48, 2) := by decide +kernel
theorem dX8_takesNumber_34 : decode cX8_takesNumber 34 = .ok (.bipush 57, 2) := by decide +kernel
theorem dX8_takesNumber_36 : decode cX8_takesNumber 36 = .ok (.invokestatic 109, 3) := by decide +kernel
theorem dX8_takesNumber_39 : decode cX8_takesNumber 39 = .ok (.ifCond .eq 38, 3) := by decide +kernel
theorem dX8_takesNumber_42 : decode cX8_takesNumber 42 = .ok (.aload_n 0, 1) := by decide +kernel
theorem dX8_takesNumber_43 : decode cX8_takesNumber 43 = .ok (.bipush 10, 2) := by decide +kernel
theorem dX8_takesNumber_45 : decode cX8_takesNumber 45 = .ok (.aload_n 0, 1) := by decide +kernel
theorem dX8_takesNumber_46 : decode cX8_takesNumber 46 = .ok (.getfield 300, 3) := by decide +kernel
theorem dX8_takesNumber_49 : decode cX8_takesNumber 49 = .ok (.imul, 1) := by decide +kernel
theorem dX8_takesNumber_50 : decode cX8_takesNumber 50 = .ok (.aload_n 0, 1) := by decide +kernel
theorem dX8_takesNumber_51 : decode cX8_takesNumber 51 = .ok (.invokevirtual 293, 3) := by decide +kernel
theorem dX8_takesNumber_54 : decode cX8_takesNumber 54 = .ok (.iadd, 1) := by decide +kernel
theorem dX8_takesNumber_55 : decode cX8_takesNumber 55 = .ok (.bipush 48, 2) := by decide +kernel
theorem dX8_takesNumber_57 : decode cX8_takesNumber 57 = .ok (.isub, 1) := by decide +kernel
theorem dX8_takesNumber_58 : decode cX8_takesNumber 58 = .ok (.putfield 300, 3) := by decide +kernel
theorem dX8_takesNumber_61 : decode cX8_takesNumber 61 = .ok (.aload_n 0, 1) := by decide +kernel
theorem dX8_takesNumber_62 : decode cX8_takesNumber 62 = .ok (.dup, 1) := by decide +kernel
theorem dX8_takesNumber_63 : decode cX8_takesNumber 63 = .ok (.getfield 286, 3) := by decide +kernel
theorem dX8_takesNumber_66 : decode cX8_takesNumber 66 = .ok (.iconst 1, 1) := by decide +kernel
theorem dX8_takesNumber_67 : decode cX8_takesNumber 67 = .ok (.iadd, 1) := by decide +kernel
theorem dX8_takesNumber_68 : decode cX8_takesNumber 68 = .ok (.putfield 286, 3) := by decide +kernel
theorem dX8_takesNumber_71 : decode cX8_takesNumber 71 = .ok (.iinc 2 1, 3) := by decide +kernel
theorem dX8_takesNumber_74 : decode cX8_takesNumber 74 = .ok (.goto (-51), 3) := by decide +kernel
theorem dX8_takesNumber_77 : decode cX8_takesNumber 77 = .ok (.iconst 1, 1) := by decide +kernel
theorem dX8_takesNumber_78 : decode cX8_takesNumber 78 = .ok (.ireturn, 1) := by decide +kernel
theorem dX8_readsIf_0 : decode cX8_readsIf 0 = .ok (.aload_n 0, 1) := by decide +kernel
theorem dX8_readsIf_1 : decode cX8_readsIf 1 = .ok (.iconst 1, 1) := by decide +kernel
theorem dX8_readsIf_2 : decode cX8_readsIf 2 = .ok (.putfield 303, 3) := by decide +kernel
theorem dX8_readsIf_5 : decode cX8_readsIf 5 = .ok (.aload_n 0, 1) := by decide +kernel
theorem dX8_readsIf_6 : decode cX8_readsIf 6 = .ok (.ldc_w 306, 3) := by decide +kernel
theorem dX8_readsIf_9 : decode cX8_readsIf 9 = .ok (.invokevirtual 308, 3) := by decide +kernel
theorem dX8_readsIf_12 : decode cX8_readsIf 12 = .ok (.ifCond .eq 11, 3) := by decide +kernel
theorem dX8_readsIf_15 : decode cX8_readsIf 15 = .ok (.aload_n 0, 1) := by decide +kernel
theorem dX8_readsIf_16 : decode cX8_readsIf 16 = .ok (.iconst 2, 1) := by decide +kernel
theorem dX8_readsIf_17 : decode cX8_readsIf 17 = .ok (.invokevirtual 312, 3) := by decide +kernel
theorem dX8_readsIf_20 : decode cX8_readsIf 20 = .ok (.ifCond .ne 5, 3) := by decide +kernel
theorem dX8_readsIf_23 : decode cX8_readsIf 23 = .ok (.iconst 0, 1) := by decide +kernel
theorem dX8_readsIf_24 : decode cX8_readsIf 24 = .ok (.ireturn, 1) := by decide +kernel
theorem dX8_readsIf_25 : decode cX8_readsIf 25 = .ok (.aload_n 0, 1) := by decide +kernel
theorem dX8_readsIf_26 : decode cX8_readsIf 26 = .ok (.aload_n 0, 1) := by decide +kernel
theorem dX8_readsIf_27 : decode cX8_readsIf 27 = .ok (.getfield 300, 3) := by decide +kernel
theorem dX8_readsIf_30 : decode cX8_readsIf 30 = .ok (.putfield 315, 3) := by decide +kernel
theorem dX8_readsIf_33 : decode cX8_readsIf 33 = .ok (.aload_n 0, 1) := by decide +kernel
theorem dX8_readsIf_34 : decode cX8_readsIf 34 = .ok (.ldc_w 318, 3) := by decide +kernel
theorem dX8_readsIf_37 : decode cX8_readsIf 37 = .ok (.invokevirtual 308, 3) := by decide +kernel
theorem dX8_readsIf_40 : decode cX8_readsIf 40 = .ok (.ifCond .eq 11, 3) := by decide +kernel
theorem dX8_readsIf_43 : decode cX8_readsIf 43 = .ok (.aload_n 0, 1) := by decide +kernel
theorem dX8_readsIf_44 : decode cX8_readsIf 44 = .ok (.iconst 2, 1) := by decide +kernel
theorem dX8_readsIf_45 : decode cX8_readsIf 45 = .ok (.invokevirtual 312, 3) := by decide +kernel
theorem dX8_readsIf_48 : decode cX8_readsIf 48 = .ok (.ifCond .ne 5, 3) := by decide +kernel
theorem dX8_readsIf_51 : decode cX8_readsIf 51 = .ok (.iconst 0, 1) := by decide +kernel
theorem dX8_readsIf_52 : decode cX8_readsIf 52 = .ok (.ireturn, 1) := by decide +kernel
theorem dX8_readsIf_53 : decode cX8_readsIf 53 = .ok (.aload_n 0, 1) := by decide +kernel
theorem dX8_readsIf_54 : decode cX8_readsIf 54 = .ok (.aload_n 0, 1) := by decide +kernel
theorem dX8_readsIf_55 : decode cX8_readsIf 55 = .ok (.getfield 300, 3) := by decide +kernel
theorem dX8_readsIf_58 : decode cX8_readsIf 58 = .ok (.putfield 320, 3) := by decide +kernel
theorem dX8_readsIf_61 : decode cX8_readsIf 61 = .ok (.aload_n 0, 1) := by decide +kernel
theorem dX8_readsIf_62 : decode cX8_readsIf 62 = .ok (.ldc_w 318, 3) := by decide +kernel
theorem dX8_readsIf_65 : decode cX8_readsIf 65 = .ok (.invokevirtual 308, 3) := by decide +kernel
theorem dX8_readsIf_68 : decode cX8_readsIf 68 = .ok (.ifCond .ne 5, 3) := by decide +kernel
theorem dX8_readsIf_71 : decode cX8_readsIf 71 = .ok (.iconst 0, 1) := by decide +kernel
theorem dX8_readsIf_72 : decode cX8_readsIf 72 = .ok (.ireturn, 1) := by decide +kernel
theorem dX8_readsIf_73 : decode cX8_readsIf 73 = .ok (.aload_n 0, 1) := by decide +kernel
theorem dX8_readsIf_74 : decode cX8_readsIf 74 = .ok (.invokevirtual 293, 3) := by decide +kernel
theorem dX8_readsIf_77 : decode cX8_readsIf 77 = .ok (.bipush 45, 2) := by decide +kernel
theorem dX8_readsIf_79 : decode cX8_readsIf 79 = .ok (.if_icmp .ne 17, 3) := by decide +kernel
theorem dX8_readsIf_82 : decode cX8_readsIf 82 = .ok (.aload_n 0, 1) := by decide +kernel
theorem dX8_readsIf_83 : decode cX8_readsIf 83 = .ok (.ldc_w 323, 3) := by decide +kernel
theorem dX8_readsIf_86 : decode cX8_readsIf 86 = .ok (.invokevirtual 308, 3) := by decide +kernel
theorem dX8_readsIf_89 : decode cX8_readsIf 89 = .ok (.ifCond .eq 7, 3) := by decide +kernel
theorem dX8_readsIf_92 : decode cX8_readsIf 92 = .ok (.iconst 1, 1) := by decide +kernel
theorem dX8_readsIf_93 : decode cX8_readsIf 93 = .ok (.goto 4, 3) := by decide +kernel
theorem dX8_readsIf_96 : decode cX8_readsIf 96 = .ok (.iconst 0, 1) := by decide +kernel
theorem dX8_readsIf_97 : decode cX8_readsIf 97 = .ok (.istore_n 1, 1) := by decide +kernel
theorem dX8_readsIf_98 : decode cX8_readsIf 98 = .ok (.aload_n 0, 1) := by decide +kernel
theorem dX8_readsIf_99 : decode cX8_readsIf 99 = .ok (.bipush 6, 2) := by decide +kernel
theorem dX8_readsIf_101 : decode cX8_readsIf 101 = .ok (.invokevirtual 312, 3) := by decide +kernel
theorem dX8_readsIf_104 : decode cX8_readsIf 104 = .ok (.ifCond .ne 5, 3) := by decide +kernel
theorem dX8_readsIf_107 : decode cX8_readsIf 107 = .ok (.iconst 0, 1) := by decide +kernel
theorem dX8_readsIf_108 : decode cX8_readsIf 108 = .ok (.ireturn, 1) := by decide +kernel
theorem dX8_readsIf_109 : decode cX8_readsIf 109 = .ok (.aload_n 0, 1) := by decide +kernel
theorem dX8_readsIf_110 : decode cX8_readsIf 110 = .ok (.iload_n 1, 1) := by decide +kernel
theorem dX8_readsIf_111 : decode cX8_readsIf 111 = .ok (.ifCond .eq 11, 3) := by decide +kernel
theorem dX8_readsIf_114 : decode cX8_readsIf 114 = .ok (.aload_n 0, 1) := by decide +kernel
theorem dX8_readsIf_115 : decode cX8_readsIf 115 = .ok (.getfield 300, 3) := by decide +kernel
theorem dX8_readsIf_118 : decode cX8_readsIf 118 = .ok (.ineg, 1) := by decide +kernel
theorem dX8_readsIf_119 : decode cX8_readsIf 119 = .ok (.goto 7, 3) := by decide +kernel
theorem dX8_readsIf_122 : decode cX8_readsIf 122 = .ok (.aload_n 0, 1) := by decide +kernel
theorem dX8_readsIf_123 : decode cX8_readsIf 123 = .ok (.getfield 300, 3) := by decide +kernel
theorem dX8_readsIf_126 : decode cX8_readsIf 126 = .ok (.putfield 325, 3) := by decide +kernel
theorem dX8_readsIf_129 : decode cX8_readsIf 129 = .ok (.iconst 1, 1) := by decide +kernel
theorem dX8_readsIf_130 : decode cX8_readsIf 130 = .ok (.ireturn, 1) := by decide +kernel
theorem dX8_readsEnd_0 : decode cX8_readsEnd 0 = .ok (.aload_n 0, 1) := by decide +kernel
theorem dX8_readsEnd_1 : decode cX8_readsEnd 1 = .ok (.invokevirtual 293, 3) := by decide +kernel
theorem dX8_readsEnd_4 : decode cX8_readsEnd 4 = .ok (.bipush 115, 2) := by decide +kernel
theorem dX8_readsEnd_6 : decode cX8_readsEnd 6 = .ok (.if_icmp .ne 16, 3) := by decide +kernel
theorem dX8_readsEnd_9 : decode cX8_readsEnd 9 = .ok (.aload_n 0, 1) := by decide +kernel
theorem dX8_readsEnd_10 : decode cX8_readsEnd 10 = .ok (.iconst 2, 1) := by decide +kernel
theorem dX8_readsEnd_11 : decode cX8_readsEnd 11 = .ok (.putfield 303, 3) := by decide +kernel
theorem dX8_readsEnd_14 : decode cX8_readsEnd 14 = .ok (.aload_n 0, 1) := by decide +kernel
theorem dX8_readsEnd_15 : decode cX8_readsEnd 15 = .ok (.ldc_w 328, 3) := by decide +kernel
theorem dX8_readsEnd_18 : decode cX8_readsEnd 18 = .ok (.invokevirtual 308, 3) := by decide +kernel
theorem dX8_readsEnd_21 : decode cX8_readsEnd 21 = .ok (.ireturn, 1) := by decide +kernel
theorem dX8_readsEnd_22 : decode cX8_readsEnd 22 = .ok (.aload_n 0, 1) := by decide +kernel
theorem dX8_readsEnd_23 : decode cX8_readsEnd 23 = .ok (.invokevirtual 293, 3) := by decide +kernel
theorem dX8_readsEnd_26 : decode cX8_readsEnd 26 = .ok (.bipush 105, 2) := by decide +kernel
theorem dX8_readsEnd_28 : decode cX8_readsEnd 28 = .ok (.if_icmp .ne 8, 3) := by decide +kernel
theorem dX8_readsEnd_31 : decode cX8_readsEnd 31 = .ok (.aload_n 0, 1) := by decide +kernel
theorem dX8_readsEnd_32 : decode cX8_readsEnd 32 = .ok (.invokevirtual 330, 3) := by decide +kernel
theorem dX8_readsEnd_35 : decode cX8_readsEnd 35 = .ok (.ireturn, 1) := by decide +kernel
theorem dX8_readsEnd_36 : decode cX8_readsEnd 36 = .ok (.aload_n 0, 1) := by decide +kernel
theorem dX8_readsEnd_37 : decode cX8_readsEnd 37 = .ok (.iconst 0, 1) := by decide +kernel
theorem dX8_readsEnd_38 : decode cX8_readsEnd 38 = .ok (.putfield 303, 3) := by decide +kernel
theorem dX8_readsEnd_41 : decode cX8_readsEnd 41 = .ok (.aload_n 0, 1) := by decide +kernel
theorem dX8_readsEnd_42 : decode cX8_readsEnd 42 = .ok (.ldc_w 333, 3) := by decide +kernel
theorem dX8_readsEnd_45 : decode cX8_readsEnd 45 = .ok (.invokevirtual 308, 3) := by decide +kernel
theorem dX8_readsEnd_48 : decode cX8_readsEnd 48 = .ok (.ifCond .eq 11, 3) := by decide +kernel
theorem dX8_readsEnd_51 : decode cX8_readsEnd 51 = .ok (.aload_n 0, 1) := by decide +kernel
theorem dX8_readsEnd_52 : decode cX8_readsEnd 52 = .ok (.iconst 2, 1) := by decide +kernel
theorem dX8_readsEnd_53 : decode cX8_readsEnd 53 = .ok (.invokevirtual 312, 3) := by decide +kernel
theorem dX8_readsEnd_56 : decode cX8_readsEnd 56 = .ok (.ifCond .ne 5, 3) := by decide +kernel
theorem dX8_readsEnd_59 : decode cX8_readsEnd 59 = .ok (.iconst 0, 1) := by decide +kernel
theorem dX8_readsEnd_60 : decode cX8_readsEnd 60 = .ok (.ireturn, 1) := by decide +kernel
theorem dX8_readsEnd_61 : decode cX8_readsEnd 61 = .ok (.aload_n 0, 1) := by decide +kernel
theorem dX8_readsEnd_62 : decode cX8_readsEnd 62 = .ok (.aload_n 0, 1) := by decide +kernel
theorem dX8_readsEnd_63 : decode cX8_readsEnd 63 = .ok (.getfield 300, 3) := by decide +kernel
theorem dX8_readsEnd_66 : decode cX8_readsEnd 66 = .ok (.putfield 315, 3) := by decide +kernel
theorem dX8_readsEnd_69 : decode cX8_readsEnd 69 = .ok (.iconst 1, 1) := by decide +kernel
theorem dX8_readsEnd_70 : decode cX8_readsEnd 70 = .ok (.ireturn, 1) := by decide +kernel
theorem dX8_reads_0 : decode cX8_reads 0 = .ok (.aload_n 0, 1) := by decide +kernel
theorem dX8_reads_1 : decode cX8_reads 1 = .ok (.iconst 0, 1) := by decide +kernel
theorem dX8_reads_2 : decode cX8_reads 2 = .ok (.putfield 286, 3) := by decide +kernel
theorem dX8_reads_5 : decode cX8_reads 5 = .ok (.aload_n 0, 1) := by decide +kernel
theorem dX8_reads_6 : decode cX8_reads 6 = .ok (.iconst (-1), 1) := by decide +kernel
theorem dX8_reads_7 : decode cX8_reads 7 = .ok (.putfield 315, 3) := by decide +kernel
theorem dX8_reads_10 : decode cX8_reads 10 = .ok (.aload_n 0, 1) := by decide +kernel
theorem dX8_reads_11 : decode cX8_reads 11 = .ok (.iconst (-1), 1) := by decide +kernel
theorem dX8_reads_12 : decode cX8_reads 12 = .ok (.putfield 320, 3) := by decide +kernel
theorem dX8_reads_15 : decode cX8_reads 15 = .ok (.aload_n 0, 1) := by decide +kernel
theorem dX8_reads_16 : decode cX8_reads 16 = .ok (.iconst 0, 1) := by decide +kernel
theorem dX8_reads_17 : decode cX8_reads 17 = .ok (.putfield 325, 3) := by decide +kernel
theorem dX8_reads_20 : decode cX8_reads 20 = .ok (.aload_n 0, 1) := by decide +kernel
theorem dX8_reads_21 : decode cX8_reads 21 = .ok (.iconst 2, 1) := by decide +kernel
theorem dX8_reads_22 : decode cX8_reads 22 = .ok (.invokevirtual 312, 3) := by decide +kernel
theorem dX8_reads_25 : decode cX8_reads 25 = .ok (.ifCond .ne 5, 3) := by decide +kernel
theorem dX8_reads_28 : decode cX8_reads 28 = .ok (.iconst 0, 1) := by decide +kernel
theorem dX8_reads_29 : decode cX8_reads 29 = .ok (.ireturn, 1) := by decide +kernel
theorem dX8_reads_30 : decode cX8_reads 30 = .ok (.aload_n 0, 1) := by decide +kernel
theorem dX8_reads_31 : decode cX8_reads 31 = .ok (.aload_n 0, 1) := by decide +kernel
theorem dX8_reads_32 : decode cX8_reads 32 = .ok (.getfield 300, 3) := by decide +kernel
theorem dX8_reads_35 : decode cX8_reads 35 = .ok (.putfield 335, 3) := by decide +kernel
theorem dX8_reads_38 : decode cX8_reads 38 = .ok (.aload_n 0, 1) := by decide +kernel
theorem dX8_reads_39 : decode cX8_reads 39 = .ok (.ldc_w 318, 3) := by decide +kernel
theorem dX8_reads_42 : decode cX8_reads 42 = .ok (.invokevirtual 308, 3) := by decide +kernel
theorem dX8_reads_45 : decode cX8_reads 45 = .ok (.ifCond .eq 25, 3) := by decide +kernel
theorem dX8_reads_48 : decode cX8_reads 48 = .ok (.aload_n 0, 1) := by decide +kernel
theorem dX8_reads_49 : decode cX8_reads 49 = .ok (.invokevirtual 338, 3) := by decide +kernel
theorem dX8_reads_52 : decode cX8_reads 52 = .ok (.ifCond .eq 18, 3) := by decide +kernel
theorem dX8_reads_55 : decode cX8_reads 55 = .ok (.aload_n 0, 1) := by decide +kernel
theorem dX8_reads_56 : decode cX8_reads 56 = .ok (.getfield 286, 3) := by decide +kernel
theorem dX8_reads_59 : decode cX8_reads 59 = .ok (.aload_n 0, 1) := by decide +kernel
theorem dX8_reads_60 : decode cX8_reads 60 = .ok (.getfield 283, 3) := by decide +kernel
theorem dX8_reads_63 : decode cX8_reads 63 = .ok (.if_icmp .ne 7, 3) := by decide +kernel
theorem dX8_reads_66 : decode cX8_reads 66 = .ok (.iconst 1, 1) := by decide +kernel
theorem dX8_reads_67 : decode cX8_reads 67 = .ok (.goto 4, 3) := by decide +kernel
theorem dX8_reads_70 : decode cX8_reads 70 = .ok (.iconst 0, 1) := by decide +kernel
theorem dX8_reads_71 : decode cX8_reads 71 = .ok (.ireturn, 1) := by decide +kernel
theorem dX8_mayBe_0 : decode cX8_mayBe 0 = .ok (.aload_n 0, 1) := by decide +kernel
theorem dX8_mayBe_1 : decode cX8_mayBe 1 = .ok (.getfield 335, 3) := by decide +kernel
theorem dX8_mayBe_4 : decode cX8_mayBe 4 = .ok (.bipush 60, 2) := by decide +kernel
theorem dX8_mayBe_6 : decode cX8_mayBe 6 = .ok (.if_icmp .gt 7, 3) := by decide +kernel
theorem dX8_mayBe_9 : decode cX8_mayBe 9 = .ok (.iconst 1, 1) := by decide +kernel
theorem dX8_mayBe_10 : decode cX8_mayBe 10 = .ok (.goto 4, 3) := by decide +kernel
theorem dX8_mayBe_13 : decode cX8_mayBe 13 = .ok (.iconst 0, 1) := by decide +kernel
theorem dX8_mayBe_14 : decode cX8_mayBe 14 = .ok (.istore_n 1, 1) := by decide +kernel
theorem dX8_mayBe_15 : decode cX8_mayBe 15 = .ok (.iload_n 1, 1) := by decide +kernel
theorem dX8_mayBe_16 : decode cX8_mayBe 16 = .ok (.aload_n 0, 1) := by decide +kernel
theorem dX8_mayBe_17 : decode cX8_mayBe 17 = .ok (.getfield 303, 3) := by decide +kernel
theorem dX8_mayBe_20 : decode cX8_mayBe 20 = .ok (.iconst 2, 1) := by decide +kernel
theorem dX8_mayBe_21 : decode cX8_mayBe 21 = .ok (.if_icmp .eq 14, 3) := by decide +kernel
theorem dX8_mayBe_24 : decode cX8_mayBe 24 = .ok (.aload_n 0, 1) := by decide +kernel
theorem dX8_mayBe_25 : decode cX8_mayBe 25 = .ok (.aload_n 0, 1) := by decide +kernel
theorem dX8_mayBe_26 : decode cX8_mayBe 26 = .ok (.getfield 315, 3) := by decide +kernel
theorem dX8_mayBe_29 : decode cX8_mayBe 29 = .ok (.invokevirtual 119, 3) := by decide +kernel
theorem dX8_mayBe_32 : decode cX8_mayBe 32 = .ok (.ifCond .eq 7, 3) := by decide +kernel
theorem dX8_mayBe_35 : decode cX8_mayBe 35 = .ok (.iconst 1, 1) := by decide +kernel
theorem dX8_mayBe_36 : decode cX8_mayBe 36 = .ok (.goto 4, 3) := by decide +kernel
theorem dX8_mayBe_39 : decode cX8_mayBe 39 = .ok (.iconst 0, 1) := by decide +kernel
theorem dX8_mayBe_40 : decode cX8_mayBe 40 = .ok (.iand, 1) := by decide +kernel
theorem dX8_mayBe_41 : decode cX8_mayBe 41 = .ok (.istore_n 1, 1) := by decide +kernel
theorem dX8_mayBe_42 : decode cX8_mayBe 42 = .ok (.iload_n 1, 1) := by decide +kernel
theorem dX8_mayBe_43 : decode cX8_mayBe 43 = .ok (.ifCond .eq 37, 3) := by decide +kernel
theorem dX8_mayBe_46 : decode cX8_mayBe 46 = .ok (.aload_n 0, 1) := by decide +kernel
theorem dX8_mayBe_47 : decode cX8_mayBe 47 = .ok (.getfield 303, 3) := by decide +kernel
theorem dX8_mayBe_50 : decode cX8_mayBe 50 = .ok (.iconst 1, 1) := by decide +kernel
theorem dX8_mayBe_51 : decode cX8_mayBe 51 = .ok (.if_icmp .ne 25, 3) := by decide +kernel
theorem dX8_mayBe_54 : decode cX8_mayBe 54 = .ok (.aload_n 0, 1) := by decide +kernel
theorem dX8_mayBe_55 : decode cX8_mayBe 55 = .ok (.aload_n 0, 1) := by decide +kernel
theorem dX8_mayBe_56 : decode cX8_mayBe 56 = .ok (.getfield 320, 3) := by decide +kernel
theorem dX8_mayBe_59 : decode cX8_mayBe 59 = .ok (.invokevirtual 119, 3) := by decide +kernel
theorem dX8_mayBe_62 : decode cX8_mayBe 62 = .ok (.ifCond .eq 18, 3) := by decide +kernel
theorem dX8_mayBe_65 : decode cX8_mayBe 65 = .ok (.aload_n 0, 1) := by decide +kernel
theorem dX8_mayBe_66 : decode cX8_mayBe 66 = .ok (.getfield 315, 3) := by decide +kernel
theorem dX8_mayBe_69 : decode cX8_mayBe 69 = .ok (.aload_n 0, 1) := by decide +kernel
theorem dX8_mayBe_70 : decode cX8_mayBe 70 = .ok (.getfield 320, 3) := by decide +kernel
theorem dX8_mayBe_73 : decode cX8_mayBe 73 = .ok (.if_icmp .eq 7, 3) := by decide +kernel
theorem dX8_mayBe_76 : decode cX8_mayBe 76 = .ok (.iconst 1, 1) := by decide +kernel
theorem dX8_mayBe_77 : decode cX8_mayBe 77 = .ok (.goto 4, 3) := by decide +kernel
theorem dX8_mayBe_80 : decode cX8_mayBe 80 = .ok (.iconst 0, 1) := by decide +kernel
theorem dX8_mayBe_81 : decode cX8_mayBe 81 = .ok (.ireturn, 1) := by decide +kernel
theorem dX8_read_0 : decode cX8_read 0 = .ok (.aload_n 0, 1) := by decide +kernel
theorem dX8_read_1 : decode cX8_read 1 = .ok (.aload_n 0, 1) := by decide +kernel
theorem dX8_read_2 : decode cX8_read 2 = .ok (.iload_n 1, 1) := by decide +kernel
theorem dX8_read_3 : decode cX8_read 3 = .ok (.invokevirtual 119, 3) := by decide +kernel
theorem dX8_read_6 : decode cX8_read 6 = .ok (.ifCond .eq 7, 3) := by decide +kernel
theorem dX8_read_9 : decode cX8_read 9 = .ok (.iconst 0, 1) := by decide +kernel
theorem dX8_read_10 : decode cX8_read 10 = .ok (.goto 4, 3) := by decide +kernel
theorem dX8_read_13 : decode cX8_read 13 = .ok (.iconst 1, 1) := by decide +kernel
theorem dX8_read_14 : decode cX8_read 14 = .ok (.putfield 103, 3) := by decide +kernel
theorem dX8_read_17 : decode cX8_read 17 = .ok (.aload_n 0, 1) := by decide +kernel
theorem dX8_read_18 : decode cX8_read 18 = .ok (.getfield 103, 3) := by decide +kernel
theorem dX8_read_21 : decode cX8_read 21 = .ok (.ifCond .eq 5, 3) := by decide +kernel
theorem dX8_read_24 : decode cX8_read 24 = .ok (.iconst 0, 1) := by decide +kernel
theorem dX8_read_25 : decode cX8_read 25 = .ok (.ireturn, 1) := by decide +kernel
theorem dX8_read_26 : decode cX8_read 26 = .ok (.aload_n 0, 1) := by decide +kernel
theorem dX8_read_27 : decode cX8_read 27 = .ok (.invokevirtual 341, 3) := by decide +kernel
theorem dX8_read_30 : decode cX8_read 30 = .ok (.istore_n 2, 1) := by decide +kernel
theorem dX8_read_31 : decode cX8_read 31 = .ok (.aload_n 0, 1) := by decide +kernel
theorem dX8_read_32 : decode cX8_read 32 = .ok (.iconst 0, 1) := by decide +kernel
theorem dX8_read_33 : decode cX8_read 33 = .ok (.putfield 283, 3) := by decide +kernel
theorem dX8_read_36 : decode cX8_read 36 = .ok (.iload_n 2, 1) := by decide +kernel
theorem dX8_read_37 : decode cX8_read 37 = .ok (.ifCond .ne 11, 3) := by decide +kernel
theorem dX8_read_40 : decode cX8_read 40 = .ok (.bipush (-100), 2) := by decide +kernel
theorem dX8_read_42 : decode cX8_read 42 = .ok (.aload_n 0, 1) := by decide +kernel
theorem dX8_read_43 : decode cX8_read 43 = .ok (.getfield 286, 3) := by decide +kernel
theorem dX8_read_46 : decode cX8_read 46 = .ok (.isub, 1) := by decide +kernel
theorem dX8_read_47 : decode cX8_read 47 = .ok (.ireturn, 1) := by decide +kernel
theorem dX8_read_48 : decode cX8_read 48 = .ok (.aload_n 0, 1) := by decide +kernel
theorem dX8_read_49 : decode cX8_read 49 = .ok (.aload_n 0, 1) := by decide +kernel
theorem dX8_read_50 : decode cX8_read 50 = .ok (.invokevirtual 344, 3) := by decide +kernel
theorem dX8_read_53 : decode cX8_read 53 = .ok (.ifCond .eq 7, 3) := by decide +kernel
theorem dX8_read_56 : decode cX8_read 56 = .ok (.iconst 0, 1) := by decide +kernel
theorem dX8_read_57 : decode cX8_read 57 = .ok (.goto 4, 3) := by decide +kernel
theorem dX8_read_60 : decode cX8_read 60 = .ok (.iconst 2, 1) := by decide +kernel
theorem dX8_read_61 : decode cX8_read 61 = .ok (.putfield 103, 3) := by decide +kernel
theorem dX8_read_64 : decode cX8_read 64 = .ok (.aload_n 0, 1) := by decide +kernel
theorem dX8_read_65 : decode cX8_read 65 = .ok (.getfield 103, 3) := by decide +kernel
theorem dX8_read_68 : decode cX8_read 68 = .ok (.ifCond .eq 5, 3) := by decide +kernel
theorem dX8_read_71 : decode cX8_read 71 = .ok (.iconst 0, 1) := by decide +kernel
theorem dX8_read_72 : decode cX8_read 72 = .ok (.ireturn, 1) := by decide +kernel
theorem dX8_read_73 : decode cX8_read 73 = .ok (.aload_n 0, 1) := by decide +kernel
theorem dX8_read_74 : decode cX8_read 74 = .ok (.getfield 16, 3) := by decide +kernel
theorem dX8_read_77 : decode cX8_read 77 = .ok (.iload_n 1, 1) := by decide +kernel
theorem dX8_read_78 : decode cX8_read 78 = .ok (.aload_n 0, 1) := by decide +kernel
theorem dX8_read_79 : decode cX8_read 79 = .ok (.getfield 335, 3) := by decide +kernel
theorem dX8_read_82 : decode cX8_read 82 = .ok (.iastore, 1) := by decide +kernel
theorem dX8_read_83 : decode cX8_read 83 = .ok (.aload_n 0, 1) := by decide +kernel
theorem dX8_read_84 : decode cX8_read 84 = .ok (.iload_n 1, 1) := by decide +kernel
theorem dX8_read_85 : decode cX8_read 85 = .ok (.aload_n 0, 1) := by decide +kernel
theorem dX8_read_86 : decode cX8_read 86 = .ok (.getfield 303, 3) := by decide +kernel
theorem dX8_read_89 : decode cX8_read 89 = .ok (.aload_n 0, 1) := by decide +kernel
theorem dX8_read_90 : decode cX8_read 90 = .ok (.getfield 315, 3) := by decide +kernel
theorem dX8_read_93 : decode cX8_read 93 = .ok (.aload_n 0, 1) := by decide +kernel
theorem dX8_read_94 : decode cX8_read 94 = .ok (.getfield 320, 3) := by decide +kernel
theorem dX8_read_97 : decode cX8_read 97 = .ok (.aload_n 0, 1) := by decide +kernel
theorem dX8_read_98 : decode cX8_read 98 = .ok (.getfield 325, 3) := by decide +kernel
theorem dX8_read_101 : decode cX8_read 101 = .ok (.invokevirtual 123, 3) := by decide +kernel
theorem dX8_read_104 : decode cX8_read 104 = .ok (.istore_n 3, 1) := by decide +kernel
theorem dX8_read_105 : decode cX8_read 105 = .ok (.aload_n 0, 1) := by decide +kernel
theorem dX8_read_106 : decode cX8_read 106 = .ok (.getfield 303, 3) := by decide +kernel
theorem dX8_read_109 : decode cX8_read 109 = .ok (.ireturn, 1) := by decide +kernel
end
section
theorem dL_clear_0 : decode cL_clear 0 = .ok (.aload_n 2, 1) := by decide +kernel
theorem dL_clear_1 : decode cL_clear 1 = .ok (.iconst 0, 1) := by decide +kernel
theorem dL_clear_2 : decode cL_clear 2 = .ok (.aload_n 0, 1) := by decide +kernel
theorem dL_clear_3 : decode cL_clear 3 = .ok (.iload_n 1, 1) := by decide +kernel
theorem dL_clear_4 : decode cL_clear 4 = .ok (.invokevirtual 7, 3) := by decide +kernel
theorem dL_clear_7 : decode cL_clear 7 = .ok (.i2l, 1) := by decide +kernel
theorem dL_clear_8 : decode cL_clear 8 = .ok (.lastore, 1) := by decide +kernel
theorem dL_clear_9 : decode cL_clear 9 = .ok (.goto 6, 3) := by decide +kernel
theorem dL_clear_12 : decode cL_clear 12 = .ok (.astore_n 3, 1) := by decide +kernel
theorem dL_clear_13 : decode cL_clear 13 = .ok (.iconst 1, 1) := by decide +kernel
theorem dL_clear_14 : decode cL_clear 14 = .ok (.ireturn, 1) := by decide +kernel
theorem dL_clear_15 : decode cL_clear 15 = .ok (.iconst 0, 1) := by decide +kernel
theorem dL_clear_16 : decode cL_clear 16 = .ok (.ireturn, 1) := by decide +kernel
theorem dL_setSize_0 : decode cL_setSize 0 = .ok (.aload_n 3, 1) := by decide +kernel
theorem dL_setSize_1 : decode cL_setSize 1 = .ok (.iconst 0, 1) := by decide +kernel
theorem dL_setSize_2 : decode cL_setSize 2 = .ok (.aload_n 0, 1) := by decide +kernel
theorem dL_setSize_3 : decode cL_setSize 3 = .ok (.iload_n 1, 1) := by decide +kernel
theorem dL_setSize_4 : decode cL_setSize 4 = .ok (.iload_n 2, 1) := by decide +kernel
theorem dL_setSize_5 : decode cL_setSize 5 = .ok (.invokevirtual 15, 3) := by decide +kernel
theorem dL_setSize_8 : decode cL_setSize 8 = .ok (.i2l, 1) := by decide +kernel
theorem dL_setSize_9 : decode cL_setSize 9 = .ok (.lastore, 1) := by decide +kernel
theorem dL_setSize_10 : decode cL_setSize 10 = .ok (.goto 11, 3) := by decide +kernel
theorem dL_setSize_13 : decode cL_setSize 13 = .ok (.astore 4, 2) := by decide +kernel
theorem dL_setSize_15 : decode cL_setSize 15 = .ok (.iconst 1, 1) := by decide +kernel
theorem dL_setSize_16 : decode cL_setSize 16 = .ok (.ireturn, 1) := by decide +kernel
theorem dL_setSize_17 : decode cL_setSize 17 = .ok (.astore 4, 2) := by decide +kernel
theorem dL_setSize_19 : decode cL_setSize 19 = .ok (.iconst 2, 1) := by decide +kernel
theorem dL_setSize_20 : decode cL_setSize 20 = .ok (.ireturn, 1) := by decide +kernel
theorem dL_setSize_21 : decode cL_setSize 21 = .ok (.iconst 0, 1) := by decide +kernel
theorem dL_setSize_22 : decode cL_setSize 22 = .ok (.ireturn, 1) := by decide +kernel
theorem dL_setGo_0 : decode cL_setGo 0 = .ok (.aload_n 3, 1) := by decide +kernel
theorem dL_setGo_1 : decode cL_setGo 1 = .ok (.iconst 0, 1) := by decide +kernel
theorem dL_setGo_2 : decode cL_setGo 2 = .ok (.aload_n 0, 1) := by decide +kernel
theorem dL_setGo_3 : decode cL_setGo 3 = .ok (.iload_n 1, 1) := by decide +kernel
theorem dL_setGo_4 : decode cL_setGo 4 = .ok (.iload_n 2, 1) := by decide +kernel
theorem dL_setGo_5 : decode cL_setGo 5 = .ok (.invokevirtual 21, 3) := by decide +kernel
theorem dL_setGo_8 : decode cL_setGo 8 = .ok (.i2l, 1) := by decide +kernel
theorem dL_setGo_9 : decode cL_setGo 9 = .ok (.lastore, 1) := by decide +kernel
theorem dL_setGo_10 : decode cL_setGo 10 = .ok (.goto 7, 3) := by decide +kernel
theorem dL_setGo_13 : decode cL_setGo 13 = .ok (.astore 4, 2) := by decide +kernel
theorem dL_setGo_15 : decode cL_setGo 15 = .ok (.iconst 1, 1) := by decide +kernel
theorem dL_setGo_16 : decode cL_setGo 16 = .ok (.ireturn, 1) := by decide +kernel
theorem dL_setGo_17 : decode cL_setGo 17 = .ok (.iconst 0, 1) := by decide +kernel
theorem dL_setGo_18 : decode cL_setGo 18 = .ok (.ireturn, 1) := by decide +kernel
theorem dL_setIf_0 : decode cL_setIf 0 = .ok (.aload 5, 2) := by decide +kernel
theorem dL_setIf_2 : decode cL_setIf 2 = .ok (.iconst 0, 1) := by decide +kernel
theorem dL_setIf_3 : decode cL_setIf 3 = .ok (.aload_n 0, 1) := by decide +kernel
theorem dL_setIf_4 : decode cL_setIf 4 = .ok (.iload_n 1, 1) := by decide +kernel
theorem dL_setIf_5 : decode cL_setIf 5 = .ok (.iload_n 2, 1) := by decide +kernel
theorem dL_setIf_6 : decode cL_setIf 6 = .ok (.iload_n 3, 1) := by decide +kernel
theorem dL_setIf_7 : decode cL_setIf 7 = .ok (.iload 4, 2) := by decide +kernel
theorem dL_setIf_9 : decode cL_setIf 9 = .ok (.invokevirtual 24, 3) := by decide +kernel
theorem dL_setIf_12 : decode cL_setIf 12 = .ok (.i2l, 1) := by decide +kernel
theorem dL_setIf_13 : decode cL_setIf 13 = .ok (.lastore, 1) := by decide +kernel
theorem dL_setIf_14 : decode cL_setIf 14 = .ok (.goto 11, 3) := by decide +kernel
theorem dL_setIf_17 : decode cL_setIf 17 = .ok (.astore 6, 2) := by decide +kernel
theorem dL_setIf_19 : decode cL_setIf 19 = .ok (.iconst 1, 1) := by decide +kernel
theorem dL_setIf_20 : decode cL_setIf 20 = .ok (.ireturn, 1) := by decide +kernel
theorem dL_setIf_21 : decode cL_setIf 21 = .ok (.astore 6, 2) := by decide +kernel
theorem dL_setIf_23 : decode cL_setIf 23 = .ok (.iconst 2, 1) := by decide +kernel
theorem dL_setIf_24 : decode cL_setIf 24 = .ok (.ireturn, 1) := by decide +kernel
theorem dL_setIf_25 : decode cL_setIf 25 = .ok (.iconst 0, 1) := by decide +kernel
theorem dL_setIf_26 : decode cL_setIf 26 = .ok (.ireturn, 1) := by decide +kernel
theorem dL_setStop_0 : decode cL_setStop 0 = .ok (.aload_n 2, 1) := by decide +kernel
theorem dL_setStop_1 : decode cL_setStop 1 = .ok (.iconst 0, 1) := by decide +kernel
theorem dL_setStop_2 : decode cL_setStop 2 = .ok (.aload_n 0, 1) := by decide +kernel
theorem dL_setStop_3 : decode cL_setStop 3 = .ok (.iload_n 1, 1) := by decide +kernel
theorem dL_setStop_4 : decode cL_setStop 4 = .ok (.invokevirtual 28, 3) := by decide +kernel
theorem dL_setStop_7 : decode cL_setStop 7 = .ok (.i2l, 1) := by decide +kernel
theorem dL_setStop_8 : decode cL_setStop 8 = .ok (.lastore, 1) := by decide +kernel
theorem dL_setStop_9 : decode cL_setStop 9 = .ok (.goto 6, 3) := by decide +kernel
theorem dL_setStop_12 : decode cL_setStop 12 = .ok (.astore_n 3, 1) := by decide +kernel
theorem dL_setStop_13 : decode cL_setStop 13 = .ok (.iconst 1, 1) := by decide +kernel
theorem dL_setStop_14 : decode cL_setStop 14 = .ok (.ireturn, 1) := by decide +kernel
theorem dL_setStop_15 : decode cL_setStop 15 = .ok (.iconst 0, 1) := by decide +kernel
theorem dL_setStop_16 : decode cL_setStop 16 = .ok (.ireturn, 1) := by decide +kernel
theorem dL_invert_0 : decode cL_invert 0 = .ok (.aload_n 2, 1) := by decide +kernel
theorem dL_invert_1 : decode cL_invert 1 = .ok (.iconst 0, 1) := by decide +kernel
theorem dL_invert_2 : decode cL_invert 2 = .ok (.aload_n 0, 1) := by decide +kernel
theorem dL_invert_3 : decode cL_invert 3 = .ok (.iload_n 1, 1) := by decide +kernel
theorem dL_invert_4 : decode cL_invert 4 = .ok (.invokevirtual 31, 3) := by decide +kernel
theorem dL_invert_7 : decode cL_invert 7 = .ok (.i2l, 1) := by decide +kernel
theorem dL_invert_8 : decode cL_invert 8 = .ok (.lastore, 1) := by decide +kernel
theorem dL_invert_9 : decode cL_invert 9 = .ok (.goto 9, 3) := by decide +kernel
theorem dL_invert_12 : decode cL_invert 12 = .ok (.astore_n 3, 1) := by decide +kernel
theorem dL_invert_13 : decode cL_invert 13 = .ok (.iconst 1, 1) := by decide +kernel
theorem dL_invert_14 : decode cL_invert 14 = .ok (.ireturn, 1) := by decide +kernel
theorem dL_invert_15 : decode cL_invert 15 = .ok (.astore_n 3, 1) := by decide +kernel
theorem dL_invert_16 : decode cL_invert 16 = .ok (.iconst 2, 1) := by decide +kernel
theorem dL_invert_17 : decode cL_invert 17 = .ok (.ireturn, 1) := by decide +kernel
theorem dL_invert_18 : decode cL_invert 18 = .ok (.iconst 0, 1) := by decide +kernel
theorem dL_invert_19 : decode cL_invert 19 = .ok (.ireturn, 1) := by decide +kernel
theorem dL_block_0 : decode cL_block 0 = .ok (.aload_n 3, 1) := by decide +kernel
theorem dL_block_1 : decode cL_block 1 = .ok (.iconst 0, 1) := by decide +kernel
theorem dL_block_2 : decode cL_block 2 = .ok (.aload_n 0, 1) := by decide +kernel
theorem dL_block_3 : decode cL_block 3 = .ok (.iload_n 1, 1) := by decide +kernel
theorem dL_block_4 : decode cL_block 4 = .ok (.iload_n 2, 1) := by decide +kernel
theorem dL_block_5 : decode cL_block 5 = .ok (.invokevirtual 36, 3) := by decide +kernel
theorem dL_block_8 : decode cL_block 8 = .ok (.i2l, 1) := by decide +kernel
theorem dL_block_9 : decode cL_block 9 = .ok (.lastore, 1) := by decide +kernel
theorem dL_block_10 : decode cL_block 10 = .ok (.goto 11, 3) := by decide +kernel
theorem dL_block_13 : decode cL_block 13 = .ok (.astore 4, 2) := by decide +kernel
theorem dL_block_15 : decode cL_block 15 = .ok (.iconst 1, 1) := by decide +kernel
theorem dL_block_16 : decode cL_block 16 = .ok (.ireturn, 1) := by decide +kernel
theorem dL_block_17 : decode cL_block 17 = .ok (.astore 4, 2) := by decide +kernel
theorem dL_block_19 : decode cL_block 19 = .ok (.iconst 2, 1) := by decide +kernel
theorem dL_block_20 : decode cL_block 20 = .ok (.ireturn, 1) := by decide +kernel
theorem dL_block_21 : decode cL_block 21 = .ok (.iconst 0, 1) := by decide +kernel
theorem dL_block_22 : decode cL_block 22 = .ok (.ireturn, 1) := by decide +kernel
theorem dL_run_0 : decode cL_run 0 = .ok (.aload_n 2, 1) := by decide +kernel
theorem dL_run_1 : decode cL_run 1 = .ok (.iconst 0, 1) := by decide +kernel
theorem dL_run_2 : decode cL_run 2 = .ok (.aload_n 0, 1) := by decide +kernel
theorem dL_run_3 : decode cL_run 3 = .ok (.iload_n 1, 1) := by decide +kernel
theorem dL_run_4 : decode cL_run 4 = .ok (.invokevirtual 39, 3) := by decide +kernel
theorem dL_run_7 : decode cL_run 7 = .ok (.i2l, 1) := by decide +kernel
theorem dL_run_8 : decode cL_run 8 = .ok (.lastore, 1) := by decide +kernel
theorem dL_run_9 : decode cL_run 9 = .ok (.goto 9, 3) := by decide +kernel
theorem dL_run_12 : decode cL_run 12 = .ok (.astore_n 3, 1) := by decide +kernel
theorem dL_run_13 : decode cL_run 13 = .ok (.iconst 1, 1) := by decide +kernel
theorem dL_run_14 : decode cL_run 14 = .ok (.ireturn, 1) := by decide +kernel
theorem dL_run_15 : decode cL_run 15 = .ok (.astore_n 3, 1) := by decide +kernel
theorem dL_run_16 : decode cL_run 16 = .ok (.iconst 2, 1) := by decide +kernel
theorem dL_run_17 : decode cL_run 17 = .ok (.ireturn, 1) := by decide +kernel
theorem dL_run_18 : decode cL_run 18 = .ok (.iconst 0, 1) := by decide +kernel
theorem dL_run_19 : decode cL_run 19 = .ok (.ireturn, 1) := by decide +kernel
theorem dL_runLayout_0 : decode cL_runLayout 0 = .ok (.aload_n 2, 1) := by decide +kernel
theorem dL_runLayout_1 : decode cL_runLayout 1 = .ok (.iconst 0, 1) := by decide +kernel
theorem dL_runLayout_2 : decode cL_runLayout 2 = .ok (.aload_n 0, 1) := by decide +kernel
theorem dL_runLayout_3 : decode cL_runLayout 3 = .ok (.iload_n 1, 1) := by decide +kernel
theorem dL_runLayout_4 : decode cL_runLayout 4 = .ok (.invokevirtual 44, 3) := by decide +kernel
theorem dL_runLayout_7 : decode cL_runLayout 7 = .ok (.i2l, 1) := by decide +kernel
theorem dL_runLayout_8 : decode cL_runLayout 8 = .ok (.lastore, 1) := by decide +kernel
theorem dL_runLayout_9 : decode cL_runLayout 9 = .ok (.goto 9, 3) := by decide +kernel
theorem dL_runLayout_12 : decode cL_runLayout 12 = .ok (.astore_n 3, 1) := by decide +kernel
theorem dL_runLayout_13 : decode cL_runLayout 13 = .ok (.iconst 1, 1) := by decide +kernel
theorem dL_runLayout_14 : decode cL_runLayout 14 = .ok (.ireturn, 1) := by decide +kernel
theorem dL_runLayout_15 : decode cL_runLayout 15 = .ok (.astore_n 3, 1) := by decide +kernel
theorem dL_runLayout_16 : decode cL_runLayout 16 = .ok (.iconst 2, 1) := by decide +kernel
theorem dL_runLayout_17 : decode cL_runLayout 17 = .ok (.ireturn, 1) := by decide +kernel
theorem dL_runLayout_18 : decode cL_runLayout 18 = .ok (.iconst 0, 1) := by decide +kernel
theorem dL_runLayout_19 : decode cL_runLayout 19 = .ok (.ireturn, 1) := by decide +kernel
theorem dL_pathBlock_0 : decode cL_pathBlock 0 = .ok (.aload_n 2, 1) := by decide +kernel
theorem dL_pathBlock_1 : decode cL_pathBlock 1 = .ok (.iconst 0, 1) := by decide +kernel
theorem dL_pathBlock_2 : decode cL_pathBlock 2 = .ok (.aload_n 0, 1) := by decide +kernel
theorem dL_pathBlock_3 : decode cL_pathBlock 3 = .ok (.iload_n 1, 1) := by decide +kernel
theorem dL_pathBlock_4 : decode cL_pathBlock 4 = .ok (.invokevirtual 47, 3) := by decide +kernel
theorem dL_pathBlock_7 : decode cL_pathBlock 7 = .ok (.i2l, 1) := by decide +kernel
theorem dL_pathBlock_8 : decode cL_pathBlock 8 = .ok (.lastore, 1) := by decide +kernel
theorem dL_pathBlock_9 : decode cL_pathBlock 9 = .ok (.goto 6, 3) := by decide +kernel
theorem dL_pathBlock_12 : decode cL_pathBlock 12 = .ok (.astore_n 3, 1) := by decide +kernel
theorem dL_pathBlock_13 : decode cL_pathBlock 13 = .ok (.iconst 1, 1) := by decide +kernel
theorem dL_pathBlock_14 : decode cL_pathBlock 14 = .ok (.ireturn, 1) := by decide +kernel
theorem dL_pathBlock_15 : decode cL_pathBlock 15 = .ok (.iconst 0, 1) := by decide +kernel
theorem dL_pathBlock_16 : decode cL_pathBlock 16 = .ok (.ireturn, 1) := by decide +kernel
theorem dL_setAlignment_0 : decode cL_setAlignment 0 = .ok (.aload_n 2, 1) := by decide +kernel
theorem dL_setAlignment_1 : decode cL_setAlignment 1 = .ok (.iconst 0, 1) := by decide +kernel
theorem dL_setAlignment_2 : decode cL_setAlignment 2 = .ok (.aload_n 0, 1) := by decide +kernel
theorem dL_setAlignment_3 : decode cL_setAlignment 3 = .ok (.iload_n 1, 1) := by decide +kernel
theorem dL_setAlignment_4 : decode cL_setAlignment 4 = .ok (.invokevirtual 50, 3) := by decide +kernel
theorem dL_setAlignment_7 : decode cL_setAlignment 7 = .ok (.i2l, 1) := by decide +kernel
theorem dL_setAlignment_8 : decode cL_setAlignment 8 = .ok (.lastore, 1) := by decide +kernel
theorem dL_setAlignment_9 : decode cL_setAlignment 9 = .ok (.goto 6, 3) := by decide +kernel
theorem dL_setAlignment_12 : decode cL_setAlignment 12 = .ok (.astore_n 3, 1) := by decide +kernel
theorem dL_setAlignment_13 : decode cL_setAlignment 13 = .ok (.iconst 1, 1) := by decide +kernel
theorem dL_setAlignment_14 : decode cL_setAlignment 14 = .ok (.ireturn, 1) := by decide +kernel
theorem dL_setAlignment_15 : decode cL_setAlignment 15 = .ok (.iconst 0, 1) := by decide +kernel
theorem dL_setAlignment_16 : decode cL_setAlignment 16 = .ok (.ireturn, 1) := by decide +kernel
theorem dL_setLoopLimit_0 : decode cL_setLoopLimit 0 = .ok (.aload_n 2, 1) := by decide +kernel
theorem dL_setLoopLimit_1 : decode cL_setLoopLimit 1 = .ok (.iconst 0, 1) := by decide +kernel
theorem dL_setLoopLimit_2 : decode cL_setLoopLimit 2 = .ok (.aload_n 0, 1) := by decide +kernel
theorem dL_setLoopLimit_3 : decode cL_setLoopLimit 3 = .ok (.iload_n 1, 1) := by decide +kernel
theorem dL_setLoopLimit_4 : decode cL_setLoopLimit 4 = .ok (.invokevirtual 53, 3) := by decide +kernel
theorem dL_setLoopLimit_7 : decode cL_setLoopLimit 7 = .ok (.i2l, 1) := by decide +kernel
theorem dL_setLoopLimit_8 : decode cL_setLoopLimit 8 = .ok (.lastore, 1) := by decide +kernel
theorem dL_setLoopLimit_9 : decode cL_setLoopLimit 9 = .ok (.goto 6, 3) := by decide +kernel
theorem dL_setLoopLimit_12 : decode cL_setLoopLimit 12 = .ok (.astore_n 3, 1) := by decide +kernel
theorem dL_setLoopLimit_13 : decode cL_setLoopLimit 13 = .ok (.iconst 1, 1) := by decide +kernel
theorem dL_setLoopLimit_14 : decode cL_setLoopLimit 14 = .ok (.ireturn, 1) := by decide +kernel
theorem dL_setLoopLimit_15 : decode cL_setLoopLimit 15 = .ok (.iconst 0, 1) := by decide +kernel
theorem dL_setLoopLimit_16 : decode cL_setLoopLimit 16 = .ok (.ireturn, 1) := by decide +kernel
theorem dL_arrange_0 : decode cL_arrange 0 = .ok (.aload_n 3, 1) := by decide +kernel
theorem dL_arrange_1 : decode cL_arrange 1 = .ok (.iconst 0, 1) := by decide +kernel
theorem dL_arrange_2 : decode cL_arrange 2 = .ok (.aload_n 0, 1) := by decide +kernel
theorem dL_arrange_3 : decode cL_arrange 3 = .ok (.iload_n 1, 1) := by decide +kernel
theorem dL_arrange_4 : decode cL_arrange 4 = .ok (.iload_n 2, 1) := by decide +kernel
theorem dL_arrange_5 : decode cL_arrange 5 = .ok (.invokevirtual 56, 3) := by decide +kernel
theorem dL_arrange_8 : decode cL_arrange 8 = .ok (.i2l, 1) := by decide +kernel
theorem dL_arrange_9 : decode cL_arrange 9 = .ok (.lastore, 1) := by decide +kernel
theorem dL_arrange_10 : decode cL_arrange 10 = .ok (.goto 11, 3) := by decide +kernel
theorem dL_arrange_13 : decode cL_arrange 13 = .ok (.astore 4, 2) := by decide +kernel
theorem dL_arrange_15 : decode cL_arrange 15 = .ok (.iconst 1, 1) := by decide +kernel
theorem dL_arrange_16 : decode cL_arrange 16 = .ok (.ireturn, 1) := by decide +kernel
theorem dL_arrange_17 : decode cL_arrange 17 = .ok (.astore 4, 2) := by decide +kernel
theorem dL_arrange_19 : decode cL_arrange 19 = .ok (.iconst 2, 1) := by decide +kernel
theorem dL_arrange_20 : decode cL_arrange 20 = .ok (.ireturn, 1) := by decide +kernel
theorem dL_arrange_21 : decode cL_arrange 21 = .ok (.iconst 0, 1) := by decide +kernel
theorem dL_arrange_22 : decode cL_arrange 22 = .ok (.ireturn, 1) := by decide +kernel
theorem dL_exchange_0 : decode cL_exchange 0 = .ok (.aload_n 3, 1) := by decide +kernel
theorem dL_exchange_1 : decode cL_exchange 1 = .ok (.iconst 0, 1) := by decide +kernel
theorem dL_exchange_2 : decode cL_exchange 2 = .ok (.aload_n 0, 1) := by decide +kernel
theorem dL_exchange_3 : decode cL_exchange 3 = .ok (.iload_n 1, 1) := by decide +kernel
theorem dL_exchange_4 : decode cL_exchange 4 = .ok (.iload_n 2, 1) := by decide +kernel
theorem dL_exchange_5 : decode cL_exchange 5 = .ok (.invokevirtual 59, 3) := by decide +kernel
theorem dL_exchange_8 : decode cL_exchange 8 = .ok (.i2l, 1) := by decide +kernel
theorem dL_exchange_9 : decode cL_exchange 9 = .ok (.lastore, 1) := by decide +kernel
theorem dL_exchange_10 : decode cL_exchange 10 = .ok (.goto 11, 3) := by decide +kernel
theorem dL_exchange_13 : decode cL_exchange 13 = .ok (.astore 4, 2) := by decide +kernel
theorem dL_exchange_15 : decode cL_exchange 15 = .ok (.iconst 1, 1) := by decide +kernel
theorem dL_exchange_16 : decode cL_exchange 16 = .ok (.ireturn, 1) := by decide +kernel
theorem dL_exchange_17 : decode cL_exchange 17 = .ok (.astore 4, 2) := by decide +kernel
theorem dL_exchange_19 : decode cL_exchange 19 = .ok (.iconst 2, 1) := by decide +kernel
theorem dL_exchange_20 : decode cL_exchange 20 = .ok (.ireturn, 1) := by decide +kernel
theorem dL_exchange_21 : decode cL_exchange 21 = .ok (.iconst 0, 1) := by decide +kernel
theorem dL_exchange_22 : decode cL_exchange 22 = .ok (.ireturn, 1) := by decide +kernel
theorem dL_setHot_0 : decode cL_setHot 0 = .ok (.aload_n 2, 1) := by decide +kernel
theorem dL_setHot_1 : decode cL_setHot 1 = .ok (.iconst 0, 1) := by decide +kernel
theorem dL_setHot_2 : decode cL_setHot 2 = .ok (.aload_n 0, 1) := by decide +kernel
theorem dL_setHot_3 : decode cL_setHot 3 = .ok (.iload_n 1, 1) := by decide +kernel
theorem dL_setHot_4 : decode cL_setHot 4 = .ok (.invokevirtual 62, 3) := by decide +kernel
theorem dL_setHot_7 : decode cL_setHot 7 = .ok (.i2l, 1) := by decide +kernel
theorem dL_setHot_8 : decode cL_setHot 8 = .ok (.lastore, 1) := by decide +kernel
theorem dL_setHot_9 : decode cL_setHot 9 = .ok (.goto 6, 3) := by decide +kernel
theorem dL_setHot_12 : decode cL_setHot 12 = .ok (.astore_n 3, 1) := by decide +kernel
theorem dL_setHot_13 : decode cL_setHot 13 = .ok (.iconst 1, 1) := by decide +kernel
theorem dL_setHot_14 : decode cL_setHot 14 = .ok (.ireturn, 1) := by decide +kernel
theorem dL_setHot_15 : decode cL_setHot 15 = .ok (.iconst 0, 1) := by decide +kernel
theorem dL_setHot_16 : decode cL_setHot 16 = .ok (.ireturn, 1) := by decide +kernel
theorem dL_order_0 : decode cL_order 0 = .ok (.aload_n 2, 1) := by decide +kernel
theorem dL_order_1 : decode cL_order 1 = .ok (.iconst 0, 1) := by decide +kernel
theorem dL_order_2 : decode cL_order 2 = .ok (.aload_n 0, 1) := by decide +kernel
theorem dL_order_3 : decode cL_order 3 = .ok (.iload_n 1, 1) := by decide +kernel
theorem dL_order_4 : decode cL_order 4 = .ok (.invokevirtual 65, 3) := by decide +kernel
theorem dL_order_7 : decode cL_order 7 = .ok (.i2l, 1) := by decide +kernel
theorem dL_order_8 : decode cL_order 8 = .ok (.lastore, 1) := by decide +kernel
theorem dL_order_9 : decode cL_order 9 = .ok (.goto 6, 3) := by decide +kernel
theorem dL_order_12 : decode cL_order 12 = .ok (.astore_n 3, 1) := by decide +kernel
theorem dL_order_13 : decode cL_order 13 = .ok (.iconst 1, 1) := by decide +kernel
theorem dL_order_14 : decode cL_order 14 = .ok (.ireturn, 1) := by decide +kernel
theorem dL_order_15 : decode cL_order 15 = .ok (.iconst 0, 1) := by decide +kernel
theorem dL_order_16 : decode cL_order 16 = .ok (.ireturn, 1) := by decide +kernel
theorem dL_place_0 : decode cL_place 0 = .ok (.aload_n 3, 1) := by decide +kernel
theorem dL_place_1 : decode cL_place 1 = .ok (.iconst 0, 1) := by decide +kernel
theorem dL_place_2 : decode cL_place 2 = .ok (.aload_n 0, 1) := by decide +kernel
theorem dL_place_3 : decode cL_place 3 = .ok (.iload_n 1, 1) := by decide +kernel
theorem dL_place_4 : decode cL_place 4 = .ok (.iload_n 2, 1) := by decide +kernel
theorem dL_place_5 : decode cL_place 5 = .ok (.invokevirtual 68, 3) := by decide +kernel
theorem dL_place_8 : decode cL_place 8 = .ok (.i2l, 1) := by decide +kernel
theorem dL_place_9 : decode cL_place 9 = .ok (.lastore, 1) := by decide +kernel
theorem dL_place_10 : decode cL_place 10 = .ok (.goto 11, 3) := by decide +kernel
theorem dL_place_13 : decode cL_place 13 = .ok (.astore 4, 2) := by decide +kernel
theorem dL_place_15 : decode cL_place 15 = .ok (.iconst 1, 1) := by decide +kernel
theorem dL_place_16 : decode cL_place 16 = .ok (.ireturn, 1) := by decide +kernel
theorem dL_place_17 : decode cL_place 17 = .ok (.astore 4, 2) := by decide +kernel
theorem dL_place_19 : decode cL_place 19 = .ok (.iconst 2, 1) := by decide +kernel
theorem dL_place_20 : decode cL_place 20 = .ok (.ireturn, 1) := by decide +kernel
theorem dL_place_21 : decode cL_place 21 = .ok (.iconst 0, 1) := by decide +kernel
theorem dL_place_22 : decode cL_place 22 = .ok (.ireturn, 1) := by decide +kernel
theorem dL_end_0 : decode cL_end 0 = .ok (.aload_n 3, 1) := by decide +kernel
theorem dL_end_1 : decode cL_end 1 = .ok (.iconst 0, 1) := by decide +kernel
theorem dL_end_2 : decode cL_end 2 = .ok (.aload_n 0, 1) := by decide +kernel
theorem dL_end_3 : decode cL_end 3 = .ok (.iload_n 1, 1) := by decide +kernel
theorem dL_end_4 : decode cL_end 4 = .ok (.iload_n 2, 1) := by decide +kernel
theorem dL_end_5 : decode cL_end 5 = .ok (.invokevirtual 71, 3) := by decide +kernel
theorem dL_end_8 : decode cL_end 8 = .ok (.i2l, 1) := by decide +kernel
theorem dL_end_9 : decode cL_end 9 = .ok (.lastore, 1) := by decide +kernel
theorem dL_end_10 : decode cL_end 10 = .ok (.goto 11, 3) := by decide +kernel
theorem dL_end_13 : decode cL_end 13 = .ok (.astore 4, 2) := by decide +kernel
theorem dL_end_15 : decode cL_end 15 = .ok (.iconst 1, 1) := by decide +kernel
theorem dL_end_16 : decode cL_end 16 = .ok (.ireturn, 1) := by decide +kernel
theorem dL_end_17 : decode cL_end 17 = .ok (.astore 4, 2) := by decide +kernel
theorem dL_end_19 : decode cL_end 19 = .ok (.iconst 2, 1) := by decide +kernel
theorem dL_end_20 : decode cL_end 20 = .ok (.ireturn, 1) := by decide +kernel
theorem dL_end_21 : decode cL_end 21 = .ok (.iconst 0, 1) := by decide +kernel
theorem dL_end_22 : decode cL_end 22 = .ok (.ireturn, 1) := by decide +kernel
theorem dL_layout_0 : decode cL_layout 0 = .ok (.aload_n 2, 1) := by decide +kernel
theorem dL_layout_1 : decode cL_layout 1 = .ok (.iconst 0, 1) := by decide +kernel
theorem dL_layout_2 : decode cL_layout 2 = .ok (.aload_n 0, 1) := by decide +kernel
theorem dL_layout_3 : decode cL_layout 3 = .ok (.iload_n 1, 1) := by decide +kernel
theorem dL_layout_4 : decode cL_layout 4 = .ok (.invokevirtual 74, 3) := by decide +kernel
theorem dL_layout_7 : decode cL_layout 7 = .ok (.i2l, 1) := by decide +kernel
theorem dL_layout_8 : decode cL_layout 8 = .ok (.lastore, 1) := by decide +kernel
theorem dL_layout_9 : decode cL_layout 9 = .ok (.goto 6, 3) := by decide +kernel
theorem dL_layout_12 : decode cL_layout 12 = .ok (.astore_n 3, 1) := by decide +kernel
theorem dL_layout_13 : decode cL_layout 13 = .ok (.iconst 1, 1) := by decide +kernel
theorem dL_layout_14 : decode cL_layout 14 = .ok (.ireturn, 1) := by decide +kernel
theorem dL_layout_15 : decode cL_layout 15 = .ok (.iconst 0, 1) := by decide +kernel
theorem dL_layout_16 : decode cL_layout 16 = .ok (.ireturn, 1) := by decide +kernel
theorem dL_meanCycles_0 : decode cL_meanCycles 0 = .ok (.aload_n 1, 1) := by decide +kernel
theorem dL_meanCycles_1 : decode cL_meanCycles 1 = .ok (.iconst 0, 1) := by decide +kernel
theorem dL_meanCycles_2 : decode cL_meanCycles 2 = .ok (.aload_n 0, 1) := by decide +kernel
theorem dL_meanCycles_3 : decode cL_meanCycles 3 = .ok (.invokevirtual 77, 3) := by decide +kernel
theorem dL_meanCycles_6 : decode cL_meanCycles 6 = .ok (.dastore, 1) := by decide +kernel
theorem dL_meanCycles_7 : decode cL_meanCycles 7 = .ok (.goto 6, 3) := by decide +kernel
theorem dL_meanCycles_10 : decode cL_meanCycles 10 = .ok (.astore_n 2, 1) := by decide +kernel
theorem dL_meanCycles_11 : decode cL_meanCycles 11 = .ok (.iconst 1, 1) := by decide +kernel
theorem dL_meanCycles_12 : decode cL_meanCycles 12 = .ok (.ireturn, 1) := by decide +kernel
theorem dL_meanCycles_13 : decode cL_meanCycles 13 = .ok (.iconst 0, 1) := by decide +kernel
theorem dL_meanCycles_14 : decode cL_meanCycles 14 = .ok (.ireturn, 1) := by decide +kernel
theorem dL_feed_0 : decode cL_feed 0 = .ok (.aload_n 2, 1) := by decide +kernel
theorem dL_feed_1 : decode cL_feed 1 = .ok (.iconst 0, 1) := by decide +kernel
theorem dL_feed_2 : decode cL_feed 2 = .ok (.aload_n 0, 1) := by decide +kernel
theorem dL_feed_3 : decode cL_feed 3 = .ok (.iload_n 1, 1) := by decide +kernel
theorem dL_feed_4 : decode cL_feed 4 = .ok (.invokevirtual 81, 3) := by decide +kernel
theorem dL_feed_7 : decode cL_feed 7 = .ok (.i2l, 1) := by decide +kernel
theorem dL_feed_8 : decode cL_feed 8 = .ok (.lastore, 1) := by decide +kernel
theorem dL_feed_9 : decode cL_feed 9 = .ok (.goto 6, 3) := by decide +kernel
theorem dL_feed_12 : decode cL_feed 12 = .ok (.astore_n 3, 1) := by decide +kernel
theorem dL_feed_13 : decode cL_feed 13 = .ok (.iconst 1, 1) := by decide +kernel
theorem dL_feed_14 : decode cL_feed 14 = .ok (.ireturn, 1) := by decide +kernel
theorem dL_feed_15 : decode cL_feed 15 = .ok (.iconst 0, 1) := by decide +kernel
theorem dL_feed_16 : decode cL_feed 16 = .ok (.ireturn, 1) := by decide +kernel
theorem dL_read_0 : decode cL_read 0 = .ok (.aload_n 2, 1) := by decide +kernel
theorem dL_read_1 : decode cL_read 1 = .ok (.iconst 0, 1) := by decide +kernel
theorem dL_read_2 : decode cL_read 2 = .ok (.aload_n 0, 1) := by decide +kernel
theorem dL_read_3 : decode cL_read 3 = .ok (.iload_n 1, 1) := by decide +kernel
theorem dL_read_4 : decode cL_read 4 = .ok (.invokevirtual 87, 3) := by decide +kernel
theorem dL_read_7 : decode cL_read 7 = .ok (.i2l, 1) := by decide +kernel
theorem dL_read_8 : decode cL_read 8 = .ok (.lastore, 1) := by decide +kernel
theorem dL_read_9 : decode cL_read 9 = .ok (.goto 9, 3) := by decide +kernel
theorem dL_read_12 : decode cL_read 12 = .ok (.astore_n 3, 1) := by decide +kernel
theorem dL_read_13 : decode cL_read 13 = .ok (.iconst 1, 1) := by decide +kernel
theorem dL_read_14 : decode cL_read 14 = .ok (.ireturn, 1) := by decide +kernel
theorem dL_read_15 : decode cL_read 15 = .ok (.astore_n 3, 1) := by decide +kernel
theorem dL_read_16 : decode cL_read 16 = .ok (.iconst 2, 1) := by decide +kernel
theorem dL_read_17 : decode cL_read 17 = .ok (.ireturn, 1) := by decide +kernel
theorem dL_read_18 : decode cL_read 18 = .ok (.iconst 0, 1) := by decide +kernel
theorem dL_read_19 : decode cL_read 19 = .ok (.ireturn, 1) := by decide +kernel
theorem dL_undo_0 : decode cL_undo 0 = .ok (.aload_n 1, 1) := by decide +kernel
theorem dL_undo_1 : decode cL_undo 1 = .ok (.iconst 0, 1) := by decide +kernel
theorem dL_undo_2 : decode cL_undo 2 = .ok (.aload_n 0, 1) := by decide +kernel
theorem dL_undo_3 : decode cL_undo 3 = .ok (.invokevirtual 90, 3) := by decide +kernel
theorem dL_undo_6 : decode cL_undo 6 = .ok (.i2l, 1) := by decide +kernel
theorem dL_undo_7 : decode cL_undo 7 = .ok (.lastore, 1) := by decide +kernel
theorem dL_undo_8 : decode cL_undo 8 = .ok (.goto 6, 3) := by decide +kernel
theorem dL_undo_11 : decode cL_undo 11 = .ok (.astore_n 2, 1) := by decide +kernel
theorem dL_undo_12 : decode cL_undo 12 = .ok (.iconst 1, 1) := by decide +kernel
theorem dL_undo_13 : decode cL_undo 13 = .ok (.ireturn, 1) := by decide +kernel
theorem dL_undo_14 : decode cL_undo 14 = .ok (.iconst 0, 1) := by decide +kernel
theorem dL_undo_15 : decode cL_undo 15 = .ok (.ireturn, 1) := by decide +kernel
theorem dL_law_0 : decode cL_law 0 = .ok (.new 8, 3) := by decide +kernel
theorem dL_law_3 : decode cL_law 3 = .ok (.dup, 1) := by decide +kernel
theorem dL_law_4 : decode cL_law 4 = .ok (.invokespecial 96, 3) := by decide +kernel
theorem dL_law_7 : decode cL_law 7 = .ok (.astore_n 1, 1) := by decide +kernel
theorem dL_law_8 : decode cL_law 8 = .ok (.new 97, 3) := by decide +kernel
theorem dL_law_11 : decode cL_law 11 = .ok (.dup, 1) := by decide +kernel
theorem dL_law_12 : decode cL_law 12 = .ok (.invokespecial 99, 3) := by decide +kernel
theorem dL_law_15 : decode cL_law 15 = .ok (.astore_n 2, 1) := by decide +kernel
theorem dL_law_16 : decode cL_law 16 = .ok (.iconst 1, 1) := by decide +kernel
theorem dL_law_17 : decode cL_law 17 = .ok (.newarray .long, 2) := by decide +kernel
theorem dL_law_19 : decode cL_law 19 = .ok (.astore_n 3, 1) := by decide +kernel
theorem dL_law_20 : decode cL_law 20 = .ok (.iconst 1, 1) := by decide +kernel
theorem dL_law_21 : decode cL_law 21 = .ok (.newarray .double, 2) := by decide +kernel
theorem dL_law_23 : decode cL_law 23 = .ok (.astore 4, 2) := by decide +kernel
theorem dL_law_25 : decode cL_law 25 = .ok (.iconst 0, 1) := by decide +kernel
theorem dL_law_26 : decode cL_law 26 = .ok (.istore 5, 2) := by decide +kernel
theorem dL_law_28 : decode cL_law 28 = .ok (.iload 5, 2) := by decide +kernel
theorem dL_law_30 : decode cL_law 30 = .ok (.aload_n 0, 1) := by decide +kernel
theorem dL_law_31 : decode cL_law 31 = .ok (.arraylength, 1) := by decide +kernel
theorem dL_law_32 : decode cL_law 32 = .ok (.iconst 5, 1) := by decide +kernel
theorem dL_law_33 : decode cL_law 33 = .ok (.isub, 1) := by decide +kernel
theorem dL_law_34 : decode cL_law 34 = .ok (.if_icmp .gt 1599, 3) := by decide +kernel
theorem dL_law_37 : decode cL_law 37 = .ok (.aload_n 0, 1) := by decide +kernel
theorem dL_law_38 : decode cL_law 38 = .ok (.iload 5, 2) := by decide +kernel
theorem dL_law_40 : decode cL_law 40 = .ok (.iaload, 1) := by decide +kernel
theorem dL_law_41 : decode cL_law 41 = .ok (.bipush 31, 2) := by decide +kernel
theorem dL_law_43 : decode cL_law 43 = .ok (.iand, 1) := by decide +kernel
theorem dL_law_44 : decode cL_law 44 = .ok (.tableswitch 1583 0 26 #[124, 180, 248, 316, 408, 464, 520, 588, 644, 700, 713, 769, 782, 838, 894, 962, 1030, 1086, 1142, 1210, 1278, 1334, 1347, 1412, 1425, 1483, 1539], 124) := by decide +kernel
theorem dL_law_168 : decode cL_law 168 = .ok (.aload_n 1, 1) := by decide +kernel
theorem dL_law_169 : decode cL_law 169 = .ok (.aload_n 0, 1) := by decide +kernel
theorem dL_law_170 : decode cL_law 170 = .ok (.iload 5, 2) := by decide +kernel
theorem dL_law_172 : decode cL_law 172 = .ok (.iconst 1, 1) := by decide +kernel
theorem dL_law_173 : decode cL_law 173 = .ok (.iadd, 1) := by decide +kernel
theorem dL_law_174 : decode cL_law 174 = .ok (.iaload, 1) := by decide +kernel
theorem dL_law_175 : decode cL_law 175 = .ok (.aload_n 3, 1) := by decide +kernel
theorem dL_law_176 : decode cL_law 176 = .ok (.invokestatic 100, 3) := by decide +kernel
theorem dL_law_179 : decode cL_law 179 = .ok (.istore 6, 2) := by decide +kernel
theorem dL_law_181 : decode cL_law 181 = .ok (.aload_n 2, 1) := by decide +kernel
theorem dL_law_182 : decode cL_law 182 = .ok (.aload_n 0, 1) := by decide +kernel
theorem dL_law_183 : decode cL_law 183 = .ok (.iload 5, 2) := by decide +kernel
theorem dL_law_185 : decode cL_law 185 = .ok (.iconst 1, 1) := by decide +kernel
theorem dL_law_186 : decode cL_law 186 = .ok (.iadd, 1) := by decide +kernel
theorem dL_law_187 : decode cL_law 187 = .ok (.iaload, 1) := by decide +kernel
theorem dL_law_188 : decode cL_law 188 = .ok (.invokevirtual 105, 3) := by decide +kernel
theorem dL_law_191 : decode cL_law 191 = .ok (.istore 7, 2) := by decide +kernel
theorem dL_law_193 : decode cL_law 193 = .ok (.aload_n 2, 1) := by decide +kernel
theorem dL_law_194 : decode cL_law 194 = .ok (.invokevirtual 106, 3) := by decide +kernel
theorem dL_law_197 : decode cL_law 197 = .ok (.iload 6, 2) := by decide +kernel
theorem dL_law_199 : decode cL_law 199 = .ok (.if_icmp .eq 5, 3) := by decide +kernel
theorem dL_law_202 : decode cL_law 202 = .ok (.iconst 0, 1) := by decide +kernel
theorem dL_law_203 : decode cL_law 203 = .ok (.ireturn, 1) := by decide +kernel
theorem dL_law_204 : decode cL_law 204 = .ok (.iload 6, 2) := by decide +kernel
theorem dL_law_206 : decode cL_law 206 = .ok (.ifCond .ne 15, 3) := by decide +kernel
theorem dL_law_209 : decode cL_law 209 = .ok (.aload_n 3, 1) := by decide +kernel
theorem dL_law_210 : decode cL_law 210 = .ok (.iconst 0, 1) := by decide +kernel
theorem dL_law_211 : decode cL_law 211 = .ok (.laload, 1) := by decide +kernel
theorem dL_law_212 : decode cL_law 212 = .ok (.iload 7, 2) := by decide +kernel
theorem dL_law_214 : decode cL_law 214 = .ok (.i2l, 1) := by decide +kernel
theorem dL_law_215 : decode cL_law 215 = .ok (.lcmp, 1) := by decide +kernel
theorem dL_law_216 : decode cL_law 216 = .ok (.ifCond .eq 5, 3) := by decide +kernel
theorem dL_law_219 : decode cL_law 219 = .ok (.iconst 0, 1) := by decide +kernel
theorem dL_law_220 : decode cL_law 220 = .ok (.ireturn, 1) := by decide +kernel
theorem dL_law_221 : decode cL_law 221 = .ok (.goto 1406, 3) := by decide +kernel
theorem dL_law_224 : decode cL_law 224 = .ok (.aload_n 1, 1) := by decide +kernel
theorem dL_law_225 : decode cL_law 225 = .ok (.aload_n 0, 1) := by decide +kernel
theorem dL_law_226 : decode cL_law 226 = .ok (.iload 5, 2) := by decide +kernel
theorem dL_law_228 : decode cL_law 228 = .ok (.iconst 1, 1) := by decide +kernel
theorem dL_law_229 : decode cL_law 229 = .ok (.iadd, 1) := by decide +kernel
theorem dL_law_230 : decode cL_law 230 = .ok (.iaload, 1) := by decide +kernel
theorem dL_law_231 : decode cL_law 231 = .ok (.aload_n 0, 1) := by decide +kernel
theorem dL_law_232 : decode cL_law 232 = .ok (.iload 5, 2) := by decide +kernel
theorem dL_law_234 : decode cL_law 234 = .ok (.iconst 2, 1) := by decide +kernel
theorem dL_law_235 : decode cL_law 235 = .ok (.iadd, 1) := by decide +kernel
theorem dL_law_236 : decode cL_law 236 = .ok (.iaload, 1) := by decide +kernel
theorem dL_law_237 : decode cL_law 237 = .ok (.aload_n 3, 1) := by decide +kernel
theorem dL_law_238 : decode cL_law 238 = .ok (.invokestatic 109, 3) := by decide +kernel
theorem dL_law_241 : decode cL_law 241 = .ok (.istore 6, 2) := by decide +kernel
theorem dL_law_243 : decode cL_law 243 = .ok (.aload_n 2, 1) := by decide +kernel
theorem dL_law_244 : decode cL_law 244 = .ok (.aload_n 0, 1) := by decide +kernel
theorem dL_law_245 : decode cL_law 245 = .ok (.iload 5, 2) := by decide +kernel
theorem dL_law_247 : decode cL_law 247 = .ok (.iconst 1, 1) := by decide +kernel
theorem dL_law_248 : decode cL_law 248 = .ok (.iadd, 1) := by decide +kernel
theorem dL_law_249 : decode cL_law 249 = .ok (.iaload, 1) := by decide +kernel
theorem dL_law_250 : decode cL_law 250 = .ok (.aload_n 0, 1) := by decide +kernel
theorem dL_law_251 : decode cL_law 251 = .ok (.iload 5, 2) := by decide +kernel
theorem dL_law_253 : decode cL_law 253 = .ok (.iconst 2, 1) := by decide +kernel
theorem dL_law_254 : decode cL_law 254 = .ok (.iadd, 1) := by decide +kernel
theorem dL_law_255 : decode cL_law 255 = .ok (.iaload, 1) := by decide +kernel
theorem dL_law_256 : decode cL_law 256 = .ok (.invokevirtual 112, 3) := by decide +kernel
theorem dL_law_259 : decode cL_law 259 = .ok (.istore 7, 2) := by decide +kernel
theorem dL_law_261 : decode cL_law 261 = .ok (.aload_n 2, 1) := by decide +kernel
theorem dL_law_262 : decode cL_law 262 = .ok (.invokevirtual 106, 3) := by decide +kernel
theorem dL_law_265 : decode cL_law 265 = .ok (.iload 6, 2) := by decide +kernel
theorem dL_law_267 : decode cL_law 267 = .ok (.if_icmp .eq 5, 3) := by decide +kernel
theorem dL_law_270 : decode cL_law 270 = .ok (.iconst 0, 1) := by decide +kernel
theorem dL_law_271 : decode cL_law 271 = .ok (.ireturn, 1) := by decide +kernel
theorem dL_law_272 : decode cL_law 272 = .ok (.iload 6, 2) := by decide +kernel
theorem dL_law_274 : decode cL_law 274 = .ok (.ifCond .ne 15, 3) := by decide +kernel
theorem dL_law_277 : decode cL_law 277 = .ok (.aload_n 3, 1) := by decide +kernel
theorem dL_law_278 : decode cL_law 278 = .ok (.iconst 0, 1) := by decide +kernel
theorem dL_law_279 : decode cL_law 279 = .ok (.laload, 1) := by decide +kernel
theorem dL_law_280 : decode cL_law 280 = .ok (.iload 7, 2) := by decide +kernel
theorem dL_law_282 : decode cL_law 282 = .ok (.i2l, 1) := by decide +kernel
theorem dL_law_283 : decode cL_law 283 = .ok (.lcmp, 1) := by decide +kernel
theorem dL_law_284 : decode cL_law 284 = .ok (.ifCond .eq 5, 3) := by decide +kernel
theorem dL_law_287 : decode cL_law 287 = .ok (.iconst 0, 1) := by decide +kernel
theorem dL_law_288 : decode cL_law 288 = .ok (.ireturn, 1) := by decide +kernel
theorem dL_law_289 : decode cL_law 289 = .ok (.goto 1338, 3) := by decide +kernel
theorem dL_law_292 : decode cL_law 292 = .ok (.aload_n 1, 1) := by decide +kernel
theorem dL_law_293 : decode cL_law 293 = .ok (.aload_n 0, 1) := by decide +kernel
theorem dL_law_294 : decode cL_law 294 = .ok (.iload 5, 2) := by decide +kernel
theorem dL_law_296 : decode cL_law 296 = .ok (.iconst 1, 1) := by decide +kernel
theorem dL_law_297 : decode cL_law 297 = .ok (.iadd, 1) := by decide +kernel
theorem dL_law_298 : decode cL_law 298 = .ok (.iaload, 1) := by decide +kernel
theorem dL_law_299 : decode cL_law 299 = .ok (.aload_n 0, 1) := by decide +kernel
theorem dL_law_300 : decode cL_law 300 = .ok (.iload 5, 2) := by decide +kernel
theorem dL_law_302 : decode cL_law 302 = .ok (.iconst 2, 1) := by decide +kernel
theorem dL_law_303 : decode cL_law 303 = .ok (.iadd, 1) := by decide +kernel
theorem dL_law_304 : decode cL_law 304 = .ok (.iaload, 1) := by decide +kernel
theorem dL_law_305 : decode cL_law 305 = .ok (.aload_n 3, 1) := by decide +kernel
theorem dL_law_306 : decode cL_law 306 = .ok (.invokestatic 113, 3) := by decide +kernel
theorem dL_law_309 : decode cL_law 309 = .ok (.istore 6, 2) := by decide +kernel
theorem dL_law_311 : decode cL_law 311 = .ok (.aload_n 2, 1) := by decide +kernel
theorem dL_law_312 : decode cL_law 312 = .ok (.aload_n 0, 1) := by decide +kernel
theorem dL_law_313 : decode cL_law 313 = .ok (.iload 5, 2) := by decide +kernel
theorem dL_law_315 : decode cL_law 315 = .ok (.iconst 1, 1) := by decide +kernel
theorem dL_law_316 : decode cL_law 316 = .ok (.iadd, 1) := by decide +kernel
theorem dL_law_317 : decode cL_law 317 = .ok (.iaload, 1) := by decide +kernel
theorem dL_law_318 : decode cL_law 318 = .ok (.aload_n 0, 1) := by decide +kernel
theorem dL_law_319 : decode cL_law 319 = .ok (.iload 5, 2) := by decide +kernel
theorem dL_law_321 : decode cL_law 321 = .ok (.iconst 2, 1) := by decide +kernel
theorem dL_law_322 : decode cL_law 322 = .ok (.iadd, 1) := by decide +kernel
theorem dL_law_323 : decode cL_law 323 = .ok (.iaload, 1) := by decide +kernel
theorem dL_law_324 : decode cL_law 324 = .ok (.invokevirtual 115, 3) := by decide +kernel
theorem dL_law_327 : decode cL_law 327 = .ok (.istore 7, 2) := by decide +kernel
theorem dL_law_329 : decode cL_law 329 = .ok (.aload_n 2, 1) := by decide +kernel
theorem dL_law_330 : decode cL_law 330 = .ok (.invokevirtual 106, 3) := by decide +kernel
theorem dL_law_333 : decode cL_law 333 = .ok (.iload 6, 2) := by decide +kernel
theorem dL_law_335 : decode cL_law 335 = .ok (.if_icmp .eq 5, 3) := by decide +kernel
theorem dL_law_338 : decode cL_law 338 = .ok (.iconst 0, 1) := by decide +kernel
theorem dL_law_339 : decode cL_law 339 = .ok (.ireturn, 1) := by decide +kernel
theorem dL_law_340 : decode cL_law 340 = .ok (.iload 6, 2) := by decide +kernel
theorem dL_law_342 : decode cL_law 342 = .ok (.ifCond .ne 15, 3) := by decide +kernel
theorem dL_law_345 : decode cL_law 345 = .ok (.aload_n 3, 1) := by decide +kernel
theorem dL_law_346 : decode cL_law 346 = .ok (.iconst 0, 1) := by decide +kernel
theorem dL_law_347 : decode cL_law 347 = .ok (.laload, 1) := by decide +kernel
theorem dL_law_348 : decode cL_law 348 = .ok (.iload 7, 2) := by decide +kernel
theorem dL_law_350 : decode cL_law 350 = .ok (.i2l, 1) := by decide +kernel
theorem dL_law_351 : decode cL_law 351 = .ok (.lcmp, 1) := by decide +kernel
theorem dL_law_352 : decode cL_law 352 = .ok (.ifCond .eq 5, 3) := by decide +kernel
theorem dL_law_355 : decode cL_law 355 = .ok (.iconst 0, 1) := by decide +kernel
theorem dL_law_356 : decode cL_law 356 = .ok (.ireturn, 1) := by decide +kernel
theorem dL_law_357 : decode cL_law 357 = .ok (.goto 1270, 3) := by decide +kernel
theorem dL_law_360 : decode cL_law 360 = .ok (.aload_n 1, 1) := by decide +kernel
theorem dL_law_361 : decode cL_law 361 = .ok (.aload_n 0, 1) := by decide +kernel
theorem dL_law_362 : decode cL_law 362 = .ok (.iload 5, 2) := by decide +kernel
theorem dL_law_364 : decode cL_law 364 = .ok (.iconst 1, 1) := by decide +kernel
theorem dL_law_365 : decode cL_law 365 = .ok (.iadd, 1) := by decide +kernel
theorem dL_law_366 : decode cL_law 366 = .ok (.iaload, 1) := by decide +kernel
theorem dL_law_367 : decode cL_law 367 = .ok (.aload_n 0, 1) := by decide +kernel
theorem dL_law_368 : decode cL_law 368 = .ok (.iload 5, 2) := by decide +kernel
theorem dL_law_370 : decode cL_law 370 = .ok (.iconst 2, 1) := by decide +kernel
theorem dL_law_371 : decode cL_law 371 = .ok (.iadd, 1) := by decide +kernel
theorem dL_law_372 : decode cL_law 372 = .ok (.iaload, 1) := by decide +kernel
theorem dL_law_373 : decode cL_law 373 = .ok (.aload_n 0, 1) := by decide +kernel
theorem dL_law_374 : decode cL_law 374 = .ok (.iload 5, 2) := by decide +kernel
theorem dL_law_376 : decode cL_law 376 = .ok (.iconst 3, 1) := by decide +kernel
theorem dL_law_377 : decode cL_law 377 = .ok (.iadd, 1) := by decide +kernel
theorem dL_law_378 : decode cL_law 378 = .ok (.iaload, 1) := by decide +kernel
theorem dL_law_379 : decode cL_law 379 = .ok (.aload_n 0, 1) := by decide +kernel
theorem dL_law_380 : decode cL_law 380 = .ok (.iload 5, 2) := by decide +kernel
theorem dL_law_382 : decode cL_law 382 = .ok (.iconst 4, 1) := by decide +kernel
theorem dL_law_383 : decode cL_law 383 = .ok (.iadd, 1) := by decide +kernel
theorem dL_law_384 : decode cL_law 384 = .ok (.iaload, 1) := by decide +kernel
theorem dL_law_385 : decode cL_law 385 = .ok (.aload_n 3, 1) := by decide +kernel
theorem dL_law_386 : decode cL_law 386 = .ok (.invokestatic 116, 3) := by decide +kernel
theorem dL_law_389 : decode cL_law 389 = .ok (.istore 6, 2) := by decide +kernel
theorem dL_law_391 : decode cL_law 391 = .ok (.aload_n 2, 1) := by decide +kernel
theorem dL_law_392 : decode cL_law 392 = .ok (.aload_n 0, 1) := by decide +kernel
theorem dL_law_393 : decode cL_law 393 = .ok (.iload 5, 2) := by decide +kernel
theorem dL_law_395 : decode cL_law 395 = .ok (.iconst 1, 1) := by decide +kernel
theorem dL_law_396 : decode cL_law 396 = .ok (.iadd, 1) := by decide +kernel
theorem dL_law_397 : decode cL_law 397 = .ok (.iaload, 1) := by decide +kernel
theorem dL_law_398 : decode cL_law 398 = .ok (.aload_n 0, 1) := by decide +kernel
theorem dL_law_399 : decode cL_law 399 = .ok (.iload 5, 2) := by decide +kernel
theorem dL_law_401 : decode cL_law 401 = .ok (.iconst 2, 1) := by decide +kernel
theorem dL_law_402 : decode cL_law 402 = .ok (.iadd, 1) := by decide +kernel
theorem dL_law_403 : decode cL_law 403 = .ok (.iaload, 1) := by decide +kernel
theorem dL_law_404 : decode cL_law 404 = .ok (.aload_n 0, 1) := by decide +kernel
theorem dL_law_405 : decode cL_law 405 = .ok (.iload 5, 2) := by decide +kernel
theorem dL_law_407 : decode cL_law 407 = .ok (.iconst 3, 1) := by decide +kernel
theorem dL_law_408 : decode cL_law 408 = .ok (.iadd, 1) := by decide +kernel
theorem dL_law_409 : decode cL_law 409 = .ok (.iaload, 1) := by decide +kernel
theorem dL_law_410 : decode cL_law 410 = .ok (.aload_n 0, 1) := by decide +kernel
theorem dL_law_411 : decode cL_law 411 = .ok (.iload 5, 2) := by decide +kernel
theorem dL_law_413 : decode cL_law 413 = .ok (.iconst 4, 1) := by decide +kernel
theorem dL_law_414 : decode cL_law 414 = .ok (.iadd, 1) := by decide +kernel
theorem dL_law_415 : decode cL_law 415 = .ok (.iaload, 1) := by decide +kernel
theorem dL_law_416 : decode cL_law 416 = .ok (.invokevirtual 119, 3) := by decide +kernel
theorem dL_law_419 : decode cL_law 419 = .ok (.istore 7, 2) := by decide +kernel
theorem dL_law_421 : decode cL_law 421 = .ok (.aload_n 2, 1) := by decide +kernel
theorem dL_law_422 : decode cL_law 422 = .ok (.invokevirtual 106, 3) := by decide +kernel
theorem dL_law_425 : decode cL_law 425 = .ok (.iload 6, 2) := by decide +kernel
theorem dL_law_427 : decode cL_law 427 = .ok (.if_icmp .eq 5, 3) := by decide +kernel
theorem dL_law_430 : decode cL_law 430 = .ok (.iconst 0, 1) := by decide +kernel
theorem dL_law_431 : decode cL_law 431 = .ok (.ireturn, 1) := by decide +kernel
theorem dL_law_432 : decode cL_law 432 = .ok (.iload 6, 2) := by decide +kernel
theorem dL_law_434 : decode cL_law 434 = .ok (.ifCond .ne 15, 3) := by decide +kernel
theorem dL_law_437 : decode cL_law 437 = .ok (.aload_n 3, 1) := by decide +kernel
theorem dL_law_438 : decode cL_law 438 = .ok (.iconst 0, 1) := by decide +kernel
theorem dL_law_439 : decode cL_law 439 = .ok (.laload, 1) := by decide +kernel
theorem dL_law_440 : decode cL_law 440 = .ok (.iload 7, 2) := by decide +kernel
theorem dL_law_442 : decode cL_law 442 = .ok (.i2l, 1) := by decide +kernel
theorem dL_law_443 : decode cL_law 443 = .ok (.lcmp, 1) := by decide +kernel
theorem dL_law_444 : decode cL_law 444 = .ok (.ifCond .eq 5, 3) := by decide +kernel
theorem dL_law_447 : decode cL_law 447 = .ok (.iconst 0, 1) := by decide +kernel
theorem dL_law_448 : decode cL_law 448 = .ok (.ireturn, 1) := by decide +kernel
theorem dL_law_449 : decode cL_law 449 = .ok (.goto 1178, 3) := by decide +kernel
theorem dL_law_452 : decode cL_law 452 = .ok (.aload_n 1, 1) := by decide +kernel
theorem dL_law_453 : decode cL_law 453 = .ok (.aload_n 0, 1) := by decide +kernel
theorem dL_law_454 : decode cL_law 454 = .ok (.iload 5, 2) := by decide +kernel
theorem dL_law_456 : decode cL_law 456 = .ok (.iconst 1, 1) := by decide +kernel
theorem dL_law_457 : decode cL_law 457 = .ok (.iadd, 1) := by decide +kernel
theorem dL_law_458 : decode cL_law 458 = .ok (.iaload, 1) := by decide +kernel
theorem dL_law_459 : decode cL_law 459 = .ok (.aload_n 3, 1) := by decide +kernel
theorem dL_law_460 : decode cL_law 460 = .ok (.invokestatic 120, 3) := by decide +kernel
theorem dL_law_463 : decode cL_law 463 = .ok (.istore 6, 2) := by decide +kernel
theorem dL_law_465 : decode cL_law 465 = .ok (.aload_n 2, 1) := by decide +kernel
theorem dL_law_466 : decode cL_law 466 = .ok (.aload_n 0, 1) := by decide +kernel
theorem dL_law_467 : decode cL_law 467 = .ok (.iload 5, 2) := by decide +kernel
theorem dL_law_469 : decode cL_law 469 = .ok (.iconst 1, 1) := by decide +kernel
theorem dL_law_470 : decode cL_law 470 = .ok (.iadd, 1) := by decide +kernel
theorem dL_law_471 : decode cL_law 471 = .ok (.iaload, 1) := by decide +kernel
theorem dL_law_472 : decode cL_law 472 = .ok (.invokevirtual 122, 3) := by decide +kernel
theorem dL_law_475 : decode cL_law 475 = .ok (.istore 7, 2) := by decide +kernel
theorem dL_law_477 : decode cL_law 477 = .ok (.aload_n 2, 1) := by decide +kernel
theorem dL_law_478 : decode cL_law 478 = .ok (.invokevirtual 106, 3) := by decide +kernel
theorem dL_law_481 : decode cL_law 481 = .ok (.iload 6, 2) := by decide +kernel
theorem dL_law_483 : decode cL_law 483 = .ok (.if_icmp .eq 5, 3) := by decide +kernel
theorem dL_law_486 : decode cL_law 486 = .ok (.iconst 0, 1) := by decide +kernel
theorem dL_law_487 : decode cL_law 487 = .ok (.ireturn, 1) := by decide +kernel
theorem dL_law_488 : decode cL_law 488 = .ok (.iload 6, 2) := by decide +kernel
theorem dL_law_490 : decode cL_law 490 = .ok (.ifCond .ne 15, 3) := by decide +kernel
theorem dL_law_493 : decode cL_law 493 = .ok (.aload_n 3, 1) := by decide +kernel
theorem dL_law_494 : decode cL_law 494 = .ok (.iconst 0, 1) := by decide +kernel
theorem dL_law_495 : decode cL_law 495 = .ok (.laload, 1) := by decide +kernel
theorem dL_law_496 : decode cL_law 496 = .ok (.iload 7, 2) := by decide +kernel
theorem dL_law_498 : decode cL_law 498 = .ok (.i2l, 1) := by decide +kernel
theorem dL_law_499 : decode cL_law 499 = .ok (.lcmp, 1) := by decide +kernel
theorem dL_law_500 : decode cL_law 500 = .ok (.ifCond .eq 5, 3) := by decide +kernel
theorem dL_law_503 : decode cL_law 503 = .ok (.iconst 0, 1) := by decide +kernel
theorem dL_law_504 : decode cL_law 504 = .ok (.ireturn, 1) := by decide +kernel
theorem dL_law_505 : decode cL_law 505 = .ok (.goto 1122, 3) := by decide +kernel
theorem dL_law_508 : decode cL_law 508 = .ok (.aload_n 1, 1) := by decide +kernel
theorem dL_law_509 : decode cL_law 509 = .ok (.aload_n 0, 1) := by decide +kernel
theorem dL_law_510 : decode cL_law 510 = .ok (.iload 5, 2) := by decide +kernel
theorem dL_law_512 : decode cL_law 512 = .ok (.iconst 1, 1) := by decide +kernel
theorem dL_law_513 : decode cL_law 513 = .ok (.iadd, 1) := by decide +kernel
theorem dL_law_514 : decode cL_law 514 = .ok (.iaload, 1) := by decide +kernel
theorem dL_law_515 : decode cL_law 515 = .ok (.aload_n 3, 1) := by decide +kernel
theorem dL_law_516 : decode cL_law 516 = .ok (.invokestatic 123, 3) := by decide +kernel
theorem dL_law_519 : decode cL_law 519 = .ok (.istore 6, 2) := by decide +kernel
theorem dL_law_521 : decode cL_law 521 = .ok (.aload_n 2, 1) := by decide +kernel
theorem dL_law_522 : decode cL_law 522 = .ok (.aload_n 0, 1) := by decide +kernel
theorem dL_law_523 : decode cL_law 523 = .ok (.iload 5, 2) := by decide +kernel
theorem dL_law_525 : decode cL_law 525 = .ok (.iconst 1, 1) := by decide +kernel
theorem dL_law_526 : decode cL_law 526 = .ok (.iadd, 1) := by decide +kernel
theorem dL_law_527 : decode cL_law 527 = .ok (.iaload, 1) := by decide +kernel
theorem dL_law_528 : decode cL_law 528 = .ok (.invokevirtual 125, 3) := by decide +kernel
theorem dL_law_531 : decode cL_law 531 = .ok (.istore 7, 2) := by decide +kernel
theorem dL_law_533 : decode cL_law 533 = .ok (.aload_n 2, 1) := by decide +kernel
theorem dL_law_534 : decode cL_law 534 = .ok (.invokevirtual 106, 3) := by decide +kernel
theorem dL_law_537 : decode cL_law 537 = .ok (.iload 6, 2) := by decide +kernel
theorem dL_law_539 : decode cL_law 539 = .ok (.if_icmp .eq 5, 3) := by decide +kernel
theorem dL_law_542 : decode cL_law 542 = .ok (.iconst 0, 1) := by decide +kernel
theorem dL_law_543 : decode cL_law 543 = .ok (.ireturn, 1) := by decide +kernel
theorem dL_law_544 : decode cL_law 544 = .ok (.iload 6, 2) := by decide +kernel
theorem dL_law_546 : decode cL_law 546 = .ok (.ifCond .ne 15, 3) := by decide +kernel
theorem dL_law_549 : decode cL_law 549 = .ok (.aload_n 3, 1) := by decide +kernel
theorem dL_law_550 : decode cL_law 550 = .ok (.iconst 0, 1) := by decide +kernel
theorem dL_law_551 : decode cL_law 551 = .ok (.laload, 1) := by decide +kernel
theorem dL_law_552 : decode cL_law 552 = .ok (.iload 7, 2) := by decide +kernel
theorem dL_law_554 : decode cL_law 554 = .ok (.i2l, 1) := by decide +kernel
theorem dL_law_555 : decode cL_law 555 = .ok (.lcmp, 1) := by decide +kernel
theorem dL_law_556 : decode cL_law 556 = .ok (.ifCond .eq 5, 3) := by decide +kernel
theorem dL_law_559 : decode cL_law 559 = .ok (.iconst 0, 1) := by decide +kernel
theorem dL_law_560 : decode cL_law 560 = .ok (.ireturn, 1) := by decide +kernel
theorem dL_law_561 : decode cL_law 561 = .ok (.goto 1066, 3) := by decide +kernel
theorem dL_law_564 : decode cL_law 564 = .ok (.aload_n 1, 1) := by decide +kernel
theorem dL_law_565 : decode cL_law 565 = .ok (.aload_n 0, 1) := by decide +kernel
theorem dL_law_566 : decode cL_law 566 = .ok (.iload 5, 2) := by decide +kernel
theorem dL_law_568 : decode cL_law 568 = .ok (.iconst 1, 1) := by decide +kernel
theorem dL_law_569 : decode cL_law 569 = .ok (.iadd, 1) := by decide +kernel
theorem dL_law_570 : decode cL_law 570 = .ok (.iaload, 1) := by decide +kernel
theorem dL_law_571 : decode cL_law 571 = .ok (.aload_n 0, 1) := by decide +kernel
theorem dL_law_572 : decode cL_law 572 = .ok (.iload 5, 2) := by decide +kernel
theorem dL_law_574 : decode cL_law 574 = .ok (.iconst 2, 1) := by decide +kernel
theorem dL_law_575 : decode cL_law 575 = .ok (.iadd, 1) := by decide +kernel
theorem dL_law_576 : decode cL_law 576 = .ok (.iaload, 1) := by decide +kernel
theorem dL_law_577 : decode cL_law 577 = .ok (.aload_n 3, 1) := by decide +kernel
theorem dL_law_578 : decode cL_law 578 = .ok (.invokestatic 126, 3) := by decide +kernel
theorem dL_law_581 : decode cL_law 581 = .ok (.istore 6, 2) := by decide +kernel
theorem dL_law_583 : decode cL_law 583 = .ok (.aload_n 2, 1) := by decide +kernel
theorem dL_law_584 : decode cL_law 584 = .ok (.aload_n 0, 1) := by decide +kernel
theorem dL_law_585 : decode cL_law 585 = .ok (.iload 5, 2) := by decide +kernel
theorem dL_law_587 : decode cL_law 587 = .ok (.iconst 1, 1) := by decide +kernel
theorem dL_law_588 : decode cL_law 588 = .ok (.iadd, 1) := by decide +kernel
theorem dL_law_589 : decode cL_law 589 = .ok (.iaload, 1) := by decide +kernel
theorem dL_law_590 : decode cL_law 590 = .ok (.aload_n 0, 1) := by decide +kernel
theorem dL_law_591 : decode cL_law 591 = .ok (.iload 5, 2) := by decide +kernel
theorem dL_law_593 : decode cL_law 593 = .ok (.iconst 2, 1) := by decide +kernel
theorem dL_law_594 : decode cL_law 594 = .ok (.iadd, 1) := by decide +kernel
theorem dL_law_595 : decode cL_law 595 = .ok (.iaload, 1) := by decide +kernel
theorem dL_law_596 : decode cL_law 596 = .ok (.invokevirtual 128, 3) := by decide +kernel
theorem dL_law_599 : decode cL_law 599 = .ok (.istore 7, 2) := by decide +kernel
theorem dL_law_601 : decode cL_law 601 = .ok (.aload_n 2, 1) := by decide +kernel
theorem dL_law_602 : decode cL_law 602 = .ok (.invokevirtual 106, 3) := by decide +kernel
theorem dL_law_605 : decode cL_law 605 = .ok (.iload 6, 2) := by decide +kernel
theorem dL_law_607 : decode cL_law 607 = .ok (.if_icmp .eq 5, 3) := by decide +kernel
theorem dL_law_610 : decode cL_law 610 = .ok (.iconst 0, 1) := by decide +kernel
theorem dL_law_611 : decode cL_law 611 = .ok (.ireturn, 1) := by decide +kernel
theorem dL_law_612 : decode cL_law 612 = .ok (.iload 6, 2) := by decide +kernel
theorem dL_law_614 : decode cL_law 614 = .ok (.ifCond .ne 15, 3) := by decide +kernel
theorem dL_law_617 : decode cL_law 617 = .ok (.aload_n 3, 1) := by decide +kernel
theorem dL_law_618 : decode cL_law 618 = .ok (.iconst 0, 1) := by decide +kernel
theorem dL_law_619 : decode cL_law 619 = .ok (.laload, 1) := by decide +kernel
theorem dL_law_620 : decode cL_law 620 = .ok (.iload 7, 2) := by decide +kernel
theorem dL_law_622 : decode cL_law 622 = .ok (.i2l, 1) := by decide +kernel
theorem dL_law_623 : decode cL_law 623 = .ok (.lcmp, 1) := by decide +kernel
theorem dL_law_624 : decode cL_law 624 = .ok (.ifCond .eq 5, 3) := by decide +kernel
theorem dL_law_627 : decode cL_law 627 = .ok (.iconst 0, 1) := by decide +kernel
theorem dL_law_628 : decode cL_law 628 = .ok (.ireturn, 1) := by decide +kernel
theorem dL_law_629 : decode cL_law 629 = .ok (.goto 998, 3) := by decide +kernel
theorem dL_law_632 : decode cL_law 632 = .ok (.aload_n 1, 1) := by decide +kernel
theorem dL_law_633 : decode cL_law 633 = .ok (.aload_n 0, 1) := by decide +kernel
theorem dL_law_634 : decode cL_law 634 = .ok (.iload 5, 2) := by decide +kernel
theorem dL_law_636 : decode cL_law 636 = .ok (.iconst 1, 1) := by decide +kernel
theorem dL_law_637 : decode cL_law 637 = .ok (.iadd, 1) := by decide +kernel
theorem dL_law_638 : decode cL_law 638 = .ok (.iaload, 1) := by decide +kernel
theorem dL_law_639 : decode cL_law 639 = .ok (.aload_n 3, 1) := by decide +kernel
theorem dL_law_640 : decode cL_law 640 = .ok (.invokestatic 129, 3) := by decide +kernel
theorem dL_law_643 : decode cL_law 643 = .ok (.istore 6, 2) := by decide +kernel
theorem dL_law_645 : decode cL_law 645 = .ok (.aload_n 2, 1) := by decide +kernel
theorem dL_law_646 : decode cL_law 646 = .ok (.aload_n 0, 1) := by decide +kernel
theorem dL_law_647 : decode cL_law 647 = .ok (.iload 5, 2) := by decide +kernel
theorem dL_law_649 : decode cL_law 649 = .ok (.iconst 1, 1) := by decide +kernel
theorem dL_law_650 : decode cL_law 650 = .ok (.iadd, 1) := by decide +kernel
theorem dL_law_651 : decode cL_law 651 = .ok (.iaload, 1) := by decide +kernel
theorem dL_law_652 : decode cL_law 652 = .ok (.invokevirtual 131, 3) := by decide +kernel
theorem dL_law_655 : decode cL_law 655 = .ok (.istore 7, 2) := by decide +kernel
theorem dL_law_657 : decode cL_law 657 = .ok (.aload_n 2, 1) := by decide +kernel
theorem dL_law_658 : decode cL_law 658 = .ok (.invokevirtual 106, 3) := by decide +kernel
theorem dL_law_661 : decode cL_law 661 = .ok (.iload 6, 2) := by decide +kernel
theorem dL_law_663 : decode cL_law 663 = .ok (.if_icmp .eq 5, 3) := by decide +kernel
theorem dL_law_666 : decode cL_law 666 = .ok (.iconst 0, 1) := by decide +kernel
theorem dL_law_667 : decode cL_law 667 = .ok (.ireturn, 1) := by decide +kernel
theorem dL_law_668 : decode cL_law 668 = .ok (.iload 6, 2) := by decide +kernel
theorem dL_law_670 : decode cL_law 670 = .ok (.ifCond .ne 15, 3) := by decide +kernel
theorem dL_law_673 : decode cL_law 673 = .ok (.aload_n 3, 1) := by decide +kernel
theorem dL_law_674 : decode cL_law 674 = .ok (.iconst 0, 1) := by decide +kernel
theorem dL_law_675 : decode cL_law 675 = .ok (.laload, 1) := by decide +kernel
theorem dL_law_676 : decode cL_law 676 = .ok (.iload 7, 2) := by decide +kernel
theorem dL_law_678 : decode cL_law 678 = .ok (.i2l, 1) := by decide +kernel
theorem dL_law_679 : decode cL_law 679 = .ok (.lcmp, 1) := by decide +kernel
theorem dL_law_680 : decode cL_law 680 = .ok (.ifCond .eq 5, 3) := by decide +kernel
theorem dL_law_683 : decode cL_law 683 = .ok (.iconst 0, 1) := by decide +kernel
theorem dL_law_684 : decode cL_law 684 = .ok (.ireturn, 1) := by decide +kernel
theorem dL_law_685 : decode cL_law 685 = .ok (.goto 942, 3) := by decide +kernel
theorem dL_law_688 : decode cL_law 688 = .ok (.aload_n 1, 1) := by decide +kernel
theorem dL_law_689 : decode cL_law 689 = .ok (.aload_n 0, 1) := by decide +kernel
theorem dL_law_690 : decode cL_law 690 = .ok (.iload 5, 2) := by decide +kernel
theorem dL_law_692 : decode cL_law 692 = .ok (.iconst 1, 1) := by decide +kernel
theorem dL_law_693 : decode cL_law 693 = .ok (.iadd, 1) := by decide +kernel
theorem dL_law_694 : decode cL_law 694 = .ok (.iaload, 1) := by decide +kernel
theorem dL_law_695 : decode cL_law 695 = .ok (.aload_n 3, 1) := by decide +kernel
theorem dL_law_696 : decode cL_law 696 = .ok (.invokestatic 132, 3) := by decide +kernel
theorem dL_law_699 : decode cL_law 699 = .ok (.istore 6, 2) := by decide +kernel
theorem dL_law_701 : decode cL_law 701 = .ok (.aload_n 2, 1) := by decide +kernel
theorem dL_law_702 : decode cL_law 702 = .ok (.aload_n 0, 1) := by decide +kernel
theorem dL_law_703 : decode cL_law 703 = .ok (.iload 5, 2) := by decide +kernel
theorem dL_law_705 : decode cL_law 705 = .ok (.iconst 1, 1) := by decide +kernel
theorem dL_law_706 : decode cL_law 706 = .ok (.iadd, 1) := by decide +kernel
theorem dL_law_707 : decode cL_law 707 = .ok (.iaload, 1) := by decide +kernel
theorem dL_law_708 : decode cL_law 708 = .ok (.invokevirtual 134, 3) := by decide +kernel
theorem dL_law_711 : decode cL_law 711 = .ok (.istore 7, 2) := by decide +kernel
theorem dL_law_713 : decode cL_law 713 = .ok (.aload_n 2, 1) := by decide +kernel
theorem dL_law_714 : decode cL_law 714 = .ok (.invokevirtual 106, 3) := by decide +kernel
theorem dL_law_717 : decode cL_law 717 = .ok (.iload 6, 2) := by decide +kernel
theorem dL_law_719 : decode cL_law 719 = .ok (.if_icmp .eq 5, 3) := by decide +kernel
theorem dL_law_722 : decode cL_law 722 = .ok (.iconst 0, 1) := by decide +kernel
theorem dL_law_723 : decode cL_law 723 = .ok (.ireturn, 1) := by decide +kernel
theorem dL_law_724 : decode cL_law 724 = .ok (.iload 6, 2) := by decide +kernel
theorem dL_law_726 : decode cL_law 726 = .ok (.ifCond .ne 15, 3) := by decide +kernel
theorem dL_law_729 : decode cL_law 729 = .ok (.aload_n 3, 1) := by decide +kernel
theorem dL_law_730 : decode cL_law 730 = .ok (.iconst 0, 1) := by decide +kernel
theorem dL_law_731 : decode cL_law 731 = .ok (.laload, 1) := by decide +kernel
theorem dL_law_732 : decode cL_law 732 = .ok (.iload 7, 2) := by decide +kernel
theorem dL_law_734 : decode cL_law 734 = .ok (.i2l, 1) := by decide +kernel
theorem dL_law_735 : decode cL_law 735 = .ok (.lcmp, 1) := by decide +kernel
theorem dL_law_736 : decode cL_law 736 = .ok (.ifCond .eq 5, 3) := by decide +kernel
theorem dL_law_739 : decode cL_law 739 = .ok (.iconst 0, 1) := by decide +kernel
theorem dL_law_740 : decode cL_law 740 = .ok (.ireturn, 1) := by decide +kernel
theorem dL_law_741 : decode cL_law 741 = .ok (.goto 886, 3) := by decide +kernel
theorem dL_law_744 : decode cL_law 744 = .ok (.aload_n 1, 1) := by decide +kernel
theorem dL_law_745 : decode cL_law 745 = .ok (.invokevirtual 135, 3) := by decide +kernel
theorem dL_law_748 : decode cL_law 748 = .ok (.aload_n 2, 1) := by decide +kernel
theorem dL_law_749 : decode cL_law 749 = .ok (.invokevirtual 138, 3) := by decide +kernel
theorem dL_law_752 : decode cL_law 752 = .ok (.if_icmp .eq 875, 3) := by decide +kernel
theorem dL_law_755 : decode cL_law 755 = .ok (.iconst 0, 1) := by decide +kernel
theorem dL_law_756 : decode cL_law 756 = .ok (.ireturn, 1) := by decide +kernel
theorem dL_law_757 : decode cL_law 757 = .ok (.aload_n 1, 1) := by decide +kernel
theorem dL_law_758 : decode cL_law 758 = .ok (.aload_n 0, 1) := by decide +kernel
theorem dL_law_759 : decode cL_law 759 = .ok (.iload 5, 2) := by decide +kernel
theorem dL_law_761 : decode cL_law 761 = .ok (.iconst 1, 1) := by decide +kernel
theorem dL_law_762 : decode cL_law 762 = .ok (.iadd, 1) := by decide +kernel
theorem dL_law_763 : decode cL_law 763 = .ok (.iaload, 1) := by decide +kernel
theorem dL_law_764 : decode cL_law 764 = .ok (.aload_n 3, 1) := by decide +kernel
theorem dL_law_765 : decode cL_law 765 = .ok (.invokestatic 139, 3) := by decide +kernel
theorem dL_law_768 : decode cL_law 768 = .ok (.istore 6, 2) := by decide +kernel
theorem dL_law_770 : decode cL_law 770 = .ok (.aload_n 2, 1) := by decide +kernel
theorem dL_law_771 : decode cL_law 771 = .ok (.aload_n 0, 1) := by decide +kernel
theorem dL_law_772 : decode cL_law 772 = .ok (.iload 5, 2) := by decide +kernel
theorem dL_law_774 : decode cL_law 774 = .ok (.iconst 1, 1) := by decide +kernel
theorem dL_law_775 : decode cL_law 775 = .ok (.iadd, 1) := by decide +kernel
theorem dL_law_776 : decode cL_law 776 = .ok (.iaload, 1) := by decide +kernel
theorem dL_law_777 : decode cL_law 777 = .ok (.invokevirtual 141, 3) := by decide +kernel
theorem dL_law_780 : decode cL_law 780 = .ok (.istore 7, 2) := by decide +kernel
theorem dL_law_782 : decode cL_law 782 = .ok (.aload_n 2, 1) := by decide +kernel
theorem dL_law_783 : decode cL_law 783 = .ok (.invokevirtual 106, 3) := by decide +kernel
theorem dL_law_786 : decode cL_law 786 = .ok (.iload 6, 2) := by decide +kernel
theorem dL_law_788 : decode cL_law 788 = .ok (.if_icmp .eq 5, 3) := by decide +kernel
theorem dL_law_791 : decode cL_law 791 = .ok (.iconst 0, 1) := by decide +kernel
theorem dL_law_792 : decode cL_law 792 = .ok (.ireturn, 1) := by decide +kernel
theorem dL_law_793 : decode cL_law 793 = .ok (.iload 6, 2) := by decide +kernel
theorem dL_law_795 : decode cL_law 795 = .ok (.ifCond .ne 15, 3) := by decide +kernel
theorem dL_law_798 : decode cL_law 798 = .ok (.aload_n 3, 1) := by decide +kernel
theorem dL_law_799 : decode cL_law 799 = .ok (.iconst 0, 1) := by decide +kernel
theorem dL_law_800 : decode cL_law 800 = .ok (.laload, 1) := by decide +kernel
theorem dL_law_801 : decode cL_law 801 = .ok (.iload 7, 2) := by decide +kernel
theorem dL_law_803 : decode cL_law 803 = .ok (.i2l, 1) := by decide +kernel
theorem dL_law_804 : decode cL_law 804 = .ok (.lcmp, 1) := by decide +kernel
theorem dL_law_805 : decode cL_law 805 = .ok (.ifCond .eq 5, 3) := by decide +kernel
theorem dL_law_808 : decode cL_law 808 = .ok (.iconst 0, 1) := by decide +kernel
theorem dL_law_809 : decode cL_law 809 = .ok (.ireturn, 1) := by decide +kernel
theorem dL_law_810 : decode cL_law 810 = .ok (.goto 817, 3) := by decide +kernel
theorem dL_law_813 : decode cL_law 813 = .ok (.aload_n 1, 1) := by decide +kernel
theorem dL_law_814 : decode cL_law 814 = .ok (.invokevirtual 142, 3) := by decide +kernel
theorem dL_law_817 : decode cL_law 817 = .ok (.aload_n 2, 1) := by decide +kernel
theorem dL_law_818 : decode cL_law 818 = .ok (.invokevirtual 145, 3) := by decide +kernel
theorem dL_law_821 : decode cL_law 821 = .ok (.if_icmp .eq 806, 3) := by decide +kernel
theorem dL_law_824 : decode cL_law 824 = .ok (.iconst 0, 1) := by decide +kernel
theorem dL_law_825 : decode cL_law 825 = .ok (.ireturn, 1) := by decide +kernel
theorem dL_law_826 : decode cL_law 826 = .ok (.aload_n 1, 1) := by decide +kernel
theorem dL_law_827 : decode cL_law 827 = .ok (.aload_n 0, 1) := by decide +kernel
theorem dL_law_828 : decode cL_law 828 = .ok (.iload 5, 2) := by decide +kernel
theorem dL_law_830 : decode cL_law 830 = .ok (.iconst 1, 1) := by decide +kernel
theorem dL_law_831 : decode cL_law 831 = .ok (.iadd, 1) := by decide +kernel
theorem dL_law_832 : decode cL_law 832 = .ok (.iaload, 1) := by decide +kernel
theorem dL_law_833 : decode cL_law 833 = .ok (.aload_n 3, 1) := by decide +kernel
theorem dL_law_834 : decode cL_law 834 = .ok (.invokestatic 146, 3) := by decide +kernel
theorem dL_law_837 : decode cL_law 837 = .ok (.istore 6, 2) := by decide +kernel
theorem dL_law_839 : decode cL_law 839 = .ok (.aload_n 2, 1) := by decide +kernel
theorem dL_law_840 : decode cL_law 840 = .ok (.aload_n 0, 1) := by decide +kernel
theorem dL_law_841 : decode cL_law 841 = .ok (.iload 5, 2) := by decide +kernel
theorem dL_law_843 : decode cL_law 843 = .ok (.iconst 1, 1) := by decide +kernel
theorem dL_law_844 : decode cL_law 844 = .ok (.iadd, 1) := by decide +kernel
theorem dL_law_845 : decode cL_law 845 = .ok (.iaload, 1) := by decide +kernel
theorem dL_law_846 : decode cL_law 846 = .ok (.invokevirtual 148, 3) := by decide +kernel
theorem dL_law_849 : decode cL_law 849 = .ok (.istore 7, 2) := by decide +kernel
theorem dL_law_851 : decode cL_law 851 = .ok (.aload_n 2, 1) := by decide +kernel
theorem dL_law_852 : decode cL_law 852 = .ok (.invokevirtual 106, 3) := by decide +kernel
theorem dL_law_855 : decode cL_law 855 = .ok (.iload 6, 2) := by decide +kernel
theorem dL_law_857 : decode cL_law 857 = .ok (.if_icmp .eq 5, 3) := by decide +kernel
theorem dL_law_860 : decode cL_law 860 = .ok (.iconst 0, 1) := by decide +kernel
theorem dL_law_861 : decode cL_law 861 = .ok (.ireturn, 1) := by decide +kernel
theorem dL_law_862 : decode cL_law 862 = .ok (.iload 6, 2) := by decide +kernel
theorem dL_law_864 : decode cL_law 864 = .ok (.ifCond .ne 15, 3) := by decide +kernel
theorem dL_law_867 : decode cL_law 867 = .ok (.aload_n 3, 1) := by decide +kernel
theorem dL_law_868 : decode cL_law 868 = .ok (.iconst 0, 1) := by decide +kernel
theorem dL_law_869 : decode cL_law 869 = .ok (.laload, 1) := by decide +kernel
theorem dL_law_870 : decode cL_law 870 = .ok (.iload 7, 2) := by decide +kernel
theorem dL_law_872 : decode cL_law 872 = .ok (.i2l, 1) := by decide +kernel
theorem dL_law_873 : decode cL_law 873 = .ok (.lcmp, 1) := by decide +kernel
theorem dL_law_874 : decode cL_law 874 = .ok (.ifCond .eq 5, 3) := by decide +kernel
theorem dL_law_877 : decode cL_law 877 = .ok (.iconst 0, 1) := by decide +kernel
theorem dL_law_878 : decode cL_law 878 = .ok (.ireturn, 1) := by decide +kernel
theorem dL_law_879 : decode cL_law 879 = .ok (.goto 748, 3) := by decide +kernel
theorem dL_law_882 : decode cL_law 882 = .ok (.aload_n 1, 1) := by decide +kernel
theorem dL_law_883 : decode cL_law 883 = .ok (.aload_n 0, 1) := by decide +kernel
theorem dL_law_884 : decode cL_law 884 = .ok (.iload 5, 2) := by decide +kernel
theorem dL_law_886 : decode cL_law 886 = .ok (.iconst 1, 1) := by decide +kernel
theorem dL_law_887 : decode cL_law 887 = .ok (.iadd, 1) := by decide +kernel
theorem dL_law_888 : decode cL_law 888 = .ok (.iaload, 1) := by decide +kernel
theorem dL_law_889 : decode cL_law 889 = .ok (.aload_n 3, 1) := by decide +kernel
theorem dL_law_890 : decode cL_law 890 = .ok (.invokestatic 149, 3) := by decide +kernel
theorem dL_law_893 : decode cL_law 893 = .ok (.istore 6, 2) := by decide +kernel
theorem dL_law_895 : decode cL_law 895 = .ok (.aload_n 2, 1) := by decide +kernel
theorem dL_law_896 : decode cL_law 896 = .ok (.aload_n 0, 1) := by decide +kernel
theorem dL_law_897 : decode cL_law 897 = .ok (.iload 5, 2) := by decide +kernel
theorem dL_law_899 : decode cL_law 899 = .ok (.iconst 1, 1) := by decide +kernel
theorem dL_law_900 : decode cL_law 900 = .ok (.iadd, 1) := by decide +kernel
theorem dL_law_901 : decode cL_law 901 = .ok (.iaload, 1) := by decide +kernel
theorem dL_law_902 : decode cL_law 902 = .ok (.invokevirtual 151, 3) := by decide +kernel
theorem dL_law_905 : decode cL_law 905 = .ok (.istore 7, 2) := by decide +kernel
theorem dL_law_907 : decode cL_law 907 = .ok (.aload_n 2, 1) := by decide +kernel
theorem dL_law_908 : decode cL_law 908 = .ok (.invokevirtual 106, 3) := by decide +kernel
theorem dL_law_911 : decode cL_law 911 = .ok (.iload 6, 2) := by decide +kernel
theorem dL_law_913 : decode cL_law 913 = .ok (.if_icmp .eq 5, 3) := by decide +kernel
theorem dL_law_916 : decode cL_law 916 = .ok (.iconst 0, 1) := by decide +kernel
theorem dL_law_917 : decode cL_law 917 = .ok (.ireturn, 1) := by decide +kernel
theorem dL_law_918 : decode cL_law 918 = .ok (.iload 6, 2) := by decide +kernel
theorem dL_law_920 : decode cL_law 920 = .ok (.ifCond .ne 15, 3) := by decide +kernel
theorem dL_law_923 : decode cL_law 923 = .ok (.aload_n 3, 1) := by decide +kernel
theorem dL_law_924 : decode cL_law 924 = .ok (.iconst 0, 1) := by decide +kernel
theorem dL_law_925 : decode cL_law 925 = .ok (.laload, 1) := by decide +kernel
theorem dL_law_926 : decode cL_law 926 = .ok (.iload 7, 2) := by decide +kernel
theorem dL_law_928 : decode cL_law 928 = .ok (.i2l, 1) := by decide +kernel
theorem dL_law_929 : decode cL_law 929 = .ok (.lcmp, 1) := by decide +kernel
theorem dL_law_930 : decode cL_law 930 = .ok (.ifCond .eq 5, 3) := by decide +kernel
theorem dL_law_933 : decode cL_law 933 = .ok (.iconst 0, 1) := by decide +kernel
theorem dL_law_934 : decode cL_law 934 = .ok (.ireturn, 1) := by decide +kernel
theorem dL_law_935 : decode cL_law 935 = .ok (.goto 692, 3) := by decide +kernel
theorem dL_law_938 : decode cL_law 938 = .ok (.aload_n 1, 1) := by decide +kernel
theorem dL_law_939 : decode cL_law 939 = .ok (.aload_n 0, 1) := by decide +kernel
theorem dL_law_940 : decode cL_law 940 = .ok (.iload 5, 2) := by decide +kernel
theorem dL_law_942 : decode cL_law 942 = .ok (.iconst 1, 1) := by decide +kernel
theorem dL_law_943 : decode cL_law 943 = .ok (.iadd, 1) := by decide +kernel
theorem dL_law_944 : decode cL_law 944 = .ok (.iaload, 1) := by decide +kernel
theorem dL_law_945 : decode cL_law 945 = .ok (.aload_n 0, 1) := by decide +kernel
theorem dL_law_946 : decode cL_law 946 = .ok (.iload 5, 2) := by decide +kernel
theorem dL_law_948 : decode cL_law 948 = .ok (.iconst 2, 1) := by decide +kernel
theorem dL_law_949 : decode cL_law 949 = .ok (.iadd, 1) := by decide +kernel
theorem dL_law_950 : decode cL_law 950 = .ok (.iaload, 1) := by decide +kernel
theorem dL_law_951 : decode cL_law 951 = .ok (.aload_n 3, 1) := by decide +kernel
theorem dL_law_952 : decode cL_law 952 = .ok (.invokestatic 152, 3) := by decide +kernel
theorem dL_law_955 : decode cL_law 955 = .ok (.istore 6, 2) := by decide +kernel
theorem dL_law_957 : decode cL_law 957 = .ok (.aload_n 2, 1) := by decide +kernel
theorem dL_law_958 : decode cL_law 958 = .ok (.aload_n 0, 1) := by decide +kernel
theorem dL_law_959 : decode cL_law 959 = .ok (.iload 5, 2) := by decide +kernel
theorem dL_law_961 : decode cL_law 961 = .ok (.iconst 1, 1) := by decide +kernel
theorem dL_law_962 : decode cL_law 962 = .ok (.iadd, 1) := by decide +kernel
theorem dL_law_963 : decode cL_law 963 = .ok (.iaload, 1) := by decide +kernel
theorem dL_law_964 : decode cL_law 964 = .ok (.aload_n 0, 1) := by decide +kernel
theorem dL_law_965 : decode cL_law 965 = .ok (.iload 5, 2) := by decide +kernel
theorem dL_law_967 : decode cL_law 967 = .ok (.iconst 2, 1) := by decide +kernel
theorem dL_law_968 : decode cL_law 968 = .ok (.iadd, 1) := by decide +kernel
theorem dL_law_969 : decode cL_law 969 = .ok (.iaload, 1) := by decide +kernel
theorem dL_law_970 : decode cL_law 970 = .ok (.invokevirtual 154, 3) := by decide +kernel
theorem dL_law_973 : decode cL_law 973 = .ok (.istore 7, 2) := by decide +kernel
theorem dL_law_975 : decode cL_law 975 = .ok (.aload_n 2, 1) := by decide +kernel
theorem dL_law_976 : decode cL_law 976 = .ok (.invokevirtual 106, 3) := by decide +kernel
theorem dL_law_979 : decode cL_law 979 = .ok (.iload 6, 2) := by decide +kernel
theorem dL_law_981 : decode cL_law 981 = .ok (.if_icmp .eq 5, 3) := by decide +kernel
theorem dL_law_984 : decode cL_law 984 = .ok (.iconst 0, 1) := by decide +kernel
theorem dL_law_985 : decode cL_law 985 = .ok (.ireturn, 1) := by decide +kernel
theorem dL_law_986 : decode cL_law 986 = .ok (.iload 6, 2) := by decide +kernel
theorem dL_law_988 : decode cL_law 988 = .ok (.ifCond .ne 15, 3) := by decide +kernel
theorem dL_law_991 : decode cL_law 991 = .ok (.aload_n 3, 1) := by decide +kernel
theorem dL_law_992 : decode cL_law 992 = .ok (.iconst 0, 1) := by decide +kernel
theorem dL_law_993 : decode cL_law 993 = .ok (.laload, 1) := by decide +kernel
theorem dL_law_994 : decode cL_law 994 = .ok (.iload 7, 2) := by decide +kernel
theorem dL_law_996 : decode cL_law 996 = .ok (.i2l, 1) := by decide +kernel
theorem dL_law_997 : decode cL_law 997 = .ok (.lcmp, 1) := by decide +kernel
theorem dL_law_998 : decode cL_law 998 = .ok (.ifCond .eq 5, 3) := by decide +kernel
theorem dL_law_1001 : decode cL_law 1001 = .ok (.iconst 0, 1) := by decide +kernel
theorem dL_law_1002 : decode cL_law 1002 = .ok (.ireturn, 1) := by decide +kernel
theorem dL_law_1003 : decode cL_law 1003 = .ok (.goto 624, 3) := by decide +kernel
theorem dL_law_1006 : decode cL_law 1006 = .ok (.aload_n 1, 1) := by decide +kernel
theorem dL_law_1007 : decode cL_law 1007 = .ok (.aload_n 0, 1) := by decide +kernel
theorem dL_law_1008 : decode cL_law 1008 = .ok (.iload 5, 2) := by decide +kernel
theorem dL_law_1010 : decode cL_law 1010 = .ok (.iconst 1, 1) := by decide +kernel
theorem dL_law_1011 : decode cL_law 1011 = .ok (.iadd, 1) := by decide +kernel
theorem dL_law_1012 : decode cL_law 1012 = .ok (.iaload, 1) := by decide +kernel
theorem dL_law_1013 : decode cL_law 1013 = .ok (.aload_n 0, 1) := by decide +kernel
theorem dL_law_1014 : decode cL_law 1014 = .ok (.iload 5, 2) := by decide +kernel
theorem dL_law_1016 : decode cL_law 1016 = .ok (.iconst 2, 1) := by decide +kernel
theorem dL_law_1017 : decode cL_law 1017 = .ok (.iadd, 1) := by decide +kernel
theorem dL_law_1018 : decode cL_law 1018 = .ok (.iaload, 1) := by decide +kernel
theorem dL_law_1019 : decode cL_law 1019 = .ok (.aload_n 3, 1) := by decide +kernel
theorem dL_law_1020 : decode cL_law 1020 = .ok (.invokestatic 155, 3) := by decide +kernel
theorem dL_law_1023 : decode cL_law 1023 = .ok (.istore 6, 2) := by decide +kernel
theorem dL_law_1025 : decode cL_law 1025 = .ok (.aload_n 2, 1) := by decide +kernel
theorem dL_law_1026 : decode cL_law 1026 = .ok (.aload_n 0, 1) := by decide +kernel
theorem dL_law_1027 : decode cL_law 1027 = .ok (.iload 5, 2) := by decide +kernel
theorem dL_law_1029 : decode cL_law 1029 = .ok (.iconst 1, 1) := by decide +kernel
theorem dL_law_1030 : decode cL_law 1030 = .ok (.iadd, 1) := by decide +kernel
theorem dL_law_1031 : decode cL_law 1031 = .ok (.iaload, 1) := by decide +kernel
theorem dL_law_1032 : decode cL_law 1032 = .ok (.aload_n 0, 1) := by decide +kernel
theorem dL_law_1033 : decode cL_law 1033 = .ok (.iload 5, 2) := by decide +kernel
theorem dL_law_1035 : decode cL_law 1035 = .ok (.iconst 2, 1) := by decide +kernel
theorem dL_law_1036 : decode cL_law 1036 = .ok (.iadd, 1) := by decide +kernel
theorem dL_law_1037 : decode cL_law 1037 = .ok (.iaload, 1) := by decide +kernel
theorem dL_law_1038 : decode cL_law 1038 = .ok (.invokevirtual 157, 3) := by decide +kernel
theorem dL_law_1041 : decode cL_law 1041 = .ok (.istore 7, 2) := by decide +kernel
theorem dL_law_1043 : decode cL_law 1043 = .ok (.aload_n 2, 1) := by decide +kernel
theorem dL_law_1044 : decode cL_law 1044 = .ok (.invokevirtual 106, 3) := by decide +kernel
theorem dL_law_1047 : decode cL_law 1047 = .ok (.iload 6, 2) := by decide +kernel
theorem dL_law_1049 : decode cL_law 1049 = .ok (.if_icmp .eq 5, 3) := by decide +kernel
theorem dL_law_1052 : decode cL_law 1052 = .ok (.iconst 0, 1) := by decide +kernel
theorem dL_law_1053 : decode cL_law 1053 = .ok (.ireturn, 1) := by decide +kernel
theorem dL_law_1054 : decode cL_law 1054 = .ok (.iload 6, 2) := by decide +kernel
theorem dL_law_1056 : decode cL_law 1056 = .ok (.ifCond .ne 15, 3) := by decide +kernel
theorem dL_law_1059 : decode cL_law 1059 = .ok (.aload_n 3, 1) := by decide +kernel
theorem dL_law_1060 : decode cL_law 1060 = .ok (.iconst 0, 1) := by decide +kernel
theorem dL_law_1061 : decode cL_law 1061 = .ok (.laload, 1) := by decide +kernel
theorem dL_law_1062 : decode cL_law 1062 = .ok (.iload 7, 2) := by decide +kernel
theorem dL_law_1064 : decode cL_law 1064 = .ok (.i2l, 1) := by decide +kernel
theorem dL_law_1065 : decode cL_law 1065 = .ok (.lcmp, 1) := by decide +kernel
theorem dL_law_1066 : decode cL_law 1066 = .ok (.ifCond .eq 5, 3) := by decide +kernel
theorem dL_law_1069 : decode cL_law 1069 = .ok (.iconst 0, 1) := by decide +kernel
theorem dL_law_1070 : decode cL_law 1070 = .ok (.ireturn, 1) := by decide +kernel
theorem dL_law_1071 : decode cL_law 1071 = .ok (.goto 556, 3) := by decide +kernel
theorem dL_law_1074 : decode cL_law 1074 = .ok (.aload_n 1, 1) := by decide +kernel
theorem dL_law_1075 : decode cL_law 1075 = .ok (.aload_n 0, 1) := by decide +kernel
theorem dL_law_1076 : decode cL_law 1076 = .ok (.iload 5, 2) := by decide +kernel
theorem dL_law_1078 : decode cL_law 1078 = .ok (.iconst 1, 1) := by decide +kernel
theorem dL_law_1079 : decode cL_law 1079 = .ok (.iadd, 1) := by decide +kernel
theorem dL_law_1080 : decode cL_law 1080 = .ok (.iaload, 1) := by decide +kernel
theorem dL_law_1081 : decode cL_law 1081 = .ok (.aload_n 3, 1) := by decide +kernel
theorem dL_law_1082 : decode cL_law 1082 = .ok (.invokestatic 158, 3) := by decide +kernel
theorem dL_law_1085 : decode cL_law 1085 = .ok (.istore 6, 2) := by decide +kernel
theorem dL_law_1087 : decode cL_law 1087 = .ok (.aload_n 2, 1) := by decide +kernel
theorem dL_law_1088 : decode cL_law 1088 = .ok (.aload_n 0, 1) := by decide +kernel
theorem dL_law_1089 : decode cL_law 1089 = .ok (.iload 5, 2) := by decide +kernel
theorem dL_law_1091 : decode cL_law 1091 = .ok (.iconst 1, 1) := by decide +kernel
theorem dL_law_1092 : decode cL_law 1092 = .ok (.iadd, 1) := by decide +kernel
theorem dL_law_1093 : decode cL_law 1093 = .ok (.iaload, 1) := by decide +kernel
theorem dL_law_1094 : decode cL_law 1094 = .ok (.invokevirtual 160, 3) := by decide +kernel
theorem dL_law_1097 : decode cL_law 1097 = .ok (.istore 7, 2) := by decide +kernel
theorem dL_law_1099 : decode cL_law 1099 = .ok (.aload_n 2, 1) := by decide +kernel
theorem dL_law_1100 : decode cL_law 1100 = .ok (.invokevirtual 106, 3) := by decide +kernel
theorem dL_law_1103 : decode cL_law 1103 = .ok (.iload 6, 2) := by decide +kernel
theorem dL_law_1105 : decode cL_law 1105 = .ok (.if_icmp .eq 5, 3) := by decide +kernel
theorem dL_law_1108 : decode cL_law 1108 = .ok (.iconst 0, 1) := by decide +kernel
theorem dL_law_1109 : decode cL_law 1109 = .ok (.ireturn, 1) := by decide +kernel
theorem dL_law_1110 : decode cL_law 1110 = .ok (.iload 6, 2) := by decide +kernel
theorem dL_law_1112 : decode cL_law 1112 = .ok (.ifCond .ne 15, 3) := by decide +kernel
theorem dL_law_1115 : decode cL_law 1115 = .ok (.aload_n 3, 1) := by decide +kernel
theorem dL_law_1116 : decode cL_law 1116 = .ok (.iconst 0, 1) := by decide +kernel
theorem dL_law_1117 : decode cL_law 1117 = .ok (.laload, 1) := by decide +kernel
theorem dL_law_1118 : decode cL_law 1118 = .ok (.iload 7, 2) := by decide +kernel
theorem dL_law_1120 : decode cL_law 1120 = .ok (.i2l, 1) := by decide +kernel
theorem dL_law_1121 : decode cL_law 1121 = .ok (.lcmp, 1) := by decide +kernel
theorem dL_law_1122 : decode cL_law 1122 = .ok (.ifCond .eq 5, 3) := by decide +kernel
theorem dL_law_1125 : decode cL_law 1125 = .ok (.iconst 0, 1) := by decide +kernel
theorem dL_law_1126 : decode cL_law 1126 = .ok (.ireturn, 1) := by decide +kernel
theorem dL_law_1127 : decode cL_law 1127 = .ok (.goto 500, 3) := by decide +kernel
theorem dL_law_1130 : decode cL_law 1130 = .ok (.aload_n 1, 1) := by decide +kernel
theorem dL_law_1131 : decode cL_law 1131 = .ok (.aload_n 0, 1) := by decide +kernel
theorem dL_law_1132 : decode cL_law 1132 = .ok (.iload 5, 2) := by decide +kernel
theorem dL_law_1134 : decode cL_law 1134 = .ok (.iconst 1, 1) := by decide +kernel
theorem dL_law_1135 : decode cL_law 1135 = .ok (.iadd, 1) := by decide +kernel
theorem dL_law_1136 : decode cL_law 1136 = .ok (.iaload, 1) := by decide +kernel
theorem dL_law_1137 : decode cL_law 1137 = .ok (.aload_n 3, 1) := by decide +kernel
theorem dL_law_1138 : decode cL_law 1138 = .ok (.invokestatic 161, 3) := by decide +kernel
theorem dL_law_1141 : decode cL_law 1141 = .ok (.istore 6, 2) := by decide +kernel
theorem dL_law_1143 : decode cL_law 1143 = .ok (.aload_n 2, 1) := by decide +kernel
theorem dL_law_1144 : decode cL_law 1144 = .ok (.aload_n 0, 1) := by decide +kernel
theorem dL_law_1145 : decode cL_law 1145 = .ok (.iload 5, 2) := by decide +kernel
theorem dL_law_1147 : decode cL_law 1147 = .ok (.iconst 1, 1) := by decide +kernel
theorem dL_law_1148 : decode cL_law 1148 = .ok (.iadd, 1) := by decide +kernel
theorem dL_law_1149 : decode cL_law 1149 = .ok (.iaload, 1) := by decide +kernel
theorem dL_law_1150 : decode cL_law 1150 = .ok (.invokevirtual 163, 3) := by decide +kernel
theorem dL_law_1153 : decode cL_law 1153 = .ok (.istore 7, 2) := by decide +kernel
theorem dL_law_1155 : decode cL_law 1155 = .ok (.aload_n 2, 1) := by decide +kernel
theorem dL_law_1156 : decode cL_law 1156 = .ok (.invokevirtual 106, 3) := by decide +kernel
theorem dL_law_1159 : decode cL_law 1159 = .ok (.iload 6, 2) := by decide +kernel
theorem dL_law_1161 : decode cL_law 1161 = .ok (.if_icmp .eq 5, 3) := by decide +kernel
theorem dL_law_1164 : decode cL_law 1164 = .ok (.iconst 0, 1) := by decide +kernel
theorem dL_law_1165 : decode cL_law 1165 = .ok (.ireturn, 1) := by decide +kernel
theorem dL_law_1166 : decode cL_law 1166 = .ok (.iload 6, 2) := by decide +kernel
theorem dL_law_1168 : decode cL_law 1168 = .ok (.ifCond .ne 15, 3) := by decide +kernel
theorem dL_law_1171 : decode cL_law 1171 = .ok (.aload_n 3, 1) := by decide +kernel
theorem dL_law_1172 : decode cL_law 1172 = .ok (.iconst 0, 1) := by decide +kernel
theorem dL_law_1173 : decode cL_law 1173 = .ok (.laload, 1) := by decide +kernel
theorem dL_law_1174 : decode cL_law 1174 = .ok (.iload 7, 2) := by decide +kernel
theorem dL_law_1176 : decode cL_law 1176 = .ok (.i2l, 1) := by decide +kernel
theorem dL_law_1177 : decode cL_law 1177 = .ok (.lcmp, 1) := by decide +kernel
theorem dL_law_1178 : decode cL_law 1178 = .ok (.ifCond .eq 5, 3) := by decide +kernel
theorem dL_law_1181 : decode cL_law 1181 = .ok (.iconst 0, 1) := by decide +kernel
theorem dL_law_1182 : decode cL_law 1182 = .ok (.ireturn, 1) := by decide +kernel
theorem dL_law_1183 : decode cL_law 1183 = .ok (.goto 444, 3) := by decide +kernel
theorem dL_law_1186 : decode cL_law 1186 = .ok (.aload_n 1, 1) := by decide +kernel
theorem dL_law_1187 : decode cL_law 1187 = .ok (.aload_n 0, 1) := by decide +kernel
theorem dL_law_1188 : decode cL_law 1188 = .ok (.iload 5, 2) := by decide +kernel
theorem dL_law_1190 : decode cL_law 1190 = .ok (.iconst 1, 1) := by decide +kernel
theorem dL_law_1191 : decode cL_law 1191 = .ok (.iadd, 1) := by decide +kernel
theorem dL_law_1192 : decode cL_law 1192 = .ok (.iaload, 1) := by decide +kernel
theorem dL_law_1193 : decode cL_law 1193 = .ok (.aload_n 0, 1) := by decide +kernel
theorem dL_law_1194 : decode cL_law 1194 = .ok (.iload 5, 2) := by decide +kernel
theorem dL_law_1196 : decode cL_law 1196 = .ok (.iconst 2, 1) := by decide +kernel
theorem dL_law_1197 : decode cL_law 1197 = .ok (.iadd, 1) := by decide +kernel
theorem dL_law_1198 : decode cL_law 1198 = .ok (.iaload, 1) := by decide +kernel
theorem dL_law_1199 : decode cL_law 1199 = .ok (.aload_n 3, 1) := by decide +kernel
theorem dL_law_1200 : decode cL_law 1200 = .ok (.invokestatic 164, 3) := by decide +kernel
theorem dL_law_1203 : decode cL_law 1203 = .ok (.istore 6, 2) := by decide +kernel
theorem dL_law_1205 : decode cL_law 1205 = .ok (.aload_n 2, 1) := by decide +kernel
theorem dL_law_1206 : decode cL_law 1206 = .ok (.aload_n 0, 1) := by decide +kernel
theorem dL_law_1207 : decode cL_law 1207 = .ok (.iload 5, 2) := by decide +kernel
theorem dL_law_1209 : decode cL_law 1209 = .ok (.iconst 1, 1) := by decide +kernel
theorem dL_law_1210 : decode cL_law 1210 = .ok (.iadd, 1) := by decide +kernel
theorem dL_law_1211 : decode cL_law 1211 = .ok (.iaload, 1) := by decide +kernel
theorem dL_law_1212 : decode cL_law 1212 = .ok (.aload_n 0, 1) := by decide +kernel
theorem dL_law_1213 : decode cL_law 1213 = .ok (.iload 5, 2) := by decide +kernel
theorem dL_law_1215 : decode cL_law 1215 = .ok (.iconst 2, 1) := by decide +kernel
theorem dL_law_1216 : decode cL_law 1216 = .ok (.iadd, 1) := by decide +kernel
theorem dL_law_1217 : decode cL_law 1217 = .ok (.iaload, 1) := by decide +kernel
theorem dL_law_1218 : decode cL_law 1218 = .ok (.invokevirtual 166, 3) := by decide +kernel
theorem dL_law_1221 : decode cL_law 1221 = .ok (.istore 7, 2) := by decide +kernel
theorem dL_law_1223 : decode cL_law 1223 = .ok (.aload_n 2, 1) := by decide +kernel
theorem dL_law_1224 : decode cL_law 1224 = .ok (.invokevirtual 106, 3) := by decide +kernel
theorem dL_law_1227 : decode cL_law 1227 = .ok (.iload 6, 2) := by decide +kernel
theorem dL_law_1229 : decode cL_law 1229 = .ok (.if_icmp .eq 5, 3) := by decide +kernel
theorem dL_law_1232 : decode cL_law 1232 = .ok (.iconst 0, 1) := by decide +kernel
theorem dL_law_1233 : decode cL_law 1233 = .ok (.ireturn, 1) := by decide +kernel
theorem dL_law_1234 : decode cL_law 1234 = .ok (.iload 6, 2) := by decide +kernel
theorem dL_law_1236 : decode cL_law 1236 = .ok (.ifCond .ne 15, 3) := by decide +kernel
theorem dL_law_1239 : decode cL_law 1239 = .ok (.aload_n 3, 1) := by decide +kernel
theorem dL_law_1240 : decode cL_law 1240 = .ok (.iconst 0, 1) := by decide +kernel
theorem dL_law_1241 : decode cL_law 1241 = .ok (.laload, 1) := by decide +kernel
theorem dL_law_1242 : decode cL_law 1242 = .ok (.iload 7, 2) := by decide +kernel
theorem dL_law_1244 : decode cL_law 1244 = .ok (.i2l, 1) := by decide +kernel
theorem dL_law_1245 : decode cL_law 1245 = .ok (.lcmp, 1) := by decide +kernel
theorem dL_law_1246 : decode cL_law 1246 = .ok (.ifCond .eq 5, 3) := by decide +kernel
theorem dL_law_1249 : decode cL_law 1249 = .ok (.iconst 0, 1) := by decide +kernel
theorem dL_law_1250 : decode cL_law 1250 = .ok (.ireturn, 1) := by decide +kernel
theorem dL_law_1251 : decode cL_law 1251 = .ok (.goto 376, 3) := by decide +kernel
theorem dL_law_1254 : decode cL_law 1254 = .ok (.aload_n 1, 1) := by decide +kernel
theorem dL_law_1255 : decode cL_law 1255 = .ok (.aload_n 0, 1) := by decide +kernel
theorem dL_law_1256 : decode cL_law 1256 = .ok (.iload 5, 2) := by decide +kernel
theorem dL_law_1258 : decode cL_law 1258 = .ok (.iconst 1, 1) := by decide +kernel
theorem dL_law_1259 : decode cL_law 1259 = .ok (.iadd, 1) := by decide +kernel
theorem dL_law_1260 : decode cL_law 1260 = .ok (.iaload, 1) := by decide +kernel
theorem dL_law_1261 : decode cL_law 1261 = .ok (.aload_n 0, 1) := by decide +kernel
theorem dL_law_1262 : decode cL_law 1262 = .ok (.iload 5, 2) := by decide +kernel
theorem dL_law_1264 : decode cL_law 1264 = .ok (.iconst 2, 1) := by decide +kernel
theorem dL_law_1265 : decode cL_law 1265 = .ok (.iadd, 1) := by decide +kernel
theorem dL_law_1266 : decode cL_law 1266 = .ok (.iaload, 1) := by decide +kernel
theorem dL_law_1267 : decode cL_law 1267 = .ok (.aload_n 3, 1) := by decide +kernel
theorem dL_law_1268 : decode cL_law 1268 = .ok (.invokestatic 167, 3) := by decide +kernel
theorem dL_law_1271 : decode cL_law 1271 = .ok (.istore 6, 2) := by decide +kernel
theorem dL_law_1273 : decode cL_law 1273 = .ok (.aload_n 2, 1) := by decide +kernel
theorem dL_law_1274 : decode cL_law 1274 = .ok (.aload_n 0, 1) := by decide +kernel
theorem dL_law_1275 : decode cL_law 1275 = .ok (.iload 5, 2) := by decide +kernel
theorem dL_law_1277 : decode cL_law 1277 = .ok (.iconst 1, 1) := by decide +kernel
theorem dL_law_1278 : decode cL_law 1278 = .ok (.iadd, 1) := by decide +kernel
theorem dL_law_1279 : decode cL_law 1279 = .ok (.iaload, 1) := by decide +kernel
theorem dL_law_1280 : decode cL_law 1280 = .ok (.aload_n 0, 1) := by decide +kernel
theorem dL_law_1281 : decode cL_law 1281 = .ok (.iload 5, 2) := by decide +kernel
theorem dL_law_1283 : decode cL_law 1283 = .ok (.iconst 2, 1) := by decide +kernel
theorem dL_law_1284 : decode cL_law 1284 = .ok (.iadd, 1) := by decide +kernel
theorem dL_law_1285 : decode cL_law 1285 = .ok (.iaload, 1) := by decide +kernel
theorem dL_law_1286 : decode cL_law 1286 = .ok (.invokevirtual 169, 3) := by decide +kernel
theorem dL_law_1289 : decode cL_law 1289 = .ok (.istore 7, 2) := by decide +kernel
theorem dL_law_1291 : decode cL_law 1291 = .ok (.aload_n 2, 1) := by decide +kernel
theorem dL_law_1292 : decode cL_law 1292 = .ok (.invokevirtual 106, 3) := by decide +kernel
theorem dL_law_1295 : decode cL_law 1295 = .ok (.iload 6, 2) := by decide +kernel
theorem dL_law_1297 : decode cL_law 1297 = .ok (.if_icmp .eq 5, 3) := by decide +kernel
theorem dL_law_1300 : decode cL_law 1300 = .ok (.iconst 0, 1) := by decide +kernel
theorem dL_law_1301 : decode cL_law 1301 = .ok (.ireturn, 1) := by decide +kernel
theorem dL_law_1302 : decode cL_law 1302 = .ok (.iload 6, 2) := by decide +kernel
theorem dL_law_1304 : decode cL_law 1304 = .ok (.ifCond .ne 15, 3) := by decide +kernel
theorem dL_law_1307 : decode cL_law 1307 = .ok (.aload_n 3, 1) := by decide +kernel
theorem dL_law_1308 : decode cL_law 1308 = .ok (.iconst 0, 1) := by decide +kernel
theorem dL_law_1309 : decode cL_law 1309 = .ok (.laload, 1) := by decide +kernel
theorem dL_law_1310 : decode cL_law 1310 = .ok (.iload 7, 2) := by decide +kernel
theorem dL_law_1312 : decode cL_law 1312 = .ok (.i2l, 1) := by decide +kernel
theorem dL_law_1313 : decode cL_law 1313 = .ok (.lcmp, 1) := by decide +kernel
theorem dL_law_1314 : decode cL_law 1314 = .ok (.ifCond .eq 5, 3) := by decide +kernel
theorem dL_law_1317 : decode cL_law 1317 = .ok (.iconst 0, 1) := by decide +kernel
theorem dL_law_1318 : decode cL_law 1318 = .ok (.ireturn, 1) := by decide +kernel
theorem dL_law_1319 : decode cL_law 1319 = .ok (.goto 308, 3) := by decide +kernel
theorem dL_law_1322 : decode cL_law 1322 = .ok (.aload_n 1, 1) := by decide +kernel
theorem dL_law_1323 : decode cL_law 1323 = .ok (.aload_n 0, 1) := by decide +kernel
theorem dL_law_1324 : decode cL_law 1324 = .ok (.iload 5, 2) := by decide +kernel
theorem dL_law_1326 : decode cL_law 1326 = .ok (.iconst 1, 1) := by decide +kernel
theorem dL_law_1327 : decode cL_law 1327 = .ok (.iadd, 1) := by decide +kernel
theorem dL_law_1328 : decode cL_law 1328 = .ok (.iaload, 1) := by decide +kernel
theorem dL_law_1329 : decode cL_law 1329 = .ok (.aload_n 3, 1) := by decide +kernel
theorem dL_law_1330 : decode cL_law 1330 = .ok (.invokestatic 170, 3) := by decide +kernel
theorem dL_law_1333 : decode cL_law 1333 = .ok (.istore 6, 2) := by decide +kernel
theorem dL_law_1335 : decode cL_law 1335 = .ok (.aload_n 2, 1) := by decide +kernel
theorem dL_law_1336 : decode cL_law 1336 = .ok (.aload_n 0, 1) := by decide +kernel
theorem dL_law_1337 : decode cL_law 1337 = .ok (.iload 5, 2) := by decide +kernel
theorem dL_law_1339 : decode cL_law 1339 = .ok (.iconst 1, 1) := by decide +kernel
theorem dL_law_1340 : decode cL_law 1340 = .ok (.iadd, 1) := by decide +kernel
theorem dL_law_1341 : decode cL_law 1341 = .ok (.iaload, 1) := by decide +kernel
theorem dL_law_1342 : decode cL_law 1342 = .ok (.invokevirtual 172, 3) := by decide +kernel
theorem dL_law_1345 : decode cL_law 1345 = .ok (.istore 7, 2) := by decide +kernel
theorem dL_law_1347 : decode cL_law 1347 = .ok (.aload_n 2, 1) := by decide +kernel
theorem dL_law_1348 : decode cL_law 1348 = .ok (.invokevirtual 106, 3) := by decide +kernel
theorem dL_law_1351 : decode cL_law 1351 = .ok (.iload 6, 2) := by decide +kernel
theorem dL_law_1353 : decode cL_law 1353 = .ok (.if_icmp .eq 5, 3) := by decide +kernel
theorem dL_law_1356 : decode cL_law 1356 = .ok (.iconst 0, 1) := by decide +kernel
theorem dL_law_1357 : decode cL_law 1357 = .ok (.ireturn, 1) := by decide +kernel
theorem dL_law_1358 : decode cL_law 1358 = .ok (.iload 6, 2) := by decide +kernel
theorem dL_law_1360 : decode cL_law 1360 = .ok (.ifCond .ne 15, 3) := by decide +kernel
theorem dL_law_1363 : decode cL_law 1363 = .ok (.aload_n 3, 1) := by decide +kernel
theorem dL_law_1364 : decode cL_law 1364 = .ok (.iconst 0, 1) := by decide +kernel
theorem dL_law_1365 : decode cL_law 1365 = .ok (.laload, 1) := by decide +kernel
theorem dL_law_1366 : decode cL_law 1366 = .ok (.iload 7, 2) := by decide +kernel
theorem dL_law_1368 : decode cL_law 1368 = .ok (.i2l, 1) := by decide +kernel
theorem dL_law_1369 : decode cL_law 1369 = .ok (.lcmp, 1) := by decide +kernel
theorem dL_law_1370 : decode cL_law 1370 = .ok (.ifCond .eq 5, 3) := by decide +kernel
theorem dL_law_1373 : decode cL_law 1373 = .ok (.iconst 0, 1) := by decide +kernel
theorem dL_law_1374 : decode cL_law 1374 = .ok (.ireturn, 1) := by decide +kernel
theorem dL_law_1375 : decode cL_law 1375 = .ok (.goto 252, 3) := by decide +kernel
theorem dL_law_1378 : decode cL_law 1378 = .ok (.aload_n 1, 1) := by decide +kernel
theorem dL_law_1379 : decode cL_law 1379 = .ok (.invokevirtual 173, 3) := by decide +kernel
theorem dL_law_1382 : decode cL_law 1382 = .ok (.aload_n 2, 1) := by decide +kernel
theorem dL_law_1383 : decode cL_law 1383 = .ok (.invokevirtual 176, 3) := by decide +kernel
theorem dL_law_1386 : decode cL_law 1386 = .ok (.if_icmp .eq 241, 3) := by decide +kernel
theorem dL_law_1389 : decode cL_law 1389 = .ok (.iconst 0, 1) := by decide +kernel
theorem dL_law_1390 : decode cL_law 1390 = .ok (.ireturn, 1) := by decide +kernel
theorem dL_law_1391 : decode cL_law 1391 = .ok (.aload_n 1, 1) := by decide +kernel
theorem dL_law_1392 : decode cL_law 1392 = .ok (.aload 4, 2) := by decide +kernel
theorem dL_law_1394 : decode cL_law 1394 = .ok (.invokestatic 177, 3) := by decide +kernel
theorem dL_law_1397 : decode cL_law 1397 = .ok (.istore 6, 2) := by decide +kernel
theorem dL_law_1399 : decode cL_law 1399 = .ok (.aload_n 2, 1) := by decide +kernel
theorem dL_law_1400 : decode cL_law 1400 = .ok (.invokevirtual 180, 3) := by decide +kernel
theorem dL_law_1403 : decode cL_law 1403 = .ok (.dstore 7, 2) := by decide +kernel
theorem dL_law_1405 : decode cL_law 1405 = .ok (.aload_n 2, 1) := by decide +kernel
theorem dL_law_1406 : decode cL_law 1406 = .ok (.invokevirtual 106, 3) := by decide +kernel
theorem dL_law_1409 : decode cL_law 1409 = .ok (.iload 6, 2) := by decide +kernel
theorem dL_law_1411 : decode cL_law 1411 = .ok (.if_icmp .eq 5, 3) := by decide +kernel
theorem dL_law_1414 : decode cL_law 1414 = .ok (.iconst 0, 1) := by decide +kernel
theorem dL_law_1415 : decode cL_law 1415 = .ok (.ireturn, 1) := by decide +kernel
theorem dL_law_1416 : decode cL_law 1416 = .ok (.iload 6, 2) := by decide +kernel
theorem dL_law_1418 : decode cL_law 1418 = .ok (.ifCond .ne 35, 3) := by decide +kernel
theorem dL_law_1421 : decode cL_law 1421 = .ok (.aload 4, 2) := by decide +kernel
theorem dL_law_1423 : decode cL_law 1423 = .ok (.iconst 0, 1) := by decide +kernel
theorem dL_law_1424 : decode cL_law 1424 = .ok (.daload, 1) := by decide +kernel
theorem dL_law_1425 : decode cL_law 1425 = .ok (.dload 7, 2) := by decide +kernel
theorem dL_law_1427 : decode cL_law 1427 = .ok (.dcmp .l, 1) := by decide +kernel
theorem dL_law_1428 : decode cL_law 1428 = .ok (.ifCond .eq 25, 3) := by decide +kernel
theorem dL_law_1431 : decode cL_law 1431 = .ok (.aload 4, 2) := by decide +kernel
theorem dL_law_1433 : decode cL_law 1433 = .ok (.iconst 0, 1) := by decide +kernel
theorem dL_law_1434 : decode cL_law 1434 = .ok (.daload, 1) := by decide +kernel
theorem dL_law_1435 : decode cL_law 1435 = .ok (.aload 4, 2) := by decide +kernel
theorem dL_law_1437 : decode cL_law 1437 = .ok (.iconst 0, 1) := by decide +kernel
theorem dL_law_1438 : decode cL_law 1438 = .ok (.daload, 1) := by decide +kernel
theorem dL_law_1439 : decode cL_law 1439 = .ok (.dcmp .l, 1) := by decide +kernel
theorem dL_law_1440 : decode cL_law 1440 = .ok (.ifCond .eq 11, 3) := by decide +kernel
theorem dL_law_1443 : decode cL_law 1443 = .ok (.dload 7, 2) := by decide +kernel
theorem dL_law_1445 : decode cL_law 1445 = .ok (.dload 7, 2) := by decide +kernel
theorem dL_law_1447 : decode cL_law 1447 = .ok (.dcmp .l, 1) := by decide +kernel
theorem dL_law_1448 : decode cL_law 1448 = .ok (.ifCond .ne 5, 3) := by decide +kernel
theorem dL_law_1451 : decode cL_law 1451 = .ok (.iconst 0, 1) := by decide +kernel
theorem dL_law_1452 : decode cL_law 1452 = .ok (.ireturn, 1) := by decide +kernel
theorem dL_law_1453 : decode cL_law 1453 = .ok (.goto 174, 3) := by decide +kernel
theorem dL_law_1456 : decode cL_law 1456 = .ok (.aload_n 1, 1) := by decide +kernel
theorem dL_law_1457 : decode cL_law 1457 = .ok (.invokevirtual 181, 3) := by decide +kernel
theorem dL_law_1460 : decode cL_law 1460 = .ok (.aload_n 2, 1) := by decide +kernel
theorem dL_law_1461 : decode cL_law 1461 = .ok (.invokevirtual 184, 3) := by decide +kernel
theorem dL_law_1464 : decode cL_law 1464 = .ok (.if_icmp .eq 163, 3) := by decide +kernel
theorem dL_law_1467 : decode cL_law 1467 = .ok (.iconst 0, 1) := by decide +kernel
theorem dL_law_1468 : decode cL_law 1468 = .ok (.ireturn, 1) := by decide +kernel
theorem dL_law_1469 : decode cL_law 1469 = .ok (.aload_n 1, 1) := by decide +kernel
theorem dL_law_1470 : decode cL_law 1470 = .ok (.aload_n 0, 1) := by decide +kernel
theorem dL_law_1471 : decode cL_law 1471 = .ok (.iload 5, 2) := by decide +kernel
theorem dL_law_1473 : decode cL_law 1473 = .ok (.iconst 1, 1) := by decide +kernel
theorem dL_law_1474 : decode cL_law 1474 = .ok (.iadd, 1) := by decide +kernel
theorem dL_law_1475 : decode cL_law 1475 = .ok (.iaload, 1) := by decide +kernel
theorem dL_law_1476 : decode cL_law 1476 = .ok (.i2c, 1) := by decide +kernel
theorem dL_law_1477 : decode cL_law 1477 = .ok (.aload_n 3, 1) := by decide +kernel
theorem dL_law_1478 : decode cL_law 1478 = .ok (.invokestatic 185, 3) := by decide +kernel
theorem dL_law_1481 : decode cL_law 1481 = .ok (.istore 6, 2) := by decide +kernel
theorem dL_law_1483 : decode cL_law 1483 = .ok (.aload_n 2, 1) := by decide +kernel
theorem dL_law_1484 : decode cL_law 1484 = .ok (.aload_n 0, 1) := by decide +kernel
theorem dL_law_1485 : decode cL_law 1485 = .ok (.iload 5, 2) := by decide +kernel
theorem dL_law_1487 : decode cL_law 1487 = .ok (.iconst 1, 1) := by decide +kernel
theorem dL_law_1488 : decode cL_law 1488 = .ok (.iadd, 1) := by decide +kernel
theorem dL_law_1489 : decode cL_law 1489 = .ok (.iaload, 1) := by decide +kernel
theorem dL_law_1490 : decode cL_law 1490 = .ok (.i2c, 1) := by decide +kernel
theorem dL_law_1491 : decode cL_law 1491 = .ok (.invokevirtual 188, 3) := by decide +kernel
theorem dL_law_1494 : decode cL_law 1494 = .ok (.istore 7, 2) := by decide +kernel
theorem dL_law_1496 : decode cL_law 1496 = .ok (.aload_n 2, 1) := by decide +kernel
theorem dL_law_1497 : decode cL_law 1497 = .ok (.invokevirtual 106, 3) := by decide +kernel
theorem dL_law_1500 : decode cL_law 1500 = .ok (.iload 6, 2) := by decide +kernel
theorem dL_law_1502 : decode cL_law 1502 = .ok (.if_icmp .eq 5, 3) := by decide +kernel
theorem dL_law_1505 : decode cL_law 1505 = .ok (.iconst 0, 1) := by decide +kernel
theorem dL_law_1506 : decode cL_law 1506 = .ok (.ireturn, 1) := by decide +kernel
theorem dL_law_1507 : decode cL_law 1507 = .ok (.iload 6, 2) := by decide +kernel
theorem dL_law_1509 : decode cL_law 1509 = .ok (.ifCond .ne 15, 3) := by decide +kernel
theorem dL_law_1512 : decode cL_law 1512 = .ok (.aload_n 3, 1) := by decide +kernel
theorem dL_law_1513 : decode cL_law 1513 = .ok (.iconst 0, 1) := by decide +kernel
theorem dL_law_1514 : decode cL_law 1514 = .ok (.laload, 1) := by decide +kernel
theorem dL_law_1515 : decode cL_law 1515 = .ok (.iload 7, 2) := by decide +kernel
theorem dL_law_1517 : decode cL_law 1517 = .ok (.i2l, 1) := by decide +kernel
theorem dL_law_1518 : decode cL_law 1518 = .ok (.lcmp, 1) := by decide +kernel
theorem dL_law_1519 : decode cL_law 1519 = .ok (.ifCond .eq 5, 3) := by decide +kernel
theorem dL_law_1522 : decode cL_law 1522 = .ok (.iconst 0, 1) := by decide +kernel
theorem dL_law_1523 : decode cL_law 1523 = .ok (.ireturn, 1) := by decide +kernel
theorem dL_law_1524 : decode cL_law 1524 = .ok (.goto 103, 3) := by decide +kernel
theorem dL_law_1527 : decode cL_law 1527 = .ok (.aload_n 1, 1) := by decide +kernel
theorem dL_law_1528 : decode cL_law 1528 = .ok (.aload_n 0, 1) := by decide +kernel
theorem dL_law_1529 : decode cL_law 1529 = .ok (.iload 5, 2) := by decide +kernel
theorem dL_law_1531 : decode cL_law 1531 = .ok (.iconst 1, 1) := by decide +kernel
theorem dL_law_1532 : decode cL_law 1532 = .ok (.iadd, 1) := by decide +kernel
theorem dL_law_1533 : decode cL_law 1533 = .ok (.iaload, 1) := by decide +kernel
theorem dL_law_1534 : decode cL_law 1534 = .ok (.aload_n 3, 1) := by decide +kernel
theorem dL_law_1535 : decode cL_law 1535 = .ok (.invokestatic 189, 3) := by decide +kernel
theorem dL_law_1538 : decode cL_law 1538 = .ok (.istore 6, 2) := by decide +kernel
theorem dL_law_1540 : decode cL_law 1540 = .ok (.aload_n 2, 1) := by decide +kernel
theorem dL_law_1541 : decode cL_law 1541 = .ok (.aload_n 0, 1) := by decide +kernel
theorem dL_law_1542 : decode cL_law 1542 = .ok (.iload 5, 2) := by decide +kernel
theorem dL_law_1544 : decode cL_law 1544 = .ok (.iconst 1, 1) := by decide +kernel
theorem dL_law_1545 : decode cL_law 1545 = .ok (.iadd, 1) := by decide +kernel
theorem dL_law_1546 : decode cL_law 1546 = .ok (.iaload, 1) := by decide +kernel
theorem dL_law_1547 : decode cL_law 1547 = .ok (.invokevirtual 191, 3) := by decide +kernel
theorem dL_law_1550 : decode cL_law 1550 = .ok (.istore 7, 2) := by decide +kernel
theorem dL_law_1552 : decode cL_law 1552 = .ok (.aload_n 2, 1) := by decide +kernel
theorem dL_law_1553 : decode cL_law 1553 = .ok (.invokevirtual 106, 3) := by decide +kernel
theorem dL_law_1556 : decode cL_law 1556 = .ok (.iload 6, 2) := by decide +kernel
theorem dL_law_1558 : decode cL_law 1558 = .ok (.if_icmp .eq 5, 3) := by decide +kernel
theorem dL_law_1561 : decode cL_law 1561 = .ok (.iconst 0, 1) := by decide +kernel
theorem dL_law_1562 : decode cL_law 1562 = .ok (.ireturn, 1) := by decide +kernel
theorem dL_law_1563 : decode cL_law 1563 = .ok (.iload 6, 2) := by decide +kernel
theorem dL_law_1565 : decode cL_law 1565 = .ok (.ifCond .ne 15, 3) := by decide +kernel
theorem dL_law_1568 : decode cL_law 1568 = .ok (.aload_n 3, 1) := by decide +kernel
theorem dL_law_1569 : decode cL_law 1569 = .ok (.iconst 0, 1) := by decide +kernel
theorem dL_law_1570 : decode cL_law 1570 = .ok (.laload, 1) := by decide +kernel
theorem dL_law_1571 : decode cL_law 1571 = .ok (.iload 7, 2) := by decide +kernel
theorem dL_law_1573 : decode cL_law 1573 = .ok (.i2l, 1) := by decide +kernel
theorem dL_law_1574 : decode cL_law 1574 = .ok (.lcmp, 1) := by decide +kernel
theorem dL_law_1575 : decode cL_law 1575 = .ok (.ifCond .eq 5, 3) := by decide +kernel
theorem dL_law_1578 : decode cL_law 1578 = .ok (.iconst 0, 1) := by decide +kernel
theorem dL_law_1579 : decode cL_law 1579 = .ok (.ireturn, 1) := by decide +kernel
theorem dL_law_1580 : decode cL_law 1580 = .ok (.goto 47, 3) := by decide +kernel
theorem dL_law_1583 : decode cL_law 1583 = .ok (.aload_n 1, 1) := by decide +kernel
theorem dL_law_1584 : decode cL_law 1584 = .ok (.aload_n 3, 1) := by decide +kernel
theorem dL_law_1585 : decode cL_law 1585 = .ok (.invokestatic 192, 3) := by decide +kernel
theorem dL_law_1588 : decode cL_law 1588 = .ok (.istore 6, 2) := by decide +kernel
theorem dL_law_1590 : decode cL_law 1590 = .ok (.aload_n 2, 1) := by decide +kernel
theorem dL_law_1591 : decode cL_law 1591 = .ok (.invokevirtual 195, 3) := by decide +kernel
theorem dL_law_1594 : decode cL_law 1594 = .ok (.istore 7, 2) := by decide +kernel
theorem dL_law_1596 : decode cL_law 1596 = .ok (.aload_n 2, 1) := by decide +kernel
theorem dL_law_1597 : decode cL_law 1597 = .ok (.invokevirtual 106, 3) := by decide +kernel
theorem dL_law_1600 : decode cL_law 1600 = .ok (.iload 6, 2) := by decide +kernel
theorem dL_law_1602 : decode cL_law 1602 = .ok (.if_icmp .eq 5, 3) := by decide +kernel
theorem dL_law_1605 : decode cL_law 1605 = .ok (.iconst 0, 1) := by decide +kernel
theorem dL_law_1606 : decode cL_law 1606 = .ok (.ireturn, 1) := by decide +kernel
theorem dL_law_1607 : decode cL_law 1607 = .ok (.iload 6, 2) := by decide +kernel
theorem dL_law_1609 : decode cL_law 1609 = .ok (.ifCond .ne 15, 3) := by decide +kernel
theorem dL_law_1612 : decode cL_law 1612 = .ok (.aload_n 3, 1) := by decide +kernel
theorem dL_law_1613 : decode cL_law 1613 = .ok (.iconst 0, 1) := by decide +kernel
theorem dL_law_1614 : decode cL_law 1614 = .ok (.laload, 1) := by decide +kernel
theorem dL_law_1615 : decode cL_law 1615 = .ok (.iload 7, 2) := by decide +kernel
theorem dL_law_1617 : decode cL_law 1617 = .ok (.i2l, 1) := by decide +kernel
theorem dL_law_1618 : decode cL_law 1618 = .ok (.lcmp, 1) := by decide +kernel
theorem dL_law_1619 : decode cL_law 1619 = .ok (.ifCond .eq 5, 3) := by decide +kernel
theorem dL_law_1622 : decode cL_law 1622 = .ok (.iconst 0, 1) := by decide +kernel
theorem dL_law_1623 : decode cL_law 1623 = .ok (.ireturn, 1) := by decide +kernel
theorem dL_law_1624 : decode cL_law 1624 = .ok (.goto 3, 3) := by decide +kernel
theorem dL_law_1627 : decode cL_law 1627 = .ok (.iinc 5 5, 3) := by decide +kernel
theorem dL_law_1630 : decode cL_law 1630 = .ok (.goto (-1602), 3) := by decide +kernel
theorem dL_law_1633 : decode cL_law 1633 = .ok (.iconst 1, 1) := by decide +kernel
theorem dL_law_1634 : decode cL_law 1634 = .ok (.ireturn, 1) := by decide +kernel
end
section
theorem zz_look : True := trivial
end
