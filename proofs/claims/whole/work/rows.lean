section
-- ===== PART A: goes FIRST, ahead of the names: the tables' words, and 'selects' of the private methods out of them =====
/-- a private method of a class that the tables say can be made, by its rows of tables_1 -/
def lw_okq (q : MethodName × Nat) : Prop := (q.1.cls ≠ "java/lang/invoke/MethodHandle" ∧ q.1.cls ≠ "java/lang/invoke/VarHandle") ∧ Cond.instantiable q.1.cls q.2 ∈ tables_1 ∧ Cond.privateMethod q.1 ∈ tables_1 ∧ Cond.instanceMethod q.1 ∈ tables_1
theorem lw_p0 : lw_okq (⟨"LampPresses$Reader", "advance", "()V"⟩, 5) := ⟨⟨by decide +kernel, by decide +kernel⟩, List.mem_of_getElem? (i := 131) (by decide +kernel), List.mem_of_getElem? (i := 371) (by decide +kernel), List.mem_of_getElem? (i := 372) (by decide +kernel)⟩
theorem lw_p1 : lw_okq (⟨"LampPresses$Reader", "byteAt", "(I)I"⟩, 5) := ⟨⟨by decide +kernel, by decide +kernel⟩, List.mem_of_getElem? (i := 131) (by decide +kernel), List.mem_of_getElem? (i := 378) (by decide +kernel), List.mem_of_getElem? (i := 379) (by decide +kernel)⟩
theorem lw_p2 : lw_okq (⟨"LampPresses$Reader", "kindAt", "(I)I"⟩, 5) := ⟨⟨by decide +kernel, by decide +kernel⟩, List.mem_of_getElem? (i := 131) (by decide +kernel), List.mem_of_getElem? (i := 385) (by decide +kernel), List.mem_of_getElem? (i := 386) (by decide +kernel)⟩
theorem lw_p3 : lw_okq (⟨"LampPresses$Reader", "isWord", "(Ljava/lang/String;)Z"⟩, 5) := ⟨⟨by decide +kernel, by decide +kernel⟩, List.mem_of_getElem? (i := 131) (by decide +kernel), List.mem_of_getElem? (i := 390) (by decide +kernel), List.mem_of_getElem? (i := 391) (by decide +kernel)⟩
theorem lw_p4 : lw_okq (⟨"LampPresses$Reader", "readStates", "()Z"⟩, 5) := ⟨⟨by decide +kernel, by decide +kernel⟩, List.mem_of_getElem? (i := 131) (by decide +kernel), List.mem_of_getElem? (i := 442) (by decide +kernel), List.mem_of_getElem? (i := 443) (by decide +kernel)⟩
theorem lw_p5 : lw_okq (⟨"LampPresses$Reader", "digit", "()I"⟩, 5) := ⟨⟨by decide +kernel, by decide +kernel⟩, List.mem_of_getElem? (i := 131) (by decide +kernel), List.mem_of_getElem? (i := 446) (by decide +kernel), List.mem_of_getElem? (i := 447) (by decide +kernel)⟩
theorem lw_p6 : lw_okq (⟨"LampPresses$Reader", "takeNumber", "(II)I"⟩, 5) := ⟨⟨by decide +kernel, by decide +kernel⟩, List.mem_of_getElem? (i := 131) (by decide +kernel), List.mem_of_getElem? (i := 450) (by decide +kernel), List.mem_of_getElem? (i := 451) (by decide +kernel)⟩
theorem lw_p7 : lw_okq (⟨"LampPresses$Reader", "takeStop", "()Z"⟩, 5) := ⟨⟨by decide +kernel, by decide +kernel⟩, List.mem_of_getElem? (i := 131) (by decide +kernel), List.mem_of_getElem? (i := 454) (by decide +kernel), List.mem_of_getElem? (i := 455) (by decide +kernel)⟩
theorem lw_p8 : lw_okq (⟨"LampPresses$Reader", "readLamp", "()Z"⟩, 5) := ⟨⟨by decide +kernel, by decide +kernel⟩, List.mem_of_getElem? (i := 131) (by decide +kernel), List.mem_of_getElem? (i := 459) (by decide +kernel), List.mem_of_getElem? (i := 460) (by decide +kernel)⟩
theorem lw_p9 : lw_okq (⟨"LampPresses$Reader", "takeOption", "(Ljava/lang/String;III)I"⟩, 5) := ⟨⟨by decide +kernel, by decide +kernel⟩, List.mem_of_getElem? (i := 131) (by decide +kernel), List.mem_of_getElem? (i := 464) (by decide +kernel), List.mem_of_getElem? (i := 465) (by decide +kernel)⟩
theorem lw_p10 : lw_okq (⟨"LampPresses$Reader", "readWire", "()Z"⟩, 5) := ⟨⟨by decide +kernel, by decide +kernel⟩, List.mem_of_getElem? (i := 131) (by decide +kernel), List.mem_of_getElem? (i := 478) (by decide +kernel), List.mem_of_getElem? (i := 479) (by decide +kernel)⟩
theorem lw_p11 : lw_okq (⟨"LampPresses", "stepsChange", "()V"⟩, 17) := ⟨⟨by decide +kernel, by decide +kernel⟩, List.mem_of_getElem? (i := 21) (by decide +kernel), List.mem_of_getElem? (i := 500) (by decide +kernel), List.mem_of_getElem? (i := 501) (by decide +kernel)⟩
theorem lw_p12 : lw_okq (⟨"LampPresses", "statesChange", "()V"⟩, 17) := ⟨⟨by decide +kernel, by decide +kernel⟩, List.mem_of_getElem? (i := 21) (by decide +kernel), List.mem_of_getElem? (i := 504) (by decide +kernel), List.mem_of_getElem? (i := 505) (by decide +kernel)⟩
theorem lw_p13 : lw_okq (⟨"LampPresses", "keepForSteps", "()V"⟩, 17) := ⟨⟨by decide +kernel, by decide +kernel⟩, List.mem_of_getElem? (i := 21) (by decide +kernel), List.mem_of_getElem? (i := 516) (by decide +kernel), List.mem_of_getElem? (i := 517) (by decide +kernel)⟩
theorem lw_p14 : lw_okq (⟨"LampPresses", "isPair", "(II)Z"⟩, 17) := ⟨⟨by decide +kernel, by decide +kernel⟩, List.mem_of_getElem? (i := 21) (by decide +kernel), List.mem_of_getElem? (i := 549) (by decide +kernel), List.mem_of_getElem? (i := 550) (by decide +kernel)⟩
theorem lw_p15 : lw_okq (⟨"LampPresses", "keepForStates", "()V"⟩, 17) := ⟨⟨by decide +kernel, by decide +kernel⟩, List.mem_of_getElem? (i := 21) (by decide +kernel), List.mem_of_getElem? (i := 562) (by decide +kernel), List.mem_of_getElem? (i := 563) (by decide +kernel)⟩
def lw_privs_1 : List (MethodName × Nat) := [(⟨"LampPresses$Reader", "advance", "()V"⟩, 5), (⟨"LampPresses$Reader", "byteAt", "(I)I"⟩, 5), (⟨"LampPresses$Reader", "kindAt", "(I)I"⟩, 5), (⟨"LampPresses$Reader", "isWord", "(Ljava/lang/String;)Z"⟩, 5), (⟨"LampPresses$Reader", "readStates", "()Z"⟩, 5), (⟨"LampPresses$Reader", "digit", "()I"⟩, 5), (⟨"LampPresses$Reader", "takeNumber", "(II)I"⟩, 5), (⟨"LampPresses$Reader", "takeStop", "()Z"⟩, 5), (⟨"LampPresses$Reader", "readLamp", "()Z"⟩, 5), (⟨"LampPresses$Reader", "takeOption", "(Ljava/lang/String;III)I"⟩, 5), (⟨"LampPresses$Reader", "readWire", "()Z"⟩, 5), (⟨"LampPresses", "stepsChange", "()V"⟩, 17), (⟨"LampPresses", "statesChange", "()V"⟩, 17), (⟨"LampPresses", "keepForSteps", "()V"⟩, 17), (⟨"LampPresses", "isPair", "(II)Z"⟩, 17), (⟨"LampPresses", "keepForStates", "()V"⟩, 17)]
theorem lw_r1 : ∀ q ∈ lw_privs_1, lw_okq q := List.forall_mem_cons.mpr ⟨lw_p0, List.forall_mem_cons.mpr ⟨lw_p1, List.forall_mem_cons.mpr ⟨lw_p2, List.forall_mem_cons.mpr ⟨lw_p3, List.forall_mem_cons.mpr ⟨lw_p4, List.forall_mem_cons.mpr ⟨lw_p5, List.forall_mem_cons.mpr ⟨lw_p6, List.forall_mem_cons.mpr ⟨lw_p7, List.forall_mem_cons.mpr ⟨lw_p8, List.forall_mem_cons.mpr ⟨lw_p9, List.forall_mem_cons.mpr ⟨lw_p10, List.forall_mem_cons.mpr ⟨lw_p11, List.forall_mem_cons.mpr ⟨lw_p12, List.forall_mem_cons.mpr ⟨lw_p13, List.forall_mem_cons.mpr ⟨lw_p14, List.forall_mem_cons.mpr ⟨lw_p15, fun _ h => absurd h List.not_mem_nil⟩⟩⟩⟩⟩⟩⟩⟩⟩⟩⟩⟩⟩⟩⟩⟩
theorem lw_p16 : lw_okq (⟨"LampPresses", "findPlan", "()V"⟩, 17) := ⟨⟨by decide +kernel, by decide +kernel⟩, List.mem_of_getElem? (i := 21) (by decide +kernel), List.mem_of_getElem? (i := 599) (by decide +kernel), List.mem_of_getElem? (i := 600) (by decide +kernel)⟩
theorem lw_p17 : lw_okq (⟨"LampPresses", "settle", "()V"⟩, 17) := ⟨⟨by decide +kernel, by decide +kernel⟩, List.mem_of_getElem? (i := 21) (by decide +kernel), List.mem_of_getElem? (i := 603) (by decide +kernel), List.mem_of_getElem? (i := 604) (by decide +kernel)⟩
theorem lw_p18 : lw_okq (⟨"LampPresses$Solver", "rowWith", "(I)I"⟩, 11) := ⟨⟨by decide +kernel, by decide +kernel⟩, List.mem_of_getElem? (i := 156) (by decide +kernel), List.mem_of_getElem? (i := 619) (by decide +kernel), List.mem_of_getElem? (i := 620) (by decide +kernel)⟩
theorem lw_p19 : lw_okq (⟨"LampPresses$Solver", "bringUp", "(II)V"⟩, 11) := ⟨⟨by decide +kernel, by decide +kernel⟩, List.mem_of_getElem? (i := 156) (by decide +kernel), List.mem_of_getElem? (i := 623) (by decide +kernel), List.mem_of_getElem? (i := 624) (by decide +kernel)⟩
theorem lw_p20 : lw_okq (⟨"LampPresses$Solver", "inverse", "(I)I"⟩, 11) := ⟨⟨by decide +kernel, by decide +kernel⟩, List.mem_of_getElem? (i := 156) (by decide +kernel), List.mem_of_getElem? (i := 627) (by decide +kernel), List.mem_of_getElem? (i := 628) (by decide +kernel)⟩
theorem lw_p21 : lw_okq (⟨"LampPresses$Solver", "clearOthers", "(I)V"⟩, 11) := ⟨⟨by decide +kernel, by decide +kernel⟩, List.mem_of_getElem? (i := 156) (by decide +kernel), List.mem_of_getElem? (i := 632) (by decide +kernel), List.mem_of_getElem? (i := 633) (by decide +kernel)⟩
theorem lw_p22 : lw_okq (⟨"LampPresses$Solver", "addTimes", "([I[II)V"⟩, 11) := ⟨⟨by decide +kernel, by decide +kernel⟩, List.mem_of_getElem? (i := 156) (by decide +kernel), List.mem_of_getElem? (i := 636) (by decide +kernel), List.mem_of_getElem? (i := 637) (by decide +kernel)⟩
theorem lw_p23 : lw_okq (⟨"LampPresses$Solver", "fillBase", "([II)V"⟩, 11) := ⟨⟨by decide +kernel, by decide +kernel⟩, List.mem_of_getElem? (i := 156) (by decide +kernel), List.mem_of_getElem? (i := 644) (by decide +kernel), List.mem_of_getElem? (i := 645) (by decide +kernel)⟩
theorem lw_p24 : lw_okq (⟨"LampPresses", "setChangeToGoals", "()V"⟩, 17) := ⟨⟨by decide +kernel, by decide +kernel⟩, List.mem_of_getElem? (i := 21) (by decide +kernel), List.mem_of_getElem? (i := 648) (by decide +kernel), List.mem_of_getElem? (i := 649) (by decide +kernel)⟩
theorem lw_p25 : lw_okq (⟨"LampPresses", "quietRows", "()I"⟩, 17) := ⟨⟨by decide +kernel, by decide +kernel⟩, List.mem_of_getElem? (i := 21) (by decide +kernel), List.mem_of_getElem? (i := 735) (by decide +kernel), List.mem_of_getElem? (i := 736) (by decide +kernel)⟩
theorem lw_p26 : lw_okq (⟨"LampPresses", "bestPlan", "(LLampPresses$Search;I)I"⟩, 17) := ⟨⟨by decide +kernel, by decide +kernel⟩, List.mem_of_getElem? (i := 21) (by decide +kernel), List.mem_of_getElem? (i := 758) (by decide +kernel), List.mem_of_getElem? (i := 759) (by decide +kernel)⟩
theorem lw_p27 : lw_okq (⟨"LampPresses", "arePlansTold", "()Z"⟩, 17) := ⟨⟨by decide +kernel, by decide +kernel⟩, List.mem_of_getElem? (i := 21) (by decide +kernel), List.mem_of_getElem? (i := 762) (by decide +kernel), List.mem_of_getElem? (i := 763) (by decide +kernel)⟩
theorem lw_p28 : lw_okq (⟨"LampPresses", "findBest", "(LLampPresses$Search;)V"⟩, 17) := ⟨⟨by decide +kernel, by decide +kernel⟩, List.mem_of_getElem? (i := 21) (by decide +kernel), List.mem_of_getElem? (i := 767) (by decide +kernel), List.mem_of_getElem? (i := 768) (by decide +kernel)⟩
theorem lw_p29 : lw_okq (⟨"LampPresses$Search", "price", "(II)I"⟩, 5) := ⟨⟨by decide +kernel, by decide +kernel⟩, List.mem_of_getElem? (i := 205) (by decide +kernel), List.mem_of_getElem? (i := 779) (by decide +kernel), List.mem_of_getElem? (i := 780) (by decide +kernel)⟩
theorem lw_p30 : lw_okq (⟨"LampPresses", "pressesForOne", "(I)I"⟩, 17) := ⟨⟨by decide +kernel, by decide +kernel⟩, List.mem_of_getElem? (i := 21) (by decide +kernel), List.mem_of_getElem? (i := 800) (by decide +kernel), List.mem_of_getElem? (i := 801) (by decide +kernel)⟩
theorem lw_p31 : lw_okq (⟨"LampPresses", "reachedFrom", "(I)I"⟩, 17) := ⟨⟨by decide +kernel, by decide +kernel⟩, List.mem_of_getElem? (i := 21) (by decide +kernel), List.mem_of_getElem? (i := 817) (by decide +kernel), List.mem_of_getElem? (i := 818) (by decide +kernel)⟩
def lw_privs_2 : List (MethodName × Nat) := [(⟨"LampPresses", "findPlan", "()V"⟩, 17), (⟨"LampPresses", "settle", "()V"⟩, 17), (⟨"LampPresses$Solver", "rowWith", "(I)I"⟩, 11), (⟨"LampPresses$Solver", "bringUp", "(II)V"⟩, 11), (⟨"LampPresses$Solver", "inverse", "(I)I"⟩, 11), (⟨"LampPresses$Solver", "clearOthers", "(I)V"⟩, 11), (⟨"LampPresses$Solver", "addTimes", "([I[II)V"⟩, 11), (⟨"LampPresses$Solver", "fillBase", "([II)V"⟩, 11), (⟨"LampPresses", "setChangeToGoals", "()V"⟩, 17), (⟨"LampPresses", "quietRows", "()I"⟩, 17), (⟨"LampPresses", "bestPlan", "(LLampPresses$Search;I)I"⟩, 17), (⟨"LampPresses", "arePlansTold", "()Z"⟩, 17), (⟨"LampPresses", "findBest", "(LLampPresses$Search;)V"⟩, 17), (⟨"LampPresses$Search", "price", "(II)I"⟩, 5), (⟨"LampPresses", "pressesForOne", "(I)I"⟩, 17), (⟨"LampPresses", "reachedFrom", "(I)I"⟩, 17)]
theorem lw_r2 : ∀ q ∈ lw_privs_2, lw_okq q := List.forall_mem_cons.mpr ⟨lw_p16, List.forall_mem_cons.mpr ⟨lw_p17, List.forall_mem_cons.mpr ⟨lw_p18, List.forall_mem_cons.mpr ⟨lw_p19, List.forall_mem_cons.mpr ⟨lw_p20, List.forall_mem_cons.mpr ⟨lw_p21, List.forall_mem_cons.mpr ⟨lw_p22, List.forall_mem_cons.mpr ⟨lw_p23, List.forall_mem_cons.mpr ⟨lw_p24, List.forall_mem_cons.mpr ⟨lw_p25, List.forall_mem_cons.mpr ⟨lw_p26, List.forall_mem_cons.mpr ⟨lw_p27, List.forall_mem_cons.mpr ⟨lw_p28, List.forall_mem_cons.mpr ⟨lw_p29, List.forall_mem_cons.mpr ⟨lw_p30, List.forall_mem_cons.mpr ⟨lw_p31, fun _ h => absurd h List.not_mem_nil⟩⟩⟩⟩⟩⟩⟩⟩⟩⟩⟩⟩⟩⟩⟩⟩
theorem lw_p32 : lw_okq (⟨"LampPresses", "isSet", "(I)Z"⟩, 17) := ⟨⟨by decide +kernel, by decide +kernel⟩, List.mem_of_getElem? (i := 21) (by decide +kernel), List.mem_of_getElem? (i := 837) (by decide +kernel), List.mem_of_getElem? (i := 838) (by decide +kernel)⟩
theorem lw_p33 : lw_okq (⟨"LampPresses", "greediest", "(I)I"⟩, 17) := ⟨⟨by decide +kernel, by decide +kernel⟩, List.mem_of_getElem? (i := 21) (by decide +kernel), List.mem_of_getElem? (i := 861) (by decide +kernel), List.mem_of_getElem? (i := 862) (by decide +kernel)⟩
theorem lw_p34 : lw_okq (⟨"LampPresses", "areLevelsTold", "()Z"⟩, 17) := ⟨⟨by decide +kernel, by decide +kernel⟩, List.mem_of_getElem? (i := 21) (by decide +kernel), List.mem_of_getElem? (i := 905) (by decide +kernel), List.mem_of_getElem? (i := 906) (by decide +kernel)⟩
theorem lw_p35 : lw_okq (⟨"LampPresses", "allWays", "()I"⟩, 17) := ⟨⟨by decide +kernel, by decide +kernel⟩, List.mem_of_getElem? (i := 21) (by decide +kernel), List.mem_of_getElem? (i := 909) (by decide +kernel), List.mem_of_getElem? (i := 910) (by decide +kernel)⟩
theorem lw_p36 : lw_okq (⟨"LampPresses", "measureLevels", "()V"⟩, 17) := ⟨⟨by decide +kernel, by decide +kernel⟩, List.mem_of_getElem? (i := 21) (by decide +kernel), List.mem_of_getElem? (i := 913) (by decide +kernel), List.mem_of_getElem? (i := 914) (by decide +kernel)⟩
theorem lw_p37 : lw_okq (⟨"LampPresses$Levels", "begin", "(LLampPresses$Net;LLampPresses$Solver;)V"⟩, 11) := ⟨⟨by decide +kernel, by decide +kernel⟩, List.mem_of_getElem? (i := 230) (by decide +kernel), List.mem_of_getElem? (i := 921) (by decide +kernel), List.mem_of_getElem? (i := 922) (by decide +kernel)⟩
theorem lw_p38 : lw_okq (⟨"LampPresses$Levels", "note", "(II)V"⟩, 11) := ⟨⟨by decide +kernel, by decide +kernel⟩, List.mem_of_getElem? (i := 230) (by decide +kernel), List.mem_of_getElem? (i := 935) (by decide +kernel), List.mem_of_getElem? (i := 936) (by decide +kernel)⟩
theorem lw_p39 : lw_okq (⟨"LampPresses$Levels", "isAhead", "(I)Z"⟩, 11) := ⟨⟨by decide +kernel, by decide +kernel⟩, List.mem_of_getElem? (i := 230) (by decide +kernel), List.mem_of_getElem? (i := 939) (by decide +kernel), List.mem_of_getElem? (i := 940) (by decide +kernel)⟩
theorem lw_p40 : lw_okq (⟨"LampPresses$Levels", "turn", "(LLampPresses$Net;)V"⟩, 11) := ⟨⟨by decide +kernel, by decide +kernel⟩, List.mem_of_getElem? (i := 230) (by decide +kernel), List.mem_of_getElem? (i := 943) (by decide +kernel), List.mem_of_getElem? (i := 944) (by decide +kernel)⟩
theorem lw_p41 : lw_okq (⟨"LampPresses$Levels", "spreadCounts", "(I)V"⟩, 11) := ⟨⟨by decide +kernel, by decide +kernel⟩, List.mem_of_getElem? (i := 230) (by decide +kernel), List.mem_of_getElem? (i := 947) (by decide +kernel), List.mem_of_getElem? (i := 948) (by decide +kernel)⟩
theorem lw_p42 : lw_okq (⟨"LampPresses", "plansWith", "(III)I"⟩, 17) := ⟨⟨by decide +kernel, by decide +kernel⟩, List.mem_of_getElem? (i := 21) (by decide +kernel), List.mem_of_getElem? (i := 967) (by decide +kernel), List.mem_of_getElem? (i := 968) (by decide +kernel)⟩
theorem lw_p43 : lw_okq (⟨"LampPresses", "writeNet", "()V"⟩, 17) := ⟨⟨by decide +kernel, by decide +kernel⟩, List.mem_of_getElem? (i := 21) (by decide +kernel), List.mem_of_getElem? (i := 991) (by decide +kernel), List.mem_of_getElem? (i := 992) (by decide +kernel)⟩
theorem lw_p44 : lw_okq (⟨"LampPresses$Line", "putByte", "(I)V"⟩, 3) := ⟨⟨by decide +kernel, by decide +kernel⟩, List.mem_of_getElem? (i := 275) (by decide +kernel), List.mem_of_getElem? (i := 1010) (by decide +kernel), List.mem_of_getElem? (i := 1011) (by decide +kernel)⟩
theorem lw_p45 : lw_okq (⟨"LampPresses", "writeLamp", "(I)V"⟩, 17) := ⟨⟨by decide +kernel, by decide +kernel⟩, List.mem_of_getElem? (i := 21) (by decide +kernel), List.mem_of_getElem? (i := 1016) (by decide +kernel), List.mem_of_getElem? (i := 1017) (by decide +kernel)⟩
theorem lw_p46 : lw_okq (⟨"LampPresses", "writeWire", "(II)V"⟩, 17) := ⟨⟨by decide +kernel, by decide +kernel⟩, List.mem_of_getElem? (i := 21) (by decide +kernel), List.mem_of_getElem? (i := 1023) (by decide +kernel), List.mem_of_getElem? (i := 1024) (by decide +kernel)⟩
theorem lw_p47 : lw_okq (⟨"LampPresses", "writeFewest", "()V"⟩, 17) := ⟨⟨by decide +kernel, by decide +kernel⟩, List.mem_of_getElem? (i := 21) (by decide +kernel), List.mem_of_getElem? (i := 1038) (by decide +kernel), List.mem_of_getElem? (i := 1039) (by decide +kernel)⟩
def lw_privs_3 : List (MethodName × Nat) := [(⟨"LampPresses", "isSet", "(I)Z"⟩, 17), (⟨"LampPresses", "greediest", "(I)I"⟩, 17), (⟨"LampPresses", "areLevelsTold", "()Z"⟩, 17), (⟨"LampPresses", "allWays", "()I"⟩, 17), (⟨"LampPresses", "measureLevels", "()V"⟩, 17), (⟨"LampPresses$Levels", "begin", "(LLampPresses$Net;LLampPresses$Solver;)V"⟩, 11), (⟨"LampPresses$Levels", "note", "(II)V"⟩, 11), (⟨"LampPresses$Levels", "isAhead", "(I)Z"⟩, 11), (⟨"LampPresses$Levels", "turn", "(LLampPresses$Net;)V"⟩, 11), (⟨"LampPresses$Levels", "spreadCounts", "(I)V"⟩, 11), (⟨"LampPresses", "plansWith", "(III)I"⟩, 17), (⟨"LampPresses", "writeNet", "()V"⟩, 17), (⟨"LampPresses$Line", "putByte", "(I)V"⟩, 3), (⟨"LampPresses", "writeLamp", "(I)V"⟩, 17), (⟨"LampPresses", "writeWire", "(II)V"⟩, 17), (⟨"LampPresses", "writeFewest", "()V"⟩, 17)]
theorem lw_r3 : ∀ q ∈ lw_privs_3, lw_okq q := List.forall_mem_cons.mpr ⟨lw_p32, List.forall_mem_cons.mpr ⟨lw_p33, List.forall_mem_cons.mpr ⟨lw_p34, List.forall_mem_cons.mpr ⟨lw_p35, List.forall_mem_cons.mpr ⟨lw_p36, List.forall_mem_cons.mpr ⟨lw_p37, List.forall_mem_cons.mpr ⟨lw_p38, List.forall_mem_cons.mpr ⟨lw_p39, List.forall_mem_cons.mpr ⟨lw_p40, List.forall_mem_cons.mpr ⟨lw_p41, List.forall_mem_cons.mpr ⟨lw_p42, List.forall_mem_cons.mpr ⟨lw_p43, List.forall_mem_cons.mpr ⟨lw_p44, List.forall_mem_cons.mpr ⟨lw_p45, List.forall_mem_cons.mpr ⟨lw_p46, List.forall_mem_cons.mpr ⟨lw_p47, fun _ h => absurd h List.not_mem_nil⟩⟩⟩⟩⟩⟩⟩⟩⟩⟩⟩⟩⟩⟩⟩⟩
theorem lw_p48 : lw_okq (⟨"LampPressesModel", "isState", "(I)Z"⟩, 37) := ⟨⟨by decide +kernel, by decide +kernel⟩, List.mem_of_getElem? (i := 1055) (by decide +kernel), List.mem_of_getElem? (i := 1181) (by decide +kernel), List.mem_of_getElem? (i := 1182) (by decide +kernel)⟩
theorem lw_p49 : lw_okq (⟨"LampPressesModel", "m", "()I"⟩, 37) := ⟨⟨by decide +kernel, by decide +kernel⟩, List.mem_of_getElem? (i := 1055) (by decide +kernel), List.mem_of_getElem? (i := 1185) (by decide +kernel), List.mem_of_getElem? (i := 1186) (by decide +kernel)⟩
theorem lw_p50 : lw_okq (⟨"LampPressesModel", "many", "()I"⟩, 37) := ⟨⟨by decide +kernel, by decide +kernel⟩, List.mem_of_getElem? (i := 1055) (by decide +kernel), List.mem_of_getElem? (i := 1192) (by decide +kernel), List.mem_of_getElem? (i := 1193) (by decide +kernel)⟩
theorem lw_p51 : lw_okq (⟨"LampPressesModel", "keeps", "()V"⟩, 37) := ⟨⟨by decide +kernel, by decide +kernel⟩, List.mem_of_getElem? (i := 1055) (by decide +kernel), List.mem_of_getElem? (i := 1196) (by decide +kernel), List.mem_of_getElem? (i := 1197) (by decide +kernel)⟩
theorem lw_p52 : lw_okq (⟨"LampPressesModel", "isLamp", "(I)Z"⟩, 37) := ⟨⟨by decide +kernel, by decide +kernel⟩, List.mem_of_getElem? (i := 1055) (by decide +kernel), List.mem_of_getElem? (i := 1210) (by decide +kernel), List.mem_of_getElem? (i := 1211) (by decide +kernel)⟩
theorem lw_p53 : lw_okq (⟨"LampPressesModel", "stands", "([II)V"⟩, 37) := ⟨⟨by decide +kernel, by decide +kernel⟩, List.mem_of_getElem? (i := 1055) (by decide +kernel), List.mem_of_getElem? (i := 1214) (by decide +kernel), List.mem_of_getElem? (i := 1215) (by decide +kernel)⟩
theorem lw_p54 : lw_okq (⟨"LampPressesModel", "sets", "(III)I"⟩, 37) := ⟨⟨by decide +kernel, by decide +kernel⟩, List.mem_of_getElem? (i := 1055) (by decide +kernel), List.mem_of_getElem? (i := 1240) (by decide +kernel), List.mem_of_getElem? (i := 1241) (by decide +kernel)⟩
theorem lw_p55 : lw_okq (⟨"LampPressesModel", "presses", "(II)V"⟩, 37) := ⟨⟨by decide +kernel, by decide +kernel⟩, List.mem_of_getElem? (i := 1055) (by decide +kernel), List.mem_of_getElem? (i := 1256) (by decide +kernel), List.mem_of_getElem? (i := 1257) (by decide +kernel)⟩
theorem lw_p56 : lw_okq (⟨"LampPressesModel", "stepOf", "(II)I"⟩, 37) := ⟨⟨by decide +kernel, by decide +kernel⟩, List.mem_of_getElem? (i := 1055) (by decide +kernel), List.mem_of_getElem? (i := 1260) (by decide +kernel), List.mem_of_getElem? (i := 1261) (by decide +kernel)⟩
theorem lw_p57 : lw_okq (⟨"LampPressesModel", "offNow", "()I"⟩, 37) := ⟨⟨by decide +kernel, by decide +kernel⟩, List.mem_of_getElem? (i := 1055) (by decide +kernel), List.mem_of_getElem? (i := 1268) (by decide +kernel), List.mem_of_getElem? (i := 1269) (by decide +kernel)⟩
theorem lw_p58 : lw_okq (⟨"LampPressesModel", "findsPlan", "([I)Z"⟩, 37) := ⟨⟨by decide +kernel, by decide +kernel⟩, List.mem_of_getElem? (i := 1055) (by decide +kernel), List.mem_of_getElem? (i := 1276) (by decide +kernel), List.mem_of_getElem? (i := 1277) (by decide +kernel)⟩
theorem lw_p59 : lw_okq (⟨"LampPressesModel", "allLamps", "()I"⟩, 37) := ⟨⟨by decide +kernel, by decide +kernel⟩, List.mem_of_getElem? (i := 1055) (by decide +kernel), List.mem_of_getElem? (i := 1280) (by decide +kernel), List.mem_of_getElem? (i := 1281) (by decide +kernel)⟩
theorem lw_p60 : lw_okq (⟨"LampPressesModel", "spans", "(II)V"⟩, 37) := ⟨⟨by decide +kernel, by decide +kernel⟩, List.mem_of_getElem? (i := 1055) (by decide +kernel), List.mem_of_getElem? (i := 1284) (by decide +kernel), List.mem_of_getElem? (i := 1285) (by decide +kernel)⟩
theorem lw_p61 : lw_okq (⟨"LampPressesModel", "fallsIn", "(I)Z"⟩, 37) := ⟨⟨by decide +kernel, by decide +kernel⟩, List.mem_of_getElem? (i := 1055) (by decide +kernel), List.mem_of_getElem? (i := 1294) (by decide +kernel), List.mem_of_getElem? (i := 1295) (by decide +kernel)⟩
theorem lw_p62 : lw_okq (⟨"LampPressesModel", "joins", "(I)V"⟩, 37) := ⟨⟨by decide +kernel, by decide +kernel⟩, List.mem_of_getElem? (i := 1055) (by decide +kernel), List.mem_of_getElem? (i := 1298) (by decide +kernel), List.mem_of_getElem? (i := 1299) (by decide +kernel)⟩
theorem lw_p63 : lw_okq (⟨"LampPressesModel", "inverse", "(I)I"⟩, 37) := ⟨⟨by decide +kernel, by decide +kernel⟩, List.mem_of_getElem? (i := 1055) (by decide +kernel), List.mem_of_getElem? (i := 1302) (by decide +kernel), List.mem_of_getElem? (i := 1303) (by decide +kernel)⟩
def lw_privs_4 : List (MethodName × Nat) := [(⟨"LampPressesModel", "isState", "(I)Z"⟩, 37), (⟨"LampPressesModel", "m", "()I"⟩, 37), (⟨"LampPressesModel", "many", "()I"⟩, 37), (⟨"LampPressesModel", "keeps", "()V"⟩, 37), (⟨"LampPressesModel", "isLamp", "(I)Z"⟩, 37), (⟨"LampPressesModel", "stands", "([II)V"⟩, 37), (⟨"LampPressesModel", "sets", "(III)I"⟩, 37), (⟨"LampPressesModel", "presses", "(II)V"⟩, 37), (⟨"LampPressesModel", "stepOf", "(II)I"⟩, 37), (⟨"LampPressesModel", "offNow", "()I"⟩, 37), (⟨"LampPressesModel", "findsPlan", "([I)Z"⟩, 37), (⟨"LampPressesModel", "allLamps", "()I"⟩, 37), (⟨"LampPressesModel", "spans", "(II)V"⟩, 37), (⟨"LampPressesModel", "fallsIn", "(I)Z"⟩, 37), (⟨"LampPressesModel", "joins", "(I)V"⟩, 37), (⟨"LampPressesModel", "inverse", "(I)I"⟩, 37)]
theorem lw_r4 : ∀ q ∈ lw_privs_4, lw_okq q := List.forall_mem_cons.mpr ⟨lw_p48, List.forall_mem_cons.mpr ⟨lw_p49, List.forall_mem_cons.mpr ⟨lw_p50, List.forall_mem_cons.mpr ⟨lw_p51, List.forall_mem_cons.mpr ⟨lw_p52, List.forall_mem_cons.mpr ⟨lw_p53, List.forall_mem_cons.mpr ⟨lw_p54, List.forall_mem_cons.mpr ⟨lw_p55, List.forall_mem_cons.mpr ⟨lw_p56, List.forall_mem_cons.mpr ⟨lw_p57, List.forall_mem_cons.mpr ⟨lw_p58, List.forall_mem_cons.mpr ⟨lw_p59, List.forall_mem_cons.mpr ⟨lw_p60, List.forall_mem_cons.mpr ⟨lw_p61, List.forall_mem_cons.mpr ⟨lw_p62, List.forall_mem_cons.mpr ⟨lw_p63, fun _ h => absurd h List.not_mem_nil⟩⟩⟩⟩⟩⟩⟩⟩⟩⟩⟩⟩⟩⟩⟩⟩
theorem lw_p64 : lw_okq (⟨"LampPressesModel", "wantsGoals", "()V"⟩, 37) := ⟨⟨by decide +kernel, by decide +kernel⟩, List.mem_of_getElem? (i := 1055) (by decide +kernel), List.mem_of_getElem? (i := 1306) (by decide +kernel), List.mem_of_getElem? (i := 1307) (by decide +kernel)⟩
theorem lw_p65 : lw_okq (⟨"LampPressesModel", "isReached", "(I)Z"⟩, 37) := ⟨⟨by decide +kernel, by decide +kernel⟩, List.mem_of_getElem? (i := 1055) (by decide +kernel), List.mem_of_getElem? (i := 1310) (by decide +kernel), List.mem_of_getElem? (i := 1311) (by decide +kernel)⟩
theorem lw_p66 : lw_okq (⟨"LampPressesModel", "rowFrom", "(I[I)V"⟩, 37) := ⟨⟨by decide +kernel, by decide +kernel⟩, List.mem_of_getElem? (i := 1055) (by decide +kernel), List.mem_of_getElem? (i := 1314) (by decide +kernel), List.mem_of_getElem? (i := 1315) (by decide +kernel)⟩
theorem lw_p67 : lw_okq (⟨"LampPressesModel", "wantsLess", "(II)V"⟩, 37) := ⟨⟨by decide +kernel, by decide +kernel⟩, List.mem_of_getElem? (i := 1055) (by decide +kernel), List.mem_of_getElem? (i := 1318) (by decide +kernel), List.mem_of_getElem? (i := 1319) (by decide +kernel)⟩
theorem lw_p68 : lw_okq (⟨"LampPressesModel", "sumOf", "([I)I"⟩, 37) := ⟨⟨by decide +kernel, by decide +kernel⟩, List.mem_of_getElem? (i := 1055) (by decide +kernel), List.mem_of_getElem? (i := 1322) (by decide +kernel), List.mem_of_getElem? (i := 1323) (by decide +kernel)⟩
theorem lw_p69 : lw_okq (⟨"LampPressesModel", "wireMany", "()I"⟩, 37) := ⟨⟨by decide +kernel, by decide +kernel⟩, List.mem_of_getElem? (i := 1055) (by decide +kernel), List.mem_of_getElem? (i := 1341) (by decide +kernel), List.mem_of_getElem? (i := 1342) (by decide +kernel)⟩
theorem lw_p70 : lw_okq (⟨"LampPressesModel", "rankNow", "()I"⟩, 37) := ⟨⟨by decide +kernel, by decide +kernel⟩, List.mem_of_getElem? (i := 1055) (by decide +kernel), List.mem_of_getElem? (i := 1361) (by decide +kernel), List.mem_of_getElem? (i := 1362) (by decide +kernel)⟩
theorem lw_p71 : lw_okq (⟨"LampPressesModel", "power", "(I)I"⟩, 37) := ⟨⟨by decide +kernel, by decide +kernel⟩, List.mem_of_getElem? (i := 1055) (by decide +kernel), List.mem_of_getElem? (i := 1369) (by decide +kernel), List.mem_of_getElem? (i := 1370) (by decide +kernel)⟩
theorem lw_p72 : lw_okq (⟨"LampPressesModel", "laysBases", "()V"⟩, 37) := ⟨⟨by decide +kernel, by decide +kernel⟩, List.mem_of_getElem? (i := 1055) (by decide +kernel), List.mem_of_getElem? (i := 1377) (by decide +kernel), List.mem_of_getElem? (i := 1378) (by decide +kernel)⟩
theorem lw_p73 : lw_okq (⟨"LampPressesModel", "planMany", "()I"⟩, 37) := ⟨⟨by decide +kernel, by decide +kernel⟩, List.mem_of_getElem? (i := 1055) (by decide +kernel), List.mem_of_getElem? (i := 1385) (by decide +kernel), List.mem_of_getElem? (i := 1386) (by decide +kernel)⟩
theorem lw_p74 : lw_okq (⟨"LampPressesModel", "bestOf", "(IZ)I"⟩, 37) := ⟨⟨by decide +kernel, by decide +kernel⟩, List.mem_of_getElem? (i := 1055) (by decide +kernel), List.mem_of_getElem? (i := 1397) (by decide +kernel), List.mem_of_getElem? (i := 1398) (by decide +kernel)⟩
theorem lw_p75 : lw_okq (⟨"LampPressesModel", "looksBest", "(Z)I"⟩, 37) := ⟨⟨by decide +kernel, by decide +kernel⟩, List.mem_of_getElem? (i := 1055) (by decide +kernel), List.mem_of_getElem? (i := 1401) (by decide +kernel), List.mem_of_getElem? (i := 1402) (by decide +kernel)⟩
theorem lw_p76 : lw_okq (⟨"LampPressesModel", "pressedLamps", "([I)I"⟩, 37) := ⟨⟨by decide +kernel, by decide +kernel⟩, List.mem_of_getElem? (i := 1055) (by decide +kernel), List.mem_of_getElem? (i := 1405) (by decide +kernel), List.mem_of_getElem? (i := 1406) (by decide +kernel)⟩
theorem lw_p77 : lw_okq (⟨"LampPressesModel", "isAhead", "([I[I)Z"⟩, 37) := ⟨⟨by decide +kernel, by decide +kernel⟩, List.mem_of_getElem? (i := 1055) (by decide +kernel), List.mem_of_getElem? (i := 1409) (by decide +kernel), List.mem_of_getElem? (i := 1410) (by decide +kernel)⟩
theorem lw_p78 : lw_okq (⟨"LampPressesModel", "aloneOf", "(I)I"⟩, 37) := ⟨⟨by decide +kernel, by decide +kernel⟩, List.mem_of_getElem? (i := 1055) (by decide +kernel), List.mem_of_getElem? (i := 1425) (by decide +kernel), List.mem_of_getElem? (i := 1426) (by decide +kernel)⟩
theorem lw_p79 : lw_okq (⟨"LampPressesModel", "laysFar", "(I)V"⟩, 37) := ⟨⟨by decide +kernel, by decide +kernel⟩, List.mem_of_getElem? (i := 1055) (by decide +kernel), List.mem_of_getElem? (i := 1445) (by decide +kernel), List.mem_of_getElem? (i := 1446) (by decide +kernel)⟩
def lw_privs_5 : List (MethodName × Nat) := [(⟨"LampPressesModel", "wantsGoals", "()V"⟩, 37), (⟨"LampPressesModel", "isReached", "(I)Z"⟩, 37), (⟨"LampPressesModel", "rowFrom", "(I[I)V"⟩, 37), (⟨"LampPressesModel", "wantsLess", "(II)V"⟩, 37), (⟨"LampPressesModel", "sumOf", "([I)I"⟩, 37), (⟨"LampPressesModel", "wireMany", "()I"⟩, 37), (⟨"LampPressesModel", "rankNow", "()I"⟩, 37), (⟨"LampPressesModel", "power", "(I)I"⟩, 37), (⟨"LampPressesModel", "laysBases", "()V"⟩, 37), (⟨"LampPressesModel", "planMany", "()I"⟩, 37), (⟨"LampPressesModel", "bestOf", "(IZ)I"⟩, 37), (⟨"LampPressesModel", "looksBest", "(Z)I"⟩, 37), (⟨"LampPressesModel", "pressedLamps", "([I)I"⟩, 37), (⟨"LampPressesModel", "isAhead", "([I[I)Z"⟩, 37), (⟨"LampPressesModel", "aloneOf", "(I)I"⟩, 37), (⟨"LampPressesModel", "laysFar", "(I)V"⟩, 37)]
theorem lw_r5 : ∀ q ∈ lw_privs_5, lw_okq q := List.forall_mem_cons.mpr ⟨lw_p64, List.forall_mem_cons.mpr ⟨lw_p65, List.forall_mem_cons.mpr ⟨lw_p66, List.forall_mem_cons.mpr ⟨lw_p67, List.forall_mem_cons.mpr ⟨lw_p68, List.forall_mem_cons.mpr ⟨lw_p69, List.forall_mem_cons.mpr ⟨lw_p70, List.forall_mem_cons.mpr ⟨lw_p71, List.forall_mem_cons.mpr ⟨lw_p72, List.forall_mem_cons.mpr ⟨lw_p73, List.forall_mem_cons.mpr ⟨lw_p74, List.forall_mem_cons.mpr ⟨lw_p75, List.forall_mem_cons.mpr ⟨lw_p76, List.forall_mem_cons.mpr ⟨lw_p77, List.forall_mem_cons.mpr ⟨lw_p78, List.forall_mem_cons.mpr ⟨lw_p79, fun _ h => absurd h List.not_mem_nil⟩⟩⟩⟩⟩⟩⟩⟩⟩⟩⟩⟩⟩⟩⟩⟩
theorem lw_p80 : lw_okq (⟨"LampPressesModel", "areLamps", "(I)Z"⟩, 37) := ⟨⟨by decide +kernel, by decide +kernel⟩, List.mem_of_getElem? (i := 1055) (by decide +kernel), List.mem_of_getElem? (i := 1461) (by decide +kernel), List.mem_of_getElem? (i := 1462) (by decide +kernel)⟩
theorem lw_p81 : lw_okq (⟨"LampPressesModel", "offBehind", "(I)I"⟩, 37) := ⟨⟨by decide +kernel, by decide +kernel⟩, List.mem_of_getElem? (i := 1055) (by decide +kernel), List.mem_of_getElem? (i := 1473) (by decide +kernel), List.mem_of_getElem? (i := 1474) (by decide +kernel)⟩
theorem lw_p82 : lw_okq (⟨"LampPressesModel", "isLeveled", "()Z"⟩, 37) := ⟨⟨by decide +kernel, by decide +kernel⟩, List.mem_of_getElem? (i := 1055) (by decide +kernel), List.mem_of_getElem? (i := 1502) (by decide +kernel), List.mem_of_getElem? (i := 1503) (by decide +kernel)⟩
theorem lw_p83 : lw_okq (⟨"LampPressesModel", "laysLevels", "()V"⟩, 37) := ⟨⟨by decide +kernel, by decide +kernel⟩, List.mem_of_getElem? (i := 1055) (by decide +kernel), List.mem_of_getElem? (i := 1506) (by decide +kernel), List.mem_of_getElem? (i := 1507) (by decide +kernel)⟩
theorem lw_p84 : lw_okq (⟨"LampPressesModel", "wayNow", "()I"⟩, 37) := ⟨⟨by decide +kernel, by decide +kernel⟩, List.mem_of_getElem? (i := 1055) (by decide +kernel), List.mem_of_getElem? (i := 1510) (by decide +kernel), List.mem_of_getElem? (i := 1511) (by decide +kernel)⟩
theorem lw_p85 : lw_okq (⟨"LampPressesModel", "behind", "(II)I"⟩, 37) := ⟨⟨by decide +kernel, by decide +kernel⟩, List.mem_of_getElem? (i := 1055) (by decide +kernel), List.mem_of_getElem? (i := 1514) (by decide +kernel), List.mem_of_getElem? (i := 1515) (by decide +kernel)⟩
theorem lw_p86 : lw_okq (⟨"LampPressesModel", "digitOf", "(II)I"⟩, 37) := ⟨⟨by decide +kernel, by decide +kernel⟩, List.mem_of_getElem? (i := 1055) (by decide +kernel), List.mem_of_getElem? (i := 1530) (by decide +kernel), List.mem_of_getElem? (i := 1531) (by decide +kernel)⟩
theorem lw_p87 : lw_okq (⟨"LampPressesModel", "writesWord", "(I)V"⟩, 37) := ⟨⟨by decide +kernel, by decide +kernel⟩, List.mem_of_getElem? (i := 1055) (by decide +kernel), List.mem_of_getElem? (i := 1558) (by decide +kernel), List.mem_of_getElem? (i := 1559) (by decide +kernel)⟩
theorem lw_p88 : lw_okq (⟨"LampPressesModel", "wordFrom", "(I)I"⟩, 37) := ⟨⟨by decide +kernel, by decide +kernel⟩, List.mem_of_getElem? (i := 1055) (by decide +kernel), List.mem_of_getElem? (i := 1562) (by decide +kernel), List.mem_of_getElem? (i := 1563) (by decide +kernel)⟩
theorem lw_p89 : lw_okq (⟨"LampPressesModel", "writes", "(I)V"⟩, 37) := ⟨⟨by decide +kernel, by decide +kernel⟩, List.mem_of_getElem? (i := 1055) (by decide +kernel), List.mem_of_getElem? (i := 1566) (by decide +kernel), List.mem_of_getElem? (i := 1567) (by decide +kernel)⟩
theorem lw_p90 : lw_okq (⟨"LampPressesModel", "writesNumber", "(I)V"⟩, 37) := ⟨⟨by decide +kernel, by decide +kernel⟩, List.mem_of_getElem? (i := 1055) (by decide +kernel), List.mem_of_getElem? (i := 1570) (by decide +kernel), List.mem_of_getElem? (i := 1571) (by decide +kernel)⟩
theorem lw_p91 : lw_okq (⟨"LampPressesModel", "writesLamp", "(I)V"⟩, 37) := ⟨⟨by decide +kernel, by decide +kernel⟩, List.mem_of_getElem? (i := 1055) (by decide +kernel), List.mem_of_getElem? (i := 1574) (by decide +kernel), List.mem_of_getElem? (i := 1575) (by decide +kernel)⟩
theorem lw_p92 : lw_okq (⟨"LampPressesModel", "writesWire", "(II)V"⟩, 37) := ⟨⟨by decide +kernel, by decide +kernel⟩, List.mem_of_getElem? (i := 1055) (by decide +kernel), List.mem_of_getElem? (i := 1578) (by decide +kernel), List.mem_of_getElem? (i := 1579) (by decide +kernel)⟩
theorem lw_p93 : lw_okq (⟨"LampPressesModel", "toldText", "(I)I"⟩, 37) := ⟨⟨by decide +kernel, by decide +kernel⟩, List.mem_of_getElem? (i := 1055) (by decide +kernel), List.mem_of_getElem? (i := 1582) (by decide +kernel), List.mem_of_getElem? (i := 1583) (by decide +kernel)⟩
theorem lw_p94 : lw_okq (⟨"LampPressesModel", "litMany", "()I"⟩, 37) := ⟨⟨by decide +kernel, by decide +kernel⟩, List.mem_of_getElem? (i := 1055) (by decide +kernel), List.mem_of_getElem? (i := 1594) (by decide +kernel), List.mem_of_getElem? (i := 1595) (by decide +kernel)⟩
theorem lw_p95 : lw_okq (⟨"LampPressesModel", "goesOn", "()V"⟩, 37) := ⟨⟨by decide +kernel, by decide +kernel⟩, List.mem_of_getElem? (i := 1055) (by decide +kernel), List.mem_of_getElem? (i := 1610) (by decide +kernel), List.mem_of_getElem? (i := 1611) (by decide +kernel)⟩
def lw_privs_6 : List (MethodName × Nat) := [(⟨"LampPressesModel", "areLamps", "(I)Z"⟩, 37), (⟨"LampPressesModel", "offBehind", "(I)I"⟩, 37), (⟨"LampPressesModel", "isLeveled", "()Z"⟩, 37), (⟨"LampPressesModel", "laysLevels", "()V"⟩, 37), (⟨"LampPressesModel", "wayNow", "()I"⟩, 37), (⟨"LampPressesModel", "behind", "(II)I"⟩, 37), (⟨"LampPressesModel", "digitOf", "(II)I"⟩, 37), (⟨"LampPressesModel", "writesWord", "(I)V"⟩, 37), (⟨"LampPressesModel", "wordFrom", "(I)I"⟩, 37), (⟨"LampPressesModel", "writes", "(I)V"⟩, 37), (⟨"LampPressesModel", "writesNumber", "(I)V"⟩, 37), (⟨"LampPressesModel", "writesLamp", "(I)V"⟩, 37), (⟨"LampPressesModel", "writesWire", "(II)V"⟩, 37), (⟨"LampPressesModel", "toldText", "(I)I"⟩, 37), (⟨"LampPressesModel", "litMany", "()I"⟩, 37), (⟨"LampPressesModel", "goesOn", "()V"⟩, 37)]
theorem lw_r6 : ∀ q ∈ lw_privs_6, lw_okq q := List.forall_mem_cons.mpr ⟨lw_p80, List.forall_mem_cons.mpr ⟨lw_p81, List.forall_mem_cons.mpr ⟨lw_p82, List.forall_mem_cons.mpr ⟨lw_p83, List.forall_mem_cons.mpr ⟨lw_p84, List.forall_mem_cons.mpr ⟨lw_p85, List.forall_mem_cons.mpr ⟨lw_p86, List.forall_mem_cons.mpr ⟨lw_p87, List.forall_mem_cons.mpr ⟨lw_p88, List.forall_mem_cons.mpr ⟨lw_p89, List.forall_mem_cons.mpr ⟨lw_p90, List.forall_mem_cons.mpr ⟨lw_p91, List.forall_mem_cons.mpr ⟨lw_p92, List.forall_mem_cons.mpr ⟨lw_p93, List.forall_mem_cons.mpr ⟨lw_p94, List.forall_mem_cons.mpr ⟨lw_p95, fun _ h => absurd h List.not_mem_nil⟩⟩⟩⟩⟩⟩⟩⟩⟩⟩⟩⟩⟩⟩⟩⟩
theorem lw_p96 : lw_okq (⟨"LampPressesModel", "here", "()I"⟩, 37) := ⟨⟨by decide +kernel, by decide +kernel⟩, List.mem_of_getElem? (i := 1055) (by decide +kernel), List.mem_of_getElem? (i := 1614) (by decide +kernel), List.mem_of_getElem? (i := 1615) (by decide +kernel)⟩
theorem lw_p97 : lw_okq (⟨"LampPressesModel", "readsOne", "(Z)V"⟩, 37) := ⟨⟨by decide +kernel, by decide +kernel⟩, List.mem_of_getElem? (i := 1055) (by decide +kernel), List.mem_of_getElem? (i := 1618) (by decide +kernel), List.mem_of_getElem? (i := 1619) (by decide +kernel)⟩
theorem lw_p98 : lw_okq (⟨"LampPressesModel", "takesWord", "(I)Z"⟩, 37) := ⟨⟨by decide +kernel, by decide +kernel⟩, List.mem_of_getElem? (i := 1055) (by decide +kernel), List.mem_of_getElem? (i := 1622) (by decide +kernel), List.mem_of_getElem? (i := 1623) (by decide +kernel)⟩
theorem lw_p99 : lw_okq (⟨"LampPressesModel", "readsStates", "()V"⟩, 37) := ⟨⟨by decide +kernel, by decide +kernel⟩, List.mem_of_getElem? (i := 1055) (by decide +kernel), List.mem_of_getElem? (i := 1626) (by decide +kernel), List.mem_of_getElem? (i := 1627) (by decide +kernel)⟩
theorem lw_p100 : lw_okq (⟨"LampPressesModel", "readsLamp", "(I)V"⟩, 37) := ⟨⟨by decide +kernel, by decide +kernel⟩, List.mem_of_getElem? (i := 1055) (by decide +kernel), List.mem_of_getElem? (i := 1630) (by decide +kernel), List.mem_of_getElem? (i := 1631) (by decide +kernel)⟩
theorem lw_p101 : lw_okq (⟨"LampPressesModel", "needsNumber", "(II)I"⟩, 37) := ⟨⟨by decide +kernel, by decide +kernel⟩, List.mem_of_getElem? (i := 1055) (by decide +kernel), List.mem_of_getElem? (i := 1634) (by decide +kernel), List.mem_of_getElem? (i := 1635) (by decide +kernel)⟩
theorem lw_p102 : lw_okq (⟨"LampPressesModel", "readsWire", "()V"⟩, 37) := ⟨⟨by decide +kernel, by decide +kernel⟩, List.mem_of_getElem? (i := 1055) (by decide +kernel), List.mem_of_getElem? (i := 1638) (by decide +kernel), List.mem_of_getElem? (i := 1639) (by decide +kernel)⟩
def lw_privs_7 : List (MethodName × Nat) := [(⟨"LampPressesModel", "here", "()I"⟩, 37), (⟨"LampPressesModel", "readsOne", "(Z)V"⟩, 37), (⟨"LampPressesModel", "takesWord", "(I)Z"⟩, 37), (⟨"LampPressesModel", "readsStates", "()V"⟩, 37), (⟨"LampPressesModel", "readsLamp", "(I)V"⟩, 37), (⟨"LampPressesModel", "needsNumber", "(II)I"⟩, 37), (⟨"LampPressesModel", "readsWire", "()V"⟩, 37)]
theorem lw_r7 : ∀ q ∈ lw_privs_7, lw_okq q := List.forall_mem_cons.mpr ⟨lw_p96, List.forall_mem_cons.mpr ⟨lw_p97, List.forall_mem_cons.mpr ⟨lw_p98, List.forall_mem_cons.mpr ⟨lw_p99, List.forall_mem_cons.mpr ⟨lw_p100, List.forall_mem_cons.mpr ⟨lw_p101, List.forall_mem_cons.mpr ⟨lw_p102, fun _ h => absurd h List.not_mem_nil⟩⟩⟩⟩⟩⟩⟩
def lw_privs : List (MethodName × Nat) := lw_privs_1 ++ (lw_privs_2 ++ (lw_privs_3 ++ (lw_privs_4 ++ (lw_privs_5 ++ (lw_privs_6 ++ (lw_privs_7))))))
def lw_tbl : List Cond := k2_sels lw_privs ++ tables_1
theorem lw_privs_ok : ∀ q ∈ lw_privs, lw_okq q := by
  show ∀ q ∈ lw_privs_1 ++ (lw_privs_2 ++ (lw_privs_3 ++ (lw_privs_4 ++ (lw_privs_5 ++ (lw_privs_6 ++ (lw_privs_7)))))), lw_okq q
  exact List.forall_mem_append.mpr ⟨lw_r1, List.forall_mem_append.mpr ⟨lw_r2, List.forall_mem_append.mpr ⟨lw_r3, List.forall_mem_append.mpr ⟨lw_r4, List.forall_mem_append.mpr ⟨lw_r5, List.forall_mem_append.mpr ⟨lw_r6, lw_r7⟩⟩⟩⟩⟩⟩
-- ===== end of PART A; then your names; then what follows =====
end
section
/-! ===== the program as tables: shapes of the cells, codes of the methods (printed by wip/whole/gen_tab.py) ===== -/
/-- what stands at a cell: a class (0 .. 10), an array (20 int, 21 byte, 22 boolean, 23 int[][], 24 Net[]), and how many places it has -/
def lp_sh (k : Nat) : Nat × Nat := (bif Nat.ble 188 k then (bif Nat.ble 307 k then (bif Nat.ble 340 k then (bif Nat.ble 352 k then (bif Nat.ble 365 k then (bif Nat.ble 367 k then (bif Nat.ble 368 k then (bif Nat.ble 369 k then (99, 0) else (21, 50)) else (20, 500)) else (bif Nat.ble 366 k then (20, 900) else (20, 174))) else (bif Nat.ble 356 k then (bif Nat.ble 363 k then (20, 60000) else (20, 10)) else (bif Nat.ble 355 k then (20, 100) else (20, 10)))) else (bif Nat.ble 348 k then (bif Nat.ble 350 k then (bif Nat.ble 351 k then (20, 11) else (22, 110)) else (bif Nat.ble 349 k then (20, 1100) else (20, 10))) else (bif Nat.ble 344 k then (bif Nat.ble 347 k then (20, 2088) else (20, 174)) else (bif Nat.ble 343 k then (10, 37) else (20, 10))))) else (bif Nat.ble 327 k then (bif Nat.ble 334 k then (bif Nat.ble 337 k then (bif Nat.ble 338 k then (bif Nat.ble 339 k then (21, 120) else (2, 3)) else (21, 900)) else (bif Nat.ble 336 k then (2, 3) else (20, 10))) else (bif Nat.ble 329 k then (bif Nat.ble 333 k then (6, 5) else (20, 10)) else (bif Nat.ble 328 k then (20, 41) else (1, 11)))) else (bif Nat.ble 321 k then (bif Nat.ble 324 k then (bif Nat.ble 325 k then (20, 10) else (6, 5)) else (bif Nat.ble 322 k then (20, 10) else (6, 5))) else (bif Nat.ble 318 k then (bif Nat.ble 319 k then (20, 10) else (6, 5)) else (bif Nat.ble 308 k then (20, 10) else (23, 10)))))) else (bif Nat.ble 228 k then (bif Nat.ble 256 k then (bif Nat.ble 281 k then (bif Nat.ble 283 k then (bif Nat.ble 293 k then (bif Nat.ble 294 k then (20, 10) else (23, 10)) else (20, 10)) else (bif Nat.ble 282 k then (23, 10) else (7, 11))) else (bif Nat.ble 270 k then (bif Nat.ble 271 k then (20, 10) else (23, 10)) else (bif Nat.ble 257 k then (20, 10) else (23, 10)))) else (bif Nat.ble 242 k then (bif Nat.ble 245 k then (bif Nat.ble 246 k then (20, 10) else (23, 10)) else (bif Nat.ble 244 k then (7, 11) else (20, 20))) else (bif Nat.ble 231 k then (bif Nat.ble 241 k then (0, 3) else (20, 10)) else (bif Nat.ble 230 k then (23, 10) else (20, 10))))) else (bif Nat.ble 208 k then (bif Nat.ble 222 k then (bif Nat.ble 225 k then (bif Nat.ble 226 k then (bif Nat.ble 227 k then (3, 7) else (5, 5)) else (21, 500)) else (bif Nat.ble 224 k then (8, 2) else (20, 20))) else (bif Nat.ble 211 k then (bif Nat.ble 221 k then (0, 3) else (20, 10)) else (bif Nat.ble 210 k then (23, 10) else (20, 10)))) else (bif Nat.ble 194 k then (bif Nat.ble 205 k then (bif Nat.ble 207 k then (3, 7) else (20, 20)) else (bif Nat.ble 204 k then (0, 3) else (20, 10))) else (bif Nat.ble 191 k then (bif Nat.ble 193 k then (23, 10) else (20, 10)) else (bif Nat.ble 190 k then (3, 7) else (20, 20))))))) else (bif Nat.ble 89 k then (bif Nat.ble 139 k then (bif Nat.ble 159 k then (bif Nat.ble 173 k then (bif Nat.ble 176 k then (bif Nat.ble 177 k then (bif Nat.ble 187 k then (0, 3) else (20, 10)) else (23, 10)) else (bif Nat.ble 174 k then (20, 10) else (3, 7))) else (bif Nat.ble 170 k then (bif Nat.ble 171 k then (20, 20) else (0, 3)) else (bif Nat.ble 160 k then (20, 10) else (23, 10)))) else (bif Nat.ble 153 k then (bif Nat.ble 156 k then (bif Nat.ble 157 k then (20, 10) else (3, 7)) else (bif Nat.ble 154 k then (20, 20) else (0, 3))) else (bif Nat.ble 142 k then (bif Nat.ble 143 k then (20, 10) else (23, 10)) else (bif Nat.ble 140 k then (20, 10) else (3, 7))))) else (bif Nat.ble 109 k then (bif Nat.ble 123 k then (bif Nat.ble 126 k then (bif Nat.ble 136 k then (bif Nat.ble 137 k then (20, 20) else (0, 3)) else (20, 10)) else (bif Nat.ble 125 k then (23, 10) else (20, 10))) else (bif Nat.ble 120 k then (bif Nat.ble 122 k then (3, 7) else (20, 20)) else (bif Nat.ble 119 k then (0, 3) else (20, 10)))) else (bif Nat.ble 103 k then (bif Nat.ble 106 k then (bif Nat.ble 108 k then (23, 10) else (20, 10)) else (bif Nat.ble 105 k then (3, 7) else (20, 20))) else (bif Nat.ble 92 k then (bif Nat.ble 102 k then (0, 3) else (20, 10)) else (bif Nat.ble 91 k then (23, 10) else (20, 10)))))) else (bif Nat.ble 40 k then (bif Nat.ble 68 k then (bif Nat.ble 74 k then (bif Nat.ble 85 k then (bif Nat.ble 86 k then (bif Nat.ble 88 k then (3, 7) else (20, 20)) else (0, 3)) else (bif Nat.ble 75 k then (20, 10) else (23, 10))) else (bif Nat.ble 71 k then (bif Nat.ble 72 k then (20, 10) else (3, 7)) else (bif Nat.ble 69 k then (20, 20) else (0, 3)))) else (bif Nat.ble 54 k then (bif Nat.ble 57 k then (bif Nat.ble 58 k then (20, 10) else (23, 10)) else (bif Nat.ble 55 k then (20, 10) else (3, 7))) else (bif Nat.ble 51 k then (bif Nat.ble 52 k then (20, 20) else (0, 3)) else (bif Nat.ble 41 k then (20, 10) else (23, 10))))) else (bif Nat.ble 19 k then (bif Nat.ble 24 k then (bif Nat.ble 35 k then (bif Nat.ble 37 k then (bif Nat.ble 38 k then (20, 10) else (3, 7)) else (20, 20)) else (bif Nat.ble 34 k then (0, 3) else (20, 10))) else (bif Nat.ble 21 k then (bif Nat.ble 23 k then (23, 10) else (20, 10)) else (bif Nat.ble 20 k then (3, 7) else (24, 12)))) else (bif Nat.ble 5 k then (bif Nat.ble 16 k then (bif Nat.ble 18 k then (4, 3) else (20, 20)) else (bif Nat.ble 15 k then (0, 3) else (20, 10))) else (bif Nat.ble 2 k then (bif Nat.ble 4 k then (23, 10) else (20, 10)) else (bif Nat.ble 1 k then (3, 7) else (9, 17))))))))
/-- how many methods -/
abbrev lp_mN : Nat := 294
def lp_mx (m : Nat) : Nat := (bif Nat.ble 151 m then (bif Nat.ble 223 m then (bif Nat.ble 257 m then (bif Nat.ble 275 m then (bif Nat.ble 286 m then (bif Nat.ble 291 m then (bif Nat.ble 293 m then (bif Nat.ble 294 m then 0 else 4) else (bif Nat.ble 292 m then 3 else 4)) else (bif Nat.ble 287 m then (bif Nat.ble 289 m then 2 else 1) else 2)) else (bif Nat.ble 281 m then (bif Nat.ble 283 m then (bif Nat.ble 285 m then 1 else 2) else (bif Nat.ble 282 m then 1 else 2)) else (bif Nat.ble 277 m then (bif Nat.ble 278 m then 3 else 1) else 4))) else (bif Nat.ble 268 m then (bif Nat.ble 271 m then (bif Nat.ble 273 m then (bif Nat.ble 274 m then 5 else 1) else (bif Nat.ble 272 m then 4 else 2)) else (bif Nat.ble 269 m then (bif Nat.ble 270 m then 8 else 2) else 3)) else (bif Nat.ble 261 m then (bif Nat.ble 265 m then (bif Nat.ble 266 m then 4 else 3) else (bif Nat.ble 262 m then 2 else 3)) else (bif Nat.ble 259 m then (bif Nat.ble 260 m then 2 else 4) else 3)))) else (bif Nat.ble 240 m then (bif Nat.ble 249 m then (bif Nat.ble 252 m then (bif Nat.ble 254 m then (bif Nat.ble 256 m then 5 else 4) else (bif Nat.ble 253 m then 2 else 4)) else (bif Nat.ble 250 m then (bif Nat.ble 251 m then 1 else 5) else 7)) else (bif Nat.ble 244 m then (bif Nat.ble 246 m then (bif Nat.ble 247 m then 3 else 1) else (bif Nat.ble 245 m then 3 else 5)) else (bif Nat.ble 241 m then (bif Nat.ble 243 m then 1 else 3) else 8))) else (bif Nat.ble 231 m then (bif Nat.ble 235 m then (bif Nat.ble 237 m then (bif Nat.ble 238 m then 4 else 3) else (bif Nat.ble 236 m then 2 else 4)) else (bif Nat.ble 232 m then (bif Nat.ble 234 m then 3 else 5) else 1)) else (bif Nat.ble 228 m then (bif Nat.ble 229 m then (bif Nat.ble 230 m then 3 else 5) else 3) else (bif Nat.ble 225 m then (bif Nat.ble 227 m then 2 else 3) else 2))))) else (bif Nat.ble 187 m then (bif Nat.ble 204 m then (bif Nat.ble 212 m then (bif Nat.ble 218 m then (bif Nat.ble 221 m then (bif Nat.ble 222 m then 4 else 6) else (bif Nat.ble 219 m then 4 else 2)) else (bif Nat.ble 215 m then (bif Nat.ble 216 m then 1 else 3) else 1)) else (bif Nat.ble 208 m then (bif Nat.ble 210 m then (bif Nat.ble 211 m then 3 else 8) else (bif Nat.ble 209 m then 3 else 4)) else (bif Nat.ble 205 m then (bif Nat.ble 207 m then 2 else 4) else 3))) else (bif Nat.ble 197 m then (bif Nat.ble 200 m then (bif Nat.ble 202 m then (bif Nat.ble 203 m then 2 else 4) else (bif Nat.ble 201 m then 1 else 5)) else (bif Nat.ble 198 m then (bif Nat.ble 199 m then 6 else 3) else 6)) else (bif Nat.ble 192 m then (bif Nat.ble 194 m then (bif Nat.ble 195 m then 2 else 5) else (bif Nat.ble 193 m then 4 else 3)) else (bif Nat.ble 190 m then (bif Nat.ble 191 m then 5 else 6) else 3)))) else (bif Nat.ble 166 m then (bif Nat.ble 176 m then (bif Nat.ble 179 m then (bif Nat.ble 182 m then (bif Nat.ble 186 m then 4 else 3) else (bif Nat.ble 180 m then 5 else 4)) else (bif Nat.ble 177 m then (bif Nat.ble 178 m then 2 else 4) else 3)) else (bif Nat.ble 170 m then (bif Nat.ble 174 m then (bif Nat.ble 175 m then 5 else 2) else (bif Nat.ble 173 m then 4 else 2)) else (bif Nat.ble 167 m then (bif Nat.ble 168 m then 1 else 2) else 3))) else (bif Nat.ble 157 m then (bif Nat.ble 160 m then (bif Nat.ble 163 m then (bif Nat.ble 164 m then 2 else 3) else (bif Nat.ble 162 m then 1 else 4)) else (bif Nat.ble 158 m then (bif Nat.ble 159 m then 2 else 5) else 3)) else (bif Nat.ble 154 m then (bif Nat.ble 155 m then (bif Nat.ble 156 m then 2 else 3) else 2) else (bif Nat.ble 152 m then (bif Nat.ble 153 m then 3 else 4) else 6)))))) else (bif Nat.ble 73 m then (bif Nat.ble 111 m then (bif Nat.ble 126 m then (bif Nat.ble 141 m then (bif Nat.ble 147 m then (bif Nat.ble 149 m then (bif Nat.ble 150 m then 4 else 2) else (bif Nat.ble 148 m then 3 else 2)) else (bif Nat.ble 142 m then (bif Nat.ble 143 m then 1 else 2) else 3)) else (bif Nat.ble 130 m then (bif Nat.ble 139 m then (bif Nat.ble 140 m then 1 else 2) else (bif Nat.ble 133 m then 1 else 2)) else (bif Nat.ble 127 m then (bif Nat.ble 128 m then 4 else 2) else 4))) else (bif Nat.ble 119 m then (bif Nat.ble 122 m then (bif Nat.ble 124 m then (bif Nat.ble 125 m then 3 else 2) else (bif Nat.ble 123 m then 4 else 2)) else (bif Nat.ble 120 m then (bif Nat.ble 121 m then 1 else 3) else 5)) else (bif Nat.ble 115 m then (bif Nat.ble 117 m then (bif Nat.ble 118 m then 1 else 2) else (bif Nat.ble 116 m then 3 else 5)) else (bif Nat.ble 113 m then (bif Nat.ble 114 m then 6 else 2) else 3)))) else (bif Nat.ble 91 m then (bif Nat.ble 101 m then (bif Nat.ble 107 m then (bif Nat.ble 109 m then (bif Nat.ble 110 m then 4 else 5) else (bif Nat.ble 108 m then 4 else 1)) else (bif Nat.ble 102 m then (bif Nat.ble 106 m then 3 else 2) else 1)) else (bif Nat.ble 95 m then (bif Nat.ble 98 m then (bif Nat.ble 100 m then 3 else 1) else (bif Nat.ble 96 m then 3 else 1)) else (bif Nat.ble 93 m then (bif Nat.ble 94 m then 3 else 5) else 3))) else (bif Nat.ble 79 m then (bif Nat.ble 87 m then (bif Nat.ble 89 m then (bif Nat.ble 90 m then 7 else 3) else (bif Nat.ble 88 m then 2 else 3)) else (bif Nat.ble 83 m then (bif Nat.ble 84 m then 4 else 5) else 2)) else (bif Nat.ble 76 m then (bif Nat.ble 77 m then (bif Nat.ble 78 m then 6 else 1) else 3) else (bif Nat.ble 74 m then (bif Nat.ble 75 m then 1 else 5) else 3))))) else (bif Nat.ble 40 m then (bif Nat.ble 57 m then (bif Nat.ble 66 m then (bif Nat.ble 69 m then (bif Nat.ble 71 m then (bif Nat.ble 72 m then 2 else 3) else (bif Nat.ble 70 m then 5 else 4)) else (bif Nat.ble 67 m then (bif Nat.ble 68 m then 3 else 5) else 4)) else (bif Nat.ble 60 m then (bif Nat.ble 64 m then (bif Nat.ble 65 m then 3 else 7) else (bif Nat.ble 61 m then 3 else 2)) else (bif Nat.ble 58 m then (bif Nat.ble 59 m then 3 else 1) else 5))) else (bif Nat.ble 46 m then (bif Nat.ble 52 m then (bif Nat.ble 55 m then (bif Nat.ble 56 m then 8 else 3) else (bif Nat.ble 54 m then 2 else 1)) else (bif Nat.ble 48 m then (bif Nat.ble 51 m then 2 else 3) else 1)) else (bif Nat.ble 43 m then (bif Nat.ble 44 m then (bif Nat.ble 45 m then 4 else 5) else 4) else (bif Nat.ble 41 m then (bif Nat.ble 42 m then 5 else 2) else 3)))) else (bif Nat.ble 17 m then (bif Nat.ble 25 m then (bif Nat.ble 30 m then (bif Nat.ble 34 m then (bif Nat.ble 36 m then 2 else 4) else (bif Nat.ble 31 m then 3 else 5)) else (bif Nat.ble 26 m then (bif Nat.ble 29 m then 3 else 4) else 5)) else (bif Nat.ble 21 m then (bif Nat.ble 23 m then (bif Nat.ble 24 m then 4 else 3) else (bif Nat.ble 22 m then 6 else 3)) else (bif Nat.ble 18 m then (bif Nat.ble 20 m then 1 else 2) else 1))) else (bif Nat.ble 7 m then (bif Nat.ble 11 m then (bif Nat.ble 13 m then (bif Nat.ble 15 m then 2 else 3) else (bif Nat.ble 12 m then 1 else 2)) else (bif Nat.ble 9 m then (bif Nat.ble 10 m then 5 else 4) else 3)) else (bif Nat.ble 3 m then (bif Nat.ble 4 m then (bif Nat.ble 5 m then 5 else 1) else 2) else (bif Nat.ble 1 m then (bif Nat.ble 2 m then 3 else 4) else 1)))))))
abbrev lp_E : Type := Nat × (Instr × Nat) × Nat × Nat × Int32 × List Nat × Nat
/-- LampPresses$Book.<init>()V -/
def lp_c0 : List (Nat × List lp_E) := [(21, [(0, (.aload_n 0, 1), 0, 0, 0, [], 0),
  (1, (.invokespecial 3, 3), 0, 1, 0, [5, 0, 41], 0),
  (4, (.aload_n 0, 1), 0, 0, 0, [], 0),
  (5, (.bipush 20, 2), 0, 0, 20, [], 0),
  (7, (.newarray .int, 2), 20, 0, 0, [], 0),
  (9, (.putfield 9, 3), 0, 1, 0, [1, 45, 1], 0),
  (12, (.aload_n 0, 1), 0, 0, 0, [], 0),
  (13, (.bipush 20, 2), 0, 0, 20, [], 0),
  (15, (.newarray .int, 2), 20, 0, 0, [], 0),
  (17, (.putfield 15, 3), 0, 2, 0, [1, 46, 1], 0),
  (20, (.return_, 1), 0, 0, 0, [], 0)])]
/-- LampPresses$Book.enter(II)V -/
def lp_c1 : List (Nat × List lp_E) := [(35, [(0, (.bipush 19, 2), 0, 0, 19, [], 0),
  (2, (.istore_n 3, 1), 3, 0, 0, [], 1),
  (3, (.iload_n 3, 1), 3, 0, 0, [], 0),
  (4, (.ifCond .le 37, 3), 41, 0, 0, [], 0),
  (7, (.aload_n 0, 1), 0, 0, 0, [], 0),
  (8, (.getfield 9, 3), 0, 1, 0, [1, 45], 0),
  (11, (.iload_n 3, 1), 3, 0, 0, [], 0),
  (12, (.aload_n 0, 1), 0, 0, 0, [], 0),
  (13, (.getfield 9, 3), 0, 1, 0, [1, 45], 0),
  (16, (.iload_n 3, 1), 3, 0, 0, [], 0),
  (17, (.iconst 1, 1), 0, 0, 1, [], 0),
  (18, (.isub, 1), 0, 0, 0, [], 0),
  (19, (.iaload, 1), 20, 0, 0, [], 0),
  (20, (.iastore, 1), 0, 0, 0, [], 0),
  (21, (.aload_n 0, 1), 0, 0, 0, [], 0),
  (22, (.getfield 15, 3), 0, 2, 0, [1, 46], 0),
  (25, (.iload_n 3, 1), 3, 0, 0, [], 0),
  (26, (.aload_n 0, 1), 0, 0, 0, [], 0),
  (27, (.getfield 15, 3), 0, 2, 0, [1, 46], 0),
  (30, (.iload_n 3, 1), 3, 0, 0, [], 0),
  (31, (.iconst 1, 1), 0, 0, 1, [], 0),
  (32, (.isub, 1), 0, 0, 0, [], 0),
  (33, (.iaload, 1), 20, 0, 0, [], 0),
  (34, (.iastore, 1), 0, 0, 0, [], 0)]),
 (71, [(35, (.iinc 3 (-1), 3), 3, 0, (-1), [], 0),
  (38, (.goto (-35), 3), 3, 0, 0, [], 2),
  (41, (.aload_n 0, 1), 0, 0, 0, [], 0),
  (42, (.getfield 9, 3), 0, 1, 0, [1, 45], 0),
  (45, (.iconst 0, 1), 0, 0, 0, [], 0),
  (46, (.iload_n 1, 1), 1, 0, 0, [], 0),
  (47, (.iastore, 1), 0, 0, 0, [], 0),
  (48, (.aload_n 0, 1), 0, 0, 0, [], 0),
  (49, (.getfield 15, 3), 0, 2, 0, [1, 46], 0),
  (52, (.iconst 0, 1), 0, 0, 0, [], 0),
  (53, (.iload_n 2, 1), 2, 0, 0, [], 0),
  (54, (.iastore, 1), 0, 0, 0, [], 0),
  (55, (.aload_n 0, 1), 0, 0, 0, [], 0),
  (56, (.aload_n 0, 1), 0, 0, 0, [], 0),
  (57, (.getfield 18, 3), 0, 0, 0, [0, 42], 0),
  (60, (.iconst 1, 1), 0, 0, 1, [], 0),
  (61, (.iadd, 1), 0, 0, 0, [], 0),
  (62, (.bipush 20, 2), 0, 0, 20, [], 0),
  (64, (.invokestatic 22, 3), 284, 2, 0, [8, 1, 2104], 0),
  (67, (.putfield 18, 3), 0, 0, 0, [0, 42, 0], 0),
  (70, (.return_, 1), 0, 0, 0, [], 0)])]
/-- LampPresses$Book.entry(II)I -/
def lp_c2 : List (Nat × List lp_E) := [(42, [(0, (.iload_n 1, 1), 1, 0, 0, [], 0),
  (1, (.ifCond .lt 20, 3), 21, 0, 0, [], 0),
  (4, (.iload_n 1, 1), 1, 0, 0, [], 0),
  (5, (.aload_n 0, 1), 0, 0, 0, [], 0),
  (6, (.getfield 18, 3), 0, 0, 0, [0, 42], 0),
  (9, (.if_icmp .ge 12, 3), 21, 0, 0, [], 0),
  (12, (.iload_n 2, 1), 2, 0, 0, [], 0),
  (13, (.ifCond .lt 8, 3), 21, 0, 0, [], 0),
  (16, (.iload_n 2, 1), 2, 0, 0, [], 0),
  (17, (.iconst 1, 1), 0, 0, 1, [], 0),
  (18, (.if_icmp .le 5, 3), 23, 0, 0, [], 0),
  (21, (.iconst (-1), 1), 0, 0, (-1), [], 0),
  (22, (.ireturn, 1), 0, 0, 0, [], 0),
  (23, (.iload_n 2, 1), 2, 0, 0, [], 0),
  (24, (.ifCond .ne 12, 3), 36, 0, 0, [], 0),
  (27, (.aload_n 0, 1), 0, 0, 0, [], 0),
  (28, (.getfield 9, 3), 0, 1, 0, [1, 45], 0),
  (31, (.iload_n 1, 1), 1, 0, 0, [], 0),
  (32, (.iaload, 1), 20, 0, 0, [], 0),
  (33, (.goto 9, 3), 42, 0, 0, [], 0),
  (36, (.aload_n 0, 1), 0, 0, 0, [], 0),
  (37, (.getfield 15, 3), 0, 2, 0, [1, 46], 0),
  (40, (.iload_n 1, 1), 1, 0, 0, [], 0),
  (41, (.iaload, 1), 20, 0, 0, [], 0)]),
 (43, [(42, (.ireturn, 1), 0, 0, 0, [], 0)])]
/-- LampPresses$Book.copyFrom(LLampPresses$Book;)V -/
def lp_c3 : List (Nat × List lp_E) := [(39, [(0, (.aload_n 0, 1), 0, 0, 0, [], 0),
  (1, (.aload_n 1, 1), 1, 0, 0, [], 0),
  (2, (.getfield 18, 3), 0, 0, 0, [0, 42], 0),
  (5, (.putfield 18, 3), 0, 0, 0, [0, 42, 0], 0),
  (8, (.aload_n 1, 1), 1, 0, 0, [], 0),
  (9, (.getfield 9, 3), 0, 1, 0, [1, 45], 0),
  (12, (.iconst 0, 1), 0, 0, 0, [], 0),
  (13, (.aload_n 0, 1), 0, 0, 0, [], 0),
  (14, (.getfield 9, 3), 0, 1, 0, [1, 45], 0),
  (17, (.iconst 0, 1), 0, 0, 0, [], 0),
  (18, (.bipush 20, 2), 0, 0, 20, [], 0),
  (20, (.invokestatic 28, 3), 0, 5, 0, [6, 0, 2018], 0),
  (23, (.aload_n 1, 1), 1, 0, 0, [], 0),
  (24, (.getfield 15, 3), 0, 2, 0, [1, 46], 0),
  (27, (.iconst 0, 1), 0, 0, 0, [], 0),
  (28, (.aload_n 0, 1), 0, 0, 0, [], 0),
  (29, (.getfield 15, 3), 0, 2, 0, [1, 46], 0),
  (32, (.iconst 0, 1), 0, 0, 0, [], 0),
  (33, (.bipush 20, 2), 0, 0, 20, [], 0),
  (35, (.invokestatic 28, 3), 0, 5, 0, [6, 0, 2018], 0),
  (38, (.return_, 1), 0, 0, 0, [], 0)])]
/-- LampPresses$Levels.<init>()V -/
def lp_c4 : List (Nat × List lp_E) := [(48, [(0, (.aload_n 0, 1), 0, 0, 0, [], 0),
  (1, (.invokespecial 3, 3), 0, 1, 0, [5, 0, 234], 0),
  (4, (.aload_n 0, 1), 0, 0, 0, [], 0),
  (5, (.bipush 41, 2), 0, 0, 41, [], 0),
  (7, (.newarray .int, 2), 20, 0, 0, [], 0),
  (9, (.putfield 9, 3), 1, 3, 0, [1, 1001, 1], 0),
  (12, (.aload_n 0, 1), 0, 0, 0, [], 0),
  (13, (.bipush 10, 2), 0, 0, 10, [], 0),
  (15, (.newarray .int, 2), 20, 0, 0, [], 0),
  (17, (.putfield 15, 3), 1, 4, 0, [1, 1003, 1], 0),
  (20, (.aload_n 0, 1), 0, 0, 0, [], 0),
  (21, (.bipush 10, 2), 0, 0, 10, [], 0),
  (23, (.newarray .int, 2), 20, 0, 0, [], 0),
  (25, (.putfield 18, 3), 1, 5, 0, [1, 1005, 1], 0),
  (28, (.aload_n 0, 1), 0, 0, 0, [], 0),
  (29, (.bipush 10, 2), 0, 0, 10, [], 0),
  (31, (.newarray .int, 2), 20, 0, 0, [], 0),
  (33, (.putfield 21, 3), 1, 8, 0, [1, 1008, 1], 0),
  (36, (.aload_n 0, 1), 0, 0, 0, [], 0),
  (37, (.bipush 10, 2), 0, 0, 10, [], 0),
  (39, (.newarray .int, 2), 20, 0, 0, [], 0),
  (41, (.putfield 24, 3), 1, 9, 0, [1, 1009, 1], 0),
  (44, (.aload_n 0, 1), 0, 0, 0, [], 0),
  (45, (.new 27, 3), 6, 5, 0, [235], 0)]),
 (57, [(48, (.dup, 1), 0, 0, 0, [], 0),
  (49, (.iconst 0, 1), 0, 0, 0, [], 0),
  (50, (.invokespecial 29, 3), 54, 2, 0, [2, 0, 236], 0),
  (53, (.putfield 32, 3), 1, 10, 0, [1, 1010, 1], 0),
  (56, (.return_, 1), 0, 0, 0, [], 0)])]
/-- LampPresses$Levels.measure(LLampPresses$Net;LLampPresses$Solver;)V -/
def lp_c5 : List (Nat × List lp_E) := [(44, [(0, (.aload_n 0, 1), 0, 0, 0, [], 0),
  (1, (.aload_n 1, 1), 1, 0, 0, [], 0),
  (2, (.aload_n 2, 1), 2, 0, 0, [], 0),
  (3, (.invokevirtual 36, 3), 6, 3, 0, [0, 0, 3200], 0),
  (6, (.aload_n 1, 1), 1, 0, 0, [], 0),
  (7, (.getfield 40, 3), 3, 0, 0, [0, 57], 0),
  (10, (.aload_n 0, 1), 0, 0, 0, [], 0),
  (11, (.getfield 46, 3), 1, 6, 0, [0, 1006], 0),
  (14, (.invokestatic 49, 3), 160, 2, 0, [3, 1, 3212], 0),
  (17, (.istore_n 3, 1), 3, 0, 0, [], 0),
  (18, (.iconst 0, 1), 0, 0, 0, [], 0),
  (19, (.istore 4, 2), 4, 0, 0, [], 1),
  (21, (.iload 4, 2), 4, 0, 0, [], 0),
  (23, (.iload_n 3, 1), 3, 0, 0, [], 0),
  (24, (.if_icmp .ge 41, 3), 65, 0, 0, [], 0),
  (27, (.aload_n 0, 1), 0, 0, 0, [], 0),
  (28, (.getfield 32, 3), 1, 10, 0, [1, 1010], 0),
  (31, (.aload_n 2, 1), 2, 0, 0, [], 0),
  (32, (.aload_n 0, 1), 0, 0, 0, [], 0),
  (33, (.getfield 21, 3), 1, 8, 0, [1, 1008], 0),
  (36, (.invokevirtual 53, 3), 55, 3, 0, [0, 0, 3213], 0),
  (39, (.aload_n 0, 1), 0, 0, 0, [], 0),
  (40, (.aload_n 0, 1), 0, 0, 0, [], 0),
  (41, (.getfield 32, 3), 1, 10, 0, [1, 1010], 0)]),
 (96, [(44, (.getfield 57, 3), 6, 1, 0, [0, 212], 0),
  (47, (.aload_n 1, 1), 1, 0, 0, [], 0),
  (48, (.getfield 60, 3), 3, 1, 0, [0, 62], 0),
  (51, (.invokevirtual 63, 3), 7, 3, 0, [0, 0, 3214], 0),
  (54, (.aload_n 0, 1), 0, 0, 0, [], 0),
  (55, (.aload_n 1, 1), 1, 0, 0, [], 0),
  (56, (.invokevirtual 67, 3), 9, 2, 0, [0, 0, 3222], 0),
  (59, (.iinc 4 1, 3), 4, 0, 1, [], 0),
  (62, (.goto (-41), 3), 21, 0, 0, [], 2),
  (65, (.iconst 0, 1), 0, 0, 0, [], 0),
  (66, (.istore 4, 2), 4, 0, 0, [], 1),
  (68, (.iload 4, 2), 4, 0, 0, [], 0),
  (70, (.aload_n 0, 1), 0, 0, 0, [], 0),
  (71, (.getfield 71, 3), 1, 7, 0, [0, 1007], 0),
  (74, (.if_icmp .ge 17, 3), 91, 0, 0, [], 0),
  (77, (.aload_n 0, 1), 0, 0, 0, [], 0),
  (78, (.aload_n 1, 1), 1, 0, 0, [], 0),
  (79, (.getfield 40, 3), 3, 0, 0, [0, 57], 0),
  (82, (.invokevirtual 74, 3), 10, 2, 0, [0, 0, 3226], 0),
  (85, (.iinc 4 1, 3), 4, 0, 1, [], 0),
  (88, (.goto (-20), 3), 68, 0, 0, [], 2),
  (91, (.aload_n 0, 1), 0, 0, 0, [], 0),
  (92, (.dup, 1), 0, 0, 0, [], 0),
  (93, (.getfield 78, 3), 1, 2, 0, [0, 239], 0)]),
 (112, [(96, (.aload_n 0, 1), 0, 0, 0, [], 0),
  (97, (.getfield 71, 3), 1, 7, 0, [0, 1007], 0),
  (100, (.aload_n 1, 1), 1, 0, 0, [], 0),
  (101, (.getfield 40, 3), 3, 0, 0, [0, 57], 0),
  (104, (.iconst 1, 1), 0, 0, 1, [], 0),
  (105, (.isub, 1), 0, 0, 0, [], 0),
  (106, (.imul, 1), 0, 0, 0, [], 0),
  (107, (.iadd, 1), 0, 0, 0, [], 0),
  (108, (.putfield 78, 3), 1, 2, 0, [0, 239, 0], 0),
  (111, (.return_, 1), 0, 0, 0, [], 0)])]
def lp_c6_0 : List lp_E := [(0, (.aload_n 0, 1), 0, 0, 0, [], 0),
  (1, (.getfield 9, 3), 1, 3, 0, [1, 1001], 0),
  (4, (.iconst 0, 1), 0, 0, 0, [], 0),
  (5, (.invokestatic 81, 3), 291, 2, 0, [1, 0, 3204], 0),
  (8, (.aload_n 0, 1), 0, 0, 0, [], 0),
  (9, (.getfield 21, 3), 1, 8, 0, [1, 1008], 0),
  (12, (.iconst 0, 1), 0, 0, 0, [], 0),
  (13, (.invokestatic 81, 3), 291, 2, 0, [1, 0, 3204], 0),
  (16, (.aload_n 1, 1), 1, 0, 0, [], 0),
  (17, (.getfield 87, 3), 3, 3, 0, [1, 68], 0),
  (20, (.iconst 0, 1), 0, 0, 0, [], 0),
  (21, (.aload_n 0, 1), 0, 0, 0, [], 0),
  (22, (.getfield 24, 3), 1, 9, 0, [1, 1009], 0),
  (25, (.iconst 0, 1), 0, 0, 0, [], 0),
  (26, (.bipush 10, 2), 0, 0, 10, [], 0),
  (28, (.invokestatic 90, 3), 0, 5, 0, [6, 0, 3205], 0),
  (31, (.aload_n 0, 1), 0, 0, 0, [], 0),
  (32, (.iconst (-1), 1), 0, 0, (-1), [], 0),
  (33, (.putfield 78, 3), 1, 2, 0, [0, 239, 0], 0),
  (36, (.aload_n 0, 1), 0, 0, 0, [], 0),
  (37, (.iconst 0, 1), 0, 0, 0, [], 0),
  (38, (.putfield 46, 3), 1, 6, 0, [0, 1006, 0], 0),
  (41, (.aload_n 0, 1), 0, 0, 0, [], 0),
  (42, (.iconst 0, 1), 0, 0, 0, [], 0)]
def lp_c6_1 : List lp_E := [(43, (.putfield 71, 3), 1, 7, 0, [0, 1007, 0], 0),
  (46, (.iconst 0, 1), 0, 0, 0, [], 0),
  (47, (.istore_n 3, 1), 3, 0, 0, [], 1),
  (48, (.iload_n 3, 1), 3, 0, 0, [], 0),
  (49, (.aload_n 1, 1), 1, 0, 0, [], 0),
  (50, (.getfield 60, 3), 3, 1, 0, [0, 62], 0),
  (53, (.if_icmp .ge 88, 3), 141, 0, 0, [], 0),
  (56, (.aload_n 2, 1), 2, 0, 0, [], 0),
  (57, (.iload_n 3, 1), 3, 0, 0, [], 0),
  (58, (.invokevirtual 96, 3), 72, 2, 0, [0, 1, 3206], 0),
  (61, (.ifCond .eq 6, 3), 67, 0, 0, [], 0),
  (64, (.goto 71, 3), 135, 0, 0, [], 0),
  (67, (.aload_n 2, 1), 2, 0, 0, [], 0),
  (68, (.iload_n 3, 1), 3, 0, 0, [], 0),
  (69, (.invokevirtual 102, 3), 73, 2, 0, [0, 1, 3210], 0),
  (72, (.ifCond .eq 26, 3), 98, 0, 0, [], 0),
  (75, (.aload_n 0, 1), 0, 0, 0, [], 0),
  (76, (.getfield 18, 3), 1, 5, 0, [1, 1005], 0),
  (79, (.aload_n 0, 1), 0, 0, 0, [], 0),
  (80, (.getfield 46, 3), 1, 6, 0, [0, 1006], 0),
  (83, (.iload_n 3, 1), 3, 0, 0, [], 0),
  (84, (.iastore, 1), 0, 0, 0, [], 0),
  (85, (.aload_n 0, 1), 0, 0, 0, [], 0),
  (86, (.dup, 1), 0, 0, 0, [], 0)]
def lp_c6_2 : List lp_E := [(87, (.getfield 46, 3), 1, 6, 0, [0, 1006], 0),
  (90, (.iconst 1, 1), 0, 0, 1, [], 0),
  (91, (.iadd, 1), 0, 0, 0, [], 0),
  (92, (.putfield 46, 3), 1, 6, 0, [0, 1006, 0], 0),
  (95, (.goto 40, 3), 135, 0, 0, [], 0),
  (98, (.aload_n 0, 1), 0, 0, 0, [], 0),
  (99, (.dup, 1), 0, 0, 0, [], 0),
  (100, (.getfield 71, 3), 1, 7, 0, [0, 1007], 0),
  (103, (.iconst 1, 1), 0, 0, 1, [], 0),
  (104, (.iadd, 1), 0, 0, 0, [], 0),
  (105, (.putfield 71, 3), 1, 7, 0, [0, 1007, 0], 0),
  (108, (.iconst 1, 1), 0, 0, 1, [], 0),
  (109, (.istore 4, 2), 4, 0, 0, [], 1),
  (111, (.iload 4, 2), 4, 0, 0, [], 0),
  (113, (.aload_n 1, 1), 1, 0, 0, [], 0),
  (114, (.getfield 40, 3), 3, 0, 0, [0, 57], 0),
  (117, (.if_icmp .ge 18, 3), 135, 0, 0, [], 0),
  (120, (.aload_n 1, 1), 1, 0, 0, [], 0),
  (121, (.aload_n 0, 1), 0, 0, 0, [], 0),
  (122, (.getfield 24, 3), 1, 9, 0, [1, 1009], 0),
  (125, (.iload_n 3, 1), 3, 0, 0, [], 0),
  (126, (.invokevirtual 105, 3), 28, 3, 0, [0, 0, 3211], 0),
  (129, (.iinc 4 1, 3), 4, 0, 1, [], 0),
  (132, (.goto (-21), 3), 111, 0, 0, [], 2)]
def lp_c6_3 : List lp_E := [(135, (.iinc 3 1, 3), 3, 0, 1, [], 0),
  (138, (.goto (-90), 3), 48, 0, 0, [], 2),
  (141, (.return_, 1), 0, 0, 0, [], 0)]
/-- LampPresses$Levels.begin(LLampPresses$Net;LLampPresses$Solver;)V -/
def lp_c6 : List (Nat × List lp_E) := [(43, lp_c6_0), (87, lp_c6_1), (135, lp_c6_2), (142, lp_c6_3)]
/-- LampPresses$Levels.note(II)V -/
def lp_c7 : List (Nat × List lp_E) := [(39, [(0, (.iload_n 1, 1), 1, 0, 0, [], 0),
  (1, (.ifCond .lt 9, 3), 10, 0, 0, [], 0),
  (4, (.iload_n 1, 1), 1, 0, 0, [], 0),
  (5, (.bipush 41, 2), 0, 0, 41, [], 0),
  (7, (.if_icmp .lt 4, 3), 11, 0, 0, [], 0),
  (10, (.return_, 1), 0, 0, 0, [], 0),
  (11, (.aload_n 0, 1), 0, 0, 0, [], 0),
  (12, (.getfield 9, 3), 1, 3, 0, [1, 1001], 0),
  (15, (.iload_n 1, 1), 1, 0, 0, [], 0),
  (16, (.dup2, 1), 0, 0, 0, [], 0),
  (17, (.iaload, 1), 20, 0, 0, [], 0),
  (18, (.iconst 1, 1), 0, 0, 1, [], 0),
  (19, (.iadd, 1), 0, 0, 0, [], 0),
  (20, (.iastore, 1), 0, 0, 0, [], 0),
  (21, (.iload_n 1, 1), 1, 0, 0, [], 0),
  (22, (.aload_n 0, 1), 0, 0, 0, [], 0),
  (23, (.getfield 78, 3), 1, 2, 0, [0, 239], 0),
  (26, (.if_icmp .gt 19, 3), 45, 0, 0, [], 0),
  (29, (.iload_n 1, 1), 1, 0, 0, [], 0),
  (30, (.aload_n 0, 1), 0, 0, 0, [], 0),
  (31, (.getfield 78, 3), 1, 2, 0, [0, 239], 0),
  (34, (.if_icmp .ne 31, 3), 65, 0, 0, [], 0),
  (37, (.aload_n 0, 1), 0, 0, 0, [], 0),
  (38, (.iload_n 2, 1), 2, 0, 0, [], 0)]),
 (66, [(39, (.invokevirtual 108, 3), 8, 2, 0, [0, 1, 3218], 0),
  (42, (.ifCond .eq 23, 3), 65, 0, 0, [], 0),
  (45, (.aload_n 0, 1), 0, 0, 0, [], 0),
  (46, (.iload_n 1, 1), 1, 0, 0, [], 0),
  (47, (.putfield 78, 3), 1, 2, 0, [0, 239, 0], 0),
  (50, (.aload_n 0, 1), 0, 0, 0, [], 0),
  (51, (.getfield 24, 3), 1, 9, 0, [1, 1009], 0),
  (54, (.iconst 0, 1), 0, 0, 0, [], 0),
  (55, (.aload_n 0, 1), 0, 0, 0, [], 0),
  (56, (.getfield 15, 3), 1, 4, 0, [1, 1003], 0),
  (59, (.iconst 0, 1), 0, 0, 0, [], 0),
  (60, (.bipush 10, 2), 0, 0, 10, [], 0),
  (62, (.invokestatic 90, 3), 0, 5, 0, [6, 0, 3205], 0),
  (65, (.return_, 1), 0, 0, 0, [], 0)])]
/-- LampPresses$Levels.isAhead(I)Z -/
def lp_c8 : List (Nat × List lp_E) := [(38, [(0, (.iconst 0, 1), 0, 0, 0, [], 0),
  (1, (.istore_n 2, 1), 2, 0, 0, [], 1),
  (2, (.iload_n 2, 1), 2, 0, 0, [], 0),
  (3, (.iload_n 1, 1), 1, 0, 0, [], 0),
  (4, (.if_icmp .ge 45, 3), 49, 0, 0, [], 0),
  (7, (.aload_n 0, 1), 0, 0, 0, [], 0),
  (8, (.getfield 24, 3), 1, 9, 0, [1, 1009], 0),
  (11, (.iload_n 2, 1), 2, 0, 0, [], 0),
  (12, (.iaload, 1), 20, 0, 0, [], 0),
  (13, (.aload_n 0, 1), 0, 0, 0, [], 0),
  (14, (.getfield 15, 3), 1, 4, 0, [1, 1003], 0),
  (17, (.iload_n 2, 1), 2, 0, 0, [], 0),
  (18, (.iaload, 1), 20, 0, 0, [], 0),
  (19, (.if_icmp .eq 24, 3), 43, 0, 0, [], 0),
  (22, (.aload_n 0, 1), 0, 0, 0, [], 0),
  (23, (.getfield 24, 3), 1, 9, 0, [1, 1009], 0),
  (26, (.iload_n 2, 1), 2, 0, 0, [], 0),
  (27, (.iaload, 1), 20, 0, 0, [], 0),
  (28, (.aload_n 0, 1), 0, 0, 0, [], 0),
  (29, (.getfield 15, 3), 1, 4, 0, [1, 1003], 0),
  (32, (.iload_n 2, 1), 2, 0, 0, [], 0),
  (33, (.iaload, 1), 20, 0, 0, [], 0),
  (34, (.if_icmp .ge 7, 3), 41, 0, 0, [], 0),
  (37, (.iconst 1, 1), 0, 0, 1, [], 0)]),
 (51, [(38, (.goto 4, 3), 42, 0, 0, [], 0),
  (41, (.iconst 0, 1), 0, 0, 0, [], 0),
  (42, (.ireturn, 1), 1, 0, 0, [], 0),
  (43, (.iinc 2 1, 3), 2, 0, 1, [], 0),
  (46, (.goto (-44), 3), 2, 0, 0, [], 2),
  (49, (.iconst 0, 1), 0, 0, 0, [], 0),
  (50, (.ireturn, 1), 1, 0, 0, [], 0)])]
/-- LampPresses$Levels.turn(LLampPresses$Net;)V -/
def lp_c9 : List (Nat × List lp_E) := [(36, [(0, (.aload_n 0, 1), 0, 0, 0, [], 0),
  (1, (.getfield 46, 3), 1, 6, 0, [0, 1006], 0),
  (4, (.iconst 1, 1), 0, 0, 1, [], 0),
  (5, (.isub, 1), 0, 0, 0, [], 0),
  (6, (.istore_n 2, 1), 2, 0, 0, [], 1),
  (7, (.iload_n 2, 1), 2, 0, 0, [], 0),
  (8, (.ifCond .lt 56, 3), 64, 0, 0, [], 0),
  (11, (.aload_n 0, 1), 0, 0, 0, [], 0),
  (12, (.getfield 18, 3), 1, 5, 0, [1, 1005], 0),
  (15, (.iload_n 2, 1), 2, 0, 0, [], 0),
  (16, (.iaload, 1), 20, 0, 0, [], 0),
  (17, (.istore_n 3, 1), 3, 0, 0, [], 0),
  (18, (.aload_n 1, 1), 1, 0, 0, [], 0),
  (19, (.aload_n 0, 1), 0, 0, 0, [], 0),
  (20, (.getfield 24, 3), 1, 9, 0, [1, 1009], 0),
  (23, (.iload_n 3, 1), 3, 0, 0, [], 0),
  (24, (.invokevirtual 105, 3), 28, 3, 0, [0, 0, 3211], 0),
  (27, (.aload_n 0, 1), 0, 0, 0, [], 0),
  (28, (.getfield 21, 3), 1, 8, 0, [1, 1008], 0),
  (31, (.iload_n 3, 1), 3, 0, 0, [], 0),
  (32, (.dup2, 1), 0, 0, 0, [], 0),
  (33, (.iaload, 1), 20, 0, 0, [], 0),
  (34, (.iconst 1, 1), 0, 0, 1, [], 0),
  (35, (.iadd, 1), 0, 0, 0, [], 0)]),
 (65, [(36, (.iastore, 1), 0, 0, 0, [], 0),
  (37, (.aload_n 0, 1), 0, 0, 0, [], 0),
  (38, (.getfield 21, 3), 1, 8, 0, [1, 1008], 0),
  (41, (.iload_n 3, 1), 3, 0, 0, [], 0),
  (42, (.iaload, 1), 20, 0, 0, [], 0),
  (43, (.aload_n 1, 1), 1, 0, 0, [], 0),
  (44, (.getfield 40, 3), 3, 0, 0, [0, 57], 0),
  (47, (.if_icmp .ge 4, 3), 51, 0, 0, [], 0),
  (50, (.return_, 1), 0, 0, 0, [], 0),
  (51, (.aload_n 0, 1), 0, 0, 0, [], 0),
  (52, (.getfield 21, 3), 1, 8, 0, [1, 1008], 0),
  (55, (.iload_n 3, 1), 3, 0, 0, [], 0),
  (56, (.iconst 0, 1), 0, 0, 0, [], 0),
  (57, (.iastore, 1), 0, 0, 0, [], 0),
  (58, (.iinc 2 (-1), 3), 2, 0, (-1), [], 0),
  (61, (.goto (-54), 3), 7, 0, 0, [], 2),
  (64, (.return_, 1), 0, 0, 0, [], 0)])]
/-- LampPresses$Levels.spreadCounts(I)V -/
def lp_c10 : List (Nat × List lp_E) := [(39, [(0, (.bipush 40, 2), 0, 0, 40, [], 0),
  (2, (.istore_n 2, 1), 2, 0, 0, [], 1),
  (3, (.iload_n 2, 1), 2, 0, 0, [], 0),
  (4, (.ifCond .lt 51, 3), 55, 0, 0, [], 0),
  (7, (.iconst 0, 1), 0, 0, 0, [], 0),
  (8, (.istore_n 3, 1), 3, 0, 0, [], 0),
  (9, (.iconst 0, 1), 0, 0, 0, [], 0),
  (10, (.istore 4, 2), 4, 0, 0, [], 1),
  (12, (.iload 4, 2), 4, 0, 0, [], 0),
  (14, (.iload_n 1, 1), 1, 0, 0, [], 0),
  (15, (.if_icmp .ge 27, 3), 42, 0, 0, [], 0),
  (18, (.iload 4, 2), 4, 0, 0, [], 0),
  (20, (.iload_n 2, 1), 2, 0, 0, [], 0),
  (21, (.if_icmp .gt 21, 3), 42, 0, 0, [], 0),
  (24, (.iload_n 3, 1), 3, 0, 0, [], 0),
  (25, (.aload_n 0, 1), 0, 0, 0, [], 0),
  (26, (.getfield 9, 3), 1, 3, 0, [1, 1001], 0),
  (29, (.iload_n 2, 1), 2, 0, 0, [], 0),
  (30, (.iload 4, 2), 4, 0, 0, [], 0),
  (32, (.isub, 1), 0, 0, 0, [], 0),
  (33, (.iaload, 1), 20, 0, 0, [], 0),
  (34, (.iadd, 1), 0, 0, 0, [], 0),
  (35, (.istore_n 3, 1), 3, 0, 0, [], 0),
  (36, (.iinc 4 1, 3), 4, 0, 1, [], 0)]),
 (56, [(39, (.goto (-27), 3), 12, 0, 0, [], 2),
  (42, (.aload_n 0, 1), 0, 0, 0, [], 0),
  (43, (.getfield 9, 3), 1, 3, 0, [1, 1001], 0),
  (46, (.iload_n 2, 1), 2, 0, 0, [], 0),
  (47, (.iload_n 3, 1), 3, 0, 0, [], 0),
  (48, (.iastore, 1), 0, 0, 0, [], 0),
  (49, (.iinc 2 (-1), 3), 2, 0, (-1), [], 0),
  (52, (.goto (-49), 3), 3, 0, 0, [], 2),
  (55, (.return_, 1), 0, 0, 0, [], 0)])]
/-- LampPresses$Line.<init>(I)V -/
def lp_c11 : List (Nat × List lp_E) := [(16, [(0, (.aload_n 0, 1), 0, 0, 0, [], 0),
  (1, (.invokespecial 3, 3), 0, 1, 0, [5, 0, 1039], 0),
  (4, (.aload_n 0, 1), 0, 0, 0, [], 0),
  (5, (.iload_n 1, 1), 1, 0, 0, [], 0),
  (6, (.iconst 0, 1), 0, 0, 0, [], 0),
  (7, (.invokestatic 9, 3), 283, 2, 0, [7, 1, 1040], 0),
  (10, (.newarray .byte, 2), 21, 0, 0, [], 0),
  (12, (.putfield 15, 3), 2, 2, 0, [1, 1046, 1], 0),
  (15, (.return_, 1), 0, 0, 0, [], 0)])]
/-- LampPresses$Line.start()V -/
def lp_c12 : List (Nat × List lp_E) := [(11, [(0, (.aload_n 0, 1), 0, 0, 0, [], 0),
  (1, (.iconst 0, 1), 0, 0, 0, [], 0),
  (2, (.putfield 21, 3), 2, 1, 0, [0, 1045, 0], 0),
  (5, (.aload_n 0, 1), 0, 0, 0, [], 0),
  (6, (.iconst 1, 1), 0, 0, 1, [], 0),
  (7, (.putfield 25, 3), 2, 0, 0, [2, 1043, 0], 0),
  (10, (.return_, 1), 0, 0, 0, [], 0)])]
/-- LampPresses$Line.put(Ljava/lang/String;)V -/
def lp_c13 : List (Nat × List lp_E) := [(26, [(0, (.iconst 0, 1), 0, 0, 0, [], 0),
  (1, (.istore_n 2, 1), 2, 0, 0, [], 1),
  (2, (.iload_n 2, 1), 2, 0, 0, [], 0),
  (3, (.aload_n 1, 1), 1, 0, 0, [], 0),
  (4, (.invokevirtual 29, 3), 285, 1, 0, [0, 1, 4047], 0),
  (7, (.if_icmp .ge 18, 3), 25, 0, 0, [], 0),
  (10, (.aload_n 0, 1), 0, 0, 0, [], 0),
  (11, (.aload_n 1, 1), 1, 0, 0, [], 0),
  (12, (.iload_n 2, 1), 2, 0, 0, [], 0),
  (13, (.invokevirtual 34, 3), 286, 2, 0, [0, 1, 4048], 0),
  (16, (.invokevirtual 38, 3), 15, 2, 0, [0, 0, 4049], 0),
  (19, (.iinc 2 1, 3), 2, 0, 1, [], 0),
  (22, (.goto (-20), 3), 2, 0, 0, [], 2),
  (25, (.return_, 1), 0, 0, 0, [], 0)])]
/-- LampPresses$Line.put(Ljava/lang/String;I)V -/
def lp_c14 : List (Nat × List lp_E) := [(37, [(0, (.aload_n 0, 1), 0, 0, 0, [], 0),
  (1, (.aload_n 1, 1), 1, 0, 0, [], 0),
  (2, (.invokevirtual 42, 3), 13, 2, 0, [0, 0, 4043], 0),
  (5, (.iload_n 2, 1), 2, 0, 0, [], 0),
  (6, (.bipush 10, 2), 0, 0, 10, [], 0),
  (8, (.if_icmp .lt 17, 3), 25, 0, 0, [], 0),
  (11, (.aload_n 0, 1), 0, 0, 0, [], 0),
  (12, (.bipush 48, 2), 0, 0, 48, [], 0),
  (14, (.iload_n 2, 1), 2, 0, 0, [], 0),
  (15, (.bipush 10, 2), 0, 0, 10, [], 0),
  (17, (.idiv, 1), 0, 0, 0, [], 0),
  (18, (.bipush 10, 2), 0, 0, 10, [], 0),
  (20, (.irem, 1), 0, 0, 0, [], 0),
  (21, (.iadd, 1), 0, 0, 0, [], 0),
  (22, (.invokevirtual 38, 3), 15, 2, 0, [0, 0, 4049], 0),
  (25, (.aload_n 0, 1), 0, 0, 0, [], 0),
  (26, (.bipush 48, 2), 0, 0, 48, [], 0),
  (28, (.iload_n 2, 1), 2, 0, 0, [], 0),
  (29, (.bipush 10, 2), 0, 0, 10, [], 0),
  (31, (.irem, 1), 0, 0, 0, [], 0),
  (32, (.iadd, 1), 0, 0, 0, [], 0),
  (33, (.invokevirtual 38, 3), 15, 2, 0, [0, 0, 4049], 0),
  (36, (.return_, 1), 0, 0, 0, [], 0)])]
/-- LampPresses$Line.putByte(I)V -/
def lp_c15 : List (Nat × List lp_E) := [(34, [(0, (.aload_n 0, 1), 0, 0, 0, [], 0),
  (1, (.getfield 21, 3), 2, 1, 0, [0, 1045], 0),
  (4, (.aload_n 0, 1), 0, 0, 0, [], 0),
  (5, (.getfield 15, 3), 2, 2, 0, [1, 1046], 0),
  (8, (.arraylength, 1), 21, 0, 0, [], 0),
  (9, (.if_icmp .ge 24, 3), 33, 0, 0, [], 0),
  (12, (.aload_n 0, 1), 0, 0, 0, [], 0),
  (13, (.getfield 15, 3), 2, 2, 0, [1, 1046], 0),
  (16, (.aload_n 0, 1), 0, 0, 0, [], 0),
  (17, (.getfield 21, 3), 2, 1, 0, [0, 1045], 0),
  (20, (.iload_n 1, 1), 1, 0, 0, [], 0),
  (21, (.i2b, 1), 0, 0, 0, [], 0),
  (22, (.bastore, 1), 21, 0, 0, [], 0),
  (23, (.aload_n 0, 1), 0, 0, 0, [], 0),
  (24, (.dup, 1), 0, 0, 0, [], 0),
  (25, (.getfield 21, 3), 2, 1, 0, [0, 1045], 0),
  (28, (.iconst 1, 1), 0, 0, 1, [], 0),
  (29, (.iadd, 1), 0, 0, 0, [], 0),
  (30, (.putfield 21, 3), 2, 1, 0, [0, 1045, 0], 0),
  (33, (.return_, 1), 0, 0, 0, [], 0)])]
/-- LampPresses$Line.answer(I)I -/
def lp_c16 : List (Nat × List lp_E) := [(37, [(0, (.iload_n 1, 1), 1, 0, 0, [], 0),
  (1, (.iconst (-1), 1), 0, 0, (-1), [], 0),
  (2, (.if_icmp .ge 5, 3), 7, 0, 0, [], 0),
  (5, (.iconst (-1), 1), 0, 0, (-1), [], 0),
  (6, (.ireturn, 1), 0, 0, 0, [], 0),
  (7, (.iload_n 1, 1), 1, 0, 0, [], 0),
  (8, (.iconst (-1), 1), 0, 0, (-1), [], 0),
  (9, (.if_icmp .ne 8, 3), 17, 0, 0, [], 0),
  (12, (.aload_n 0, 1), 0, 0, 0, [], 0),
  (13, (.getfield 21, 3), 2, 1, 0, [0, 1045], 0),
  (16, (.ireturn, 1), 0, 0, 0, [], 0),
  (17, (.iload_n 1, 1), 1, 0, 0, [], 0),
  (18, (.aload_n 0, 1), 0, 0, 0, [], 0),
  (19, (.getfield 21, 3), 2, 1, 0, [0, 1045], 0),
  (22, (.if_icmp .ge 12, 3), 34, 0, 0, [], 0),
  (25, (.aload_n 0, 1), 0, 0, 0, [], 0),
  (26, (.getfield 15, 3), 2, 2, 0, [1, 1046], 0),
  (29, (.iload_n 1, 1), 1, 0, 0, [], 0),
  (30, (.baload, 1), 21, 0, 0, [], 0),
  (31, (.goto 5, 3), 36, 0, 0, [], 0),
  (34, (.bipush (-2), 2), 0, 0, (-2), [], 0),
  (36, (.ireturn, 1), 0, 0, 0, [], 0)])]
/-- LampPresses$Net.<init>()V -/
def lp_c17 : List (Nat × List lp_E) := [(49, [(0, (.aload_n 0, 1), 0, 0, 0, [], 0),
  (1, (.invokespecial 3, 3), 0, 1, 0, [5, 0, 33], 0),
  (4, (.aload_n 0, 1), 0, 0, 0, [], 0),
  (5, (.iconst 2, 1), 0, 0, 2, [], 0),
  (6, (.putfield 9, 3), 3, 0, 0, [0, 55, 0], 0),
  (9, (.aload_n 0, 1), 0, 0, 0, [], 0),
  (10, (.bipush 10, 2), 0, 0, 10, [], 0),
  (12, (.newarray .int, 2), 20, 0, 0, [], 0),
  (14, (.putfield 15, 3), 3, 3, 0, [1, 67, 1], 0),
  (17, (.aload_n 0, 1), 0, 0, 0, [], 0),
  (18, (.bipush 10, 2), 0, 0, 10, [], 0),
  (20, (.newarray .int, 2), 20, 0, 0, [], 0),
  (22, (.putfield 19, 3), 3, 4, 0, [1, 70, 1], 0),
  (25, (.aload_n 0, 1), 0, 0, 0, [], 0),
  (26, (.bipush 10, 2), 0, 0, 10, [], 0),
  (28, (.bipush 10, 2), 0, 0, 10, [], 0),
  (30, (.multianewarray 22 2, 4), 23, 0, 0, [34], 0),
  (34, (.putfield 24, 3), 3, 5, 0, [1, 72, 1], 0),
  (37, (.aload_n 0, 1), 0, 0, 0, [], 0),
  (38, (.new 27, 3), 0, 3, 0, [36], 0),
  (41, (.dup, 1), 0, 0, 0, [], 0),
  (42, (.invokespecial 29, 3), 0, 1, 0, [4, 0, 38], 0),
  (45, (.putfield 30, 3), 3, 6, 0, [1, 76, 1], 0),
  (48, (.return_, 1), 0, 0, 0, [], 0)])]
/-- LampPresses$Net.has(I)Z -/
def lp_c18 : List (Nat × List lp_E) := [(18, [(0, (.iload_n 1, 1), 1, 0, 0, [], 0),
  (1, (.ifCond .lt 15, 3), 16, 0, 0, [], 0),
  (4, (.iload_n 1, 1), 1, 0, 0, [], 0),
  (5, (.aload_n 0, 1), 0, 0, 0, [], 0),
  (6, (.getfield 34, 3), 3, 1, 0, [0, 60], 0),
  (9, (.if_icmp .ge 7, 3), 16, 0, 0, [], 0),
  (12, (.iconst 1, 1), 0, 0, 1, [], 0),
  (13, (.goto 4, 3), 17, 0, 0, [], 0),
  (16, (.iconst 0, 1), 0, 0, 0, [], 0),
  (17, (.ireturn, 1), 1, 0, 0, [], 0)])]
/-- LampPresses$Net.isState(I)Z -/
def lp_c19 : List (Nat × List lp_E) := [(18, [(0, (.iload_n 1, 1), 1, 0, 0, [], 0),
  (1, (.ifCond .lt 15, 3), 16, 0, 0, [], 0),
  (4, (.iload_n 1, 1), 1, 0, 0, [], 0),
  (5, (.aload_n 0, 1), 0, 0, 0, [], 0),
  (6, (.getfield 9, 3), 3, 0, 0, [0, 55], 0),
  (9, (.if_icmp .ge 7, 3), 16, 0, 0, [], 0),
  (12, (.iconst 1, 1), 0, 0, 1, [], 0),
  (13, (.goto 4, 3), 17, 0, 0, [], 0),
  (16, (.iconst 0, 1), 0, 0, 0, [], 0),
  (17, (.ireturn, 1), 1, 0, 0, [], 0)])]
/-- LampPresses$Net.empty()V -/
def lp_c20 : List (Nat × List lp_E) := [(24, [(0, (.aload_n 0, 1), 0, 0, 0, [], 0),
  (1, (.iconst 2, 1), 0, 0, 2, [], 0),
  (2, (.putfield 9, 3), 3, 0, 0, [0, 55, 0], 0),
  (5, (.aload_n 0, 1), 0, 0, 0, [], 0),
  (6, (.iconst 0, 1), 0, 0, 0, [], 0),
  (7, (.putfield 34, 3), 3, 1, 0, [0, 60, 0], 0),
  (10, (.aload_n 0, 1), 0, 0, 0, [], 0),
  (11, (.iconst 0, 1), 0, 0, 0, [], 0),
  (12, (.putfield 37, 3), 3, 2, 0, [0, 65, 0], 0),
  (15, (.aload_n 0, 1), 0, 0, 0, [], 0),
  (16, (.getfield 30, 3), 3, 6, 0, [1, 76], 0),
  (19, (.iconst 0, 1), 0, 0, 0, [], 0),
  (20, (.putfield 40, 3), 0, 0, 0, [0, 43, 0], 0),
  (23, (.return_, 1), 0, 0, 0, [], 0)])]
/-- LampPresses$Net.copyFrom(LLampPresses$Net;)V -/
def lp_c21 : List (Nat × List lp_E) := [(45, [(0, (.aload_n 0, 1), 0, 0, 0, [], 0),
  (1, (.aload_n 1, 1), 1, 0, 0, [], 0),
  (2, (.getfield 9, 3), 3, 0, 0, [0, 55], 0),
  (5, (.putfield 9, 3), 3, 0, 0, [0, 55, 0], 0),
  (8, (.aload_n 0, 1), 0, 0, 0, [], 0),
  (9, (.aload_n 1, 1), 1, 0, 0, [], 0),
  (10, (.getfield 34, 3), 3, 1, 0, [0, 60], 0),
  (13, (.putfield 34, 3), 3, 1, 0, [0, 60, 0], 0),
  (16, (.aload_n 0, 1), 0, 0, 0, [], 0),
  (17, (.aload_n 1, 1), 1, 0, 0, [], 0),
  (18, (.getfield 37, 3), 3, 2, 0, [0, 65], 0),
  (21, (.putfield 37, 3), 3, 2, 0, [0, 65, 0], 0),
  (24, (.aload_n 1, 1), 1, 0, 0, [], 0),
  (25, (.getfield 15, 3), 3, 3, 0, [1, 67], 0),
  (28, (.iconst 0, 1), 0, 0, 0, [], 0),
  (29, (.aload_n 0, 1), 0, 0, 0, [], 0),
  (30, (.getfield 15, 3), 3, 3, 0, [1, 67], 0),
  (33, (.iconst 0, 1), 0, 0, 0, [], 0),
  (34, (.bipush 10, 2), 0, 0, 10, [], 0),
  (36, (.invokestatic 43, 3), 0, 5, 0, [6, 0, 2011], 0),
  (39, (.aload_n 1, 1), 1, 0, 0, [], 0),
  (40, (.getfield 19, 3), 3, 4, 0, [1, 70], 0),
  (43, (.iconst 0, 1), 0, 0, 0, [], 0),
  (44, (.aload_n 0, 1), 0, 0, 0, [], 0)]),
 (88, [(45, (.getfield 19, 3), 3, 4, 0, [1, 70], 0),
  (48, (.iconst 0, 1), 0, 0, 0, [], 0),
  (49, (.bipush 10, 2), 0, 0, 10, [], 0),
  (51, (.invokestatic 43, 3), 0, 5, 0, [6, 0, 2011], 0),
  (54, (.iconst 0, 1), 0, 0, 0, [], 0),
  (55, (.istore_n 2, 1), 2, 0, 0, [], 1),
  (56, (.iload_n 2, 1), 2, 0, 0, [], 0),
  (57, (.bipush 10, 2), 0, 0, 10, [], 0),
  (59, (.if_icmp .ge 28, 3), 87, 0, 0, [], 0),
  (62, (.aload_n 1, 1), 1, 0, 0, [], 0),
  (63, (.getfield 24, 3), 3, 5, 0, [1, 72], 0),
  (66, (.iload_n 2, 1), 2, 0, 0, [], 0),
  (67, (.aaload, 1), 23, 0, 0, [], 0),
  (68, (.iconst 0, 1), 0, 0, 0, [], 0),
  (69, (.aload_n 0, 1), 0, 0, 0, [], 0),
  (70, (.getfield 24, 3), 3, 5, 0, [1, 72], 0),
  (73, (.iload_n 2, 1), 2, 0, 0, [], 0),
  (74, (.aaload, 1), 23, 0, 0, [], 0),
  (75, (.iconst 0, 1), 0, 0, 0, [], 0),
  (76, (.bipush 10, 2), 0, 0, 10, [], 0),
  (78, (.invokestatic 43, 3), 0, 5, 0, [6, 0, 2011], 0),
  (81, (.iinc 2 1, 3), 2, 0, 1, [], 0),
  (84, (.goto (-28), 3), 56, 0, 0, [], 2),
  (87, (.aload_n 0, 1), 0, 0, 0, [], 0)]),
 (99, [(88, (.getfield 30, 3), 3, 6, 0, [1, 76], 0),
  (91, (.aload_n 1, 1), 1, 0, 0, [], 0),
  (92, (.getfield 30, 3), 3, 6, 0, [1, 76], 0),
  (95, (.invokevirtual 49, 3), 3, 2, 0, [0, 0, 2014], 0),
  (98, (.return_, 1), 0, 0, 0, [], 0)])]
/-- LampPresses$Net.add(III)V -/
def lp_c22 : List (Nat × List lp_E) := [(42, [(0, (.aload_n 0, 1), 0, 0, 0, [], 0),
  (1, (.getfield 34, 3), 3, 1, 0, [0, 60], 0),
  (4, (.bipush 10, 2), 0, 0, 10, [], 0),
  (6, (.if_icmp .lt 4, 3), 10, 0, 0, [], 0),
  (9, (.return_, 1), 0, 0, 0, [], 0),
  (10, (.aload_n 0, 1), 0, 0, 0, [], 0),
  (11, (.getfield 34, 3), 3, 1, 0, [0, 60], 0),
  (14, (.istore 4, 2), 4, 0, 0, [], 0),
  (16, (.aload_n 0, 1), 0, 0, 0, [], 0),
  (17, (.dup, 1), 0, 0, 0, [], 0),
  (18, (.getfield 34, 3), 3, 1, 0, [0, 60], 0),
  (21, (.iconst 1, 1), 0, 0, 1, [], 0),
  (22, (.iadd, 1), 0, 0, 0, [], 0),
  (23, (.putfield 34, 3), 3, 1, 0, [0, 60, 0], 0),
  (26, (.aload_n 0, 1), 0, 0, 0, [], 0),
  (27, (.getfield 15, 3), 3, 3, 0, [1, 67], 0),
  (30, (.iload 4, 2), 4, 0, 0, [], 0),
  (32, (.iload_n 1, 1), 1, 0, 0, [], 0),
  (33, (.iastore, 1), 0, 0, 0, [], 0),
  (34, (.aload_n 0, 1), 0, 0, 0, [], 0),
  (35, (.getfield 19, 3), 3, 4, 0, [1, 70], 0),
  (38, (.iload 4, 2), 4, 0, 0, [], 0),
  (40, (.iload_n 3, 1), 3, 0, 0, [], 0),
  (41, (.iastore, 1), 0, 0, 0, [], 0)]),
 (79, [(42, (.iconst 0, 1), 0, 0, 0, [], 0),
  (43, (.istore 5, 2), 5, 0, 0, [], 1),
  (45, (.iload 5, 2), 5, 0, 0, [], 0),
  (47, (.iload 4, 2), 4, 0, 0, [], 0),
  (49, (.if_icmp .ge 18, 3), 67, 0, 0, [], 0),
  (52, (.aload_n 0, 1), 0, 0, 0, [], 0),
  (53, (.iload 5, 2), 5, 0, 0, [], 0),
  (55, (.iload 4, 2), 4, 0, 0, [], 0),
  (57, (.iconst 0, 1), 0, 0, 0, [], 0),
  (58, (.invokevirtual 53, 3), 24, 4, 0, [0, 0, 1232], 0),
  (61, (.iinc 5 1, 3), 5, 0, 1, [], 0),
  (64, (.goto (-19), 3), 45, 0, 0, [], 2),
  (67, (.aload_n 0, 1), 0, 0, 0, [], 0),
  (68, (.getfield 24, 3), 3, 5, 0, [1, 72], 0),
  (71, (.iload 4, 2), 4, 0, 0, [], 0),
  (73, (.aaload, 1), 23, 0, 0, [], 0),
  (74, (.iload 4, 2), 4, 0, 0, [], 0),
  (76, (.iload_n 2, 1), 2, 0, 0, [], 0),
  (77, (.iastore, 1), 0, 0, 0, [], 0),
  (78, (.return_, 1), 0, 0, 0, [], 0)])]
/-- LampPresses$Net.remove(I)V -/
def lp_c23 : List (Nat × List lp_E) := [(37, [(0, (.iload_n 1, 1), 1, 0, 0, [], 0),
  (1, (.istore_n 2, 1), 2, 0, 0, [], 1),
  (2, (.iload_n 2, 1), 2, 0, 0, [], 0),
  (3, (.aload_n 0, 1), 0, 0, 0, [], 0),
  (4, (.getfield 34, 3), 3, 1, 0, [0, 60], 0),
  (7, (.iconst 1, 1), 0, 0, 1, [], 0),
  (8, (.isub, 1), 0, 0, 0, [], 0),
  (9, (.if_icmp .ge 17, 3), 26, 0, 0, [], 0),
  (12, (.aload_n 0, 1), 0, 0, 0, [], 0),
  (13, (.iload_n 2, 1), 2, 0, 0, [], 0),
  (14, (.iload_n 2, 1), 2, 0, 0, [], 0),
  (15, (.iconst 1, 1), 0, 0, 1, [], 0),
  (16, (.iadd, 1), 0, 0, 0, [], 0),
  (17, (.invokevirtual 57, 3), 25, 3, 0, [0, 0, 2057], 0),
  (20, (.iinc 2 1, 3), 2, 0, 1, [], 0),
  (23, (.goto (-21), 3), 2, 0, 0, [], 2),
  (26, (.aload_n 0, 1), 0, 0, 0, [], 0),
  (27, (.dup, 1), 0, 0, 0, [], 0),
  (28, (.getfield 34, 3), 3, 1, 0, [0, 60], 0),
  (31, (.iconst 1, 1), 0, 0, 1, [], 0),
  (32, (.isub, 1), 0, 0, 0, [], 0),
  (33, (.putfield 34, 3), 3, 1, 0, [0, 60, 0], 0),
  (36, (.return_, 1), 0, 0, 0, [], 0)])]
/-- LampPresses$Net.join(III)V -/
def lp_c24 : List (Nat × List lp_E) := [(19, [(0, (.aload_n 0, 1), 0, 0, 0, [], 0),
  (1, (.getfield 24, 3), 3, 5, 0, [1, 72], 0),
  (4, (.iload_n 1, 1), 1, 0, 0, [], 0),
  (5, (.aaload, 1), 23, 0, 0, [], 0),
  (6, (.iload_n 2, 1), 2, 0, 0, [], 0),
  (7, (.iload_n 3, 1), 3, 0, 0, [], 0),
  (8, (.iastore, 1), 0, 0, 0, [], 0),
  (9, (.aload_n 0, 1), 0, 0, 0, [], 0),
  (10, (.getfield 24, 3), 3, 5, 0, [1, 72], 0),
  (13, (.iload_n 2, 1), 2, 0, 0, [], 0),
  (14, (.aaload, 1), 23, 0, 0, [], 0),
  (15, (.iload_n 1, 1), 1, 0, 0, [], 0),
  (16, (.iload_n 3, 1), 3, 0, 0, [], 0),
  (17, (.iastore, 1), 0, 0, 0, [], 0),
  (18, (.return_, 1), 0, 0, 0, [], 0)])]
/-- LampPresses$Net.exchange(II)V -/
def lp_c25 : List (Nat × List lp_E) := [(42, [(0, (.aload_n 0, 1), 0, 0, 0, [], 0),
  (1, (.getfield 15, 3), 3, 3, 0, [1, 67], 0),
  (4, (.iload_n 1, 1), 1, 0, 0, [], 0),
  (5, (.iload_n 2, 1), 2, 0, 0, [], 0),
  (6, (.invokestatic 61, 3), 26, 3, 0, [1, 0, 2061], 0),
  (9, (.aload_n 0, 1), 0, 0, 0, [], 0),
  (10, (.getfield 19, 3), 3, 4, 0, [1, 70], 0),
  (13, (.iload_n 1, 1), 1, 0, 0, [], 0),
  (14, (.iload_n 2, 1), 2, 0, 0, [], 0),
  (15, (.invokestatic 61, 3), 26, 3, 0, [1, 0, 2061], 0),
  (18, (.iconst 0, 1), 0, 0, 0, [], 0),
  (19, (.istore_n 3, 1), 3, 0, 0, [], 1),
  (20, (.iload_n 3, 1), 3, 0, 0, [], 0),
  (21, (.aload_n 0, 1), 0, 0, 0, [], 0),
  (22, (.getfield 34, 3), 3, 1, 0, [0, 60], 0),
  (25, (.if_icmp .ge 20, 3), 45, 0, 0, [], 0),
  (28, (.aload_n 0, 1), 0, 0, 0, [], 0),
  (29, (.getfield 24, 3), 3, 5, 0, [1, 72], 0),
  (32, (.iload_n 3, 1), 3, 0, 0, [], 0),
  (33, (.aaload, 1), 23, 0, 0, [], 0),
  (34, (.iload_n 1, 1), 1, 0, 0, [], 0),
  (35, (.iload_n 2, 1), 2, 0, 0, [], 0),
  (36, (.invokestatic 61, 3), 26, 3, 0, [1, 0, 2061], 0),
  (39, (.iinc 3 1, 3), 3, 0, 1, [], 0)]),
 (79, [(42, (.goto (-22), 3), 20, 0, 0, [], 2),
  (45, (.iconst 0, 1), 0, 0, 0, [], 0),
  (46, (.istore_n 3, 1), 3, 0, 0, [], 1),
  (47, (.iload_n 3, 1), 3, 0, 0, [], 0),
  (48, (.aload_n 0, 1), 0, 0, 0, [], 0),
  (49, (.getfield 34, 3), 3, 1, 0, [0, 60], 0),
  (52, (.if_icmp .ge 45, 3), 97, 0, 0, [], 0),
  (55, (.aload_n 0, 1), 0, 0, 0, [], 0),
  (56, (.getfield 24, 3), 3, 5, 0, [1, 72], 0),
  (59, (.iload_n 1, 1), 1, 0, 0, [], 0),
  (60, (.aaload, 1), 23, 0, 0, [], 0),
  (61, (.iload_n 3, 1), 3, 0, 0, [], 0),
  (62, (.iaload, 1), 20, 0, 0, [], 0),
  (63, (.istore 4, 2), 4, 0, 0, [], 0),
  (65, (.aload_n 0, 1), 0, 0, 0, [], 0),
  (66, (.getfield 24, 3), 3, 5, 0, [1, 72], 0),
  (69, (.iload_n 1, 1), 1, 0, 0, [], 0),
  (70, (.aaload, 1), 23, 0, 0, [], 0),
  (71, (.iload_n 3, 1), 3, 0, 0, [], 0),
  (72, (.aload_n 0, 1), 0, 0, 0, [], 0),
  (73, (.getfield 24, 3), 3, 5, 0, [1, 72], 0),
  (76, (.iload_n 2, 1), 2, 0, 0, [], 0),
  (77, (.aaload, 1), 23, 0, 0, [], 0),
  (78, (.iload_n 3, 1), 3, 0, 0, [], 0)]),
 (98, [(79, (.iaload, 1), 20, 0, 0, [], 0),
  (80, (.iastore, 1), 0, 0, 0, [], 0),
  (81, (.aload_n 0, 1), 0, 0, 0, [], 0),
  (82, (.getfield 24, 3), 3, 5, 0, [1, 72], 0),
  (85, (.iload_n 2, 1), 2, 0, 0, [], 0),
  (86, (.aaload, 1), 23, 0, 0, [], 0),
  (87, (.iload_n 3, 1), 3, 0, 0, [], 0),
  (88, (.iload 4, 2), 4, 0, 0, [], 0),
  (90, (.iastore, 1), 0, 0, 0, [], 0),
  (91, (.iinc 3 1, 3), 3, 0, 1, [], 0),
  (94, (.goto (-47), 3), 47, 0, 0, [], 2),
  (97, (.return_, 1), 0, 0, 0, [], 0)])]
/-- LampPresses$Net.exchangeIn([III)V -/
def lp_c26 : List (Nat × List lp_E) := [(15, [(0, (.aload_n 0, 1), 0, 0, 0, [], 0),
  (1, (.iload_n 1, 1), 1, 0, 0, [], 0),
  (2, (.iaload, 1), 20, 0, 0, [], 0),
  (3, (.istore_n 3, 1), 3, 0, 0, [], 0),
  (4, (.aload_n 0, 1), 0, 0, 0, [], 0),
  (5, (.iload_n 1, 1), 1, 0, 0, [], 0),
  (6, (.aload_n 0, 1), 0, 0, 0, [], 0),
  (7, (.iload_n 2, 1), 2, 0, 0, [], 0),
  (8, (.iaload, 1), 20, 0, 0, [], 0),
  (9, (.iastore, 1), 0, 0, 0, [], 0),
  (10, (.aload_n 0, 1), 0, 0, 0, [], 0),
  (11, (.iload_n 2, 1), 2, 0, 0, [], 0),
  (12, (.iload_n 3, 1), 3, 0, 0, [], 0),
  (13, (.iastore, 1), 0, 0, 0, [], 0),
  (14, (.return_, 1), 0, 0, 0, [], 0)])]
/-- LampPresses$Net.pressLamp(II)V -/
def lp_c27 : List (Nat × List lp_E) := [(36, [(0, (.iconst 0, 1), 0, 0, 0, [], 0),
  (1, (.istore_n 3, 1), 3, 0, 0, [], 1),
  (2, (.iload_n 3, 1), 3, 0, 0, [], 0),
  (3, (.aload_n 0, 1), 0, 0, 0, [], 0),
  (4, (.getfield 34, 3), 3, 1, 0, [0, 60], 0),
  (7, (.if_icmp .ge 39, 3), 46, 0, 0, [], 0),
  (10, (.aload_n 0, 1), 0, 0, 0, [], 0),
  (11, (.getfield 15, 3), 3, 3, 0, [1, 67], 0),
  (14, (.iload_n 3, 1), 3, 0, 0, [], 0),
  (15, (.aload_n 0, 1), 0, 0, 0, [], 0),
  (16, (.getfield 15, 3), 3, 3, 0, [1, 67], 0),
  (19, (.iload_n 3, 1), 3, 0, 0, [], 0),
  (20, (.iaload, 1), 20, 0, 0, [], 0),
  (21, (.iload_n 2, 1), 2, 0, 0, [], 0),
  (22, (.aload_n 0, 1), 0, 0, 0, [], 0),
  (23, (.getfield 24, 3), 3, 5, 0, [1, 72], 0),
  (26, (.iload_n 1, 1), 1, 0, 0, [], 0),
  (27, (.aaload, 1), 23, 0, 0, [], 0),
  (28, (.iload_n 3, 1), 3, 0, 0, [], 0),
  (29, (.iaload, 1), 20, 0, 0, [], 0),
  (30, (.imul, 1), 0, 0, 0, [], 0),
  (31, (.iadd, 1), 0, 0, 0, [], 0),
  (32, (.aload_n 0, 1), 0, 0, 0, [], 0),
  (33, (.getfield 9, 3), 3, 0, 0, [0, 55], 0)]),
 (66, [(36, (.invokestatic 65, 3), 159, 2, 0, [3, 1, 2097], 0),
  (39, (.iastore, 1), 0, 0, 0, [], 0),
  (40, (.iinc 3 1, 3), 3, 0, 1, [], 0),
  (43, (.goto (-41), 3), 2, 0, 0, [], 2),
  (46, (.aload_n 0, 1), 0, 0, 0, [], 0),
  (47, (.dup, 1), 0, 0, 0, [], 0),
  (48, (.getfield 37, 3), 3, 2, 0, [0, 65], 0),
  (51, (.iload_n 2, 1), 2, 0, 0, [], 0),
  (52, (.iadd, 1), 0, 0, 0, [], 0),
  (53, (.putfield 37, 3), 3, 2, 0, [0, 65, 0], 0),
  (56, (.aload_n 0, 1), 0, 0, 0, [], 0),
  (57, (.getfield 30, 3), 3, 6, 0, [1, 76], 0),
  (60, (.iload_n 1, 1), 1, 0, 0, [], 0),
  (61, (.iload_n 2, 1), 2, 0, 0, [], 0),
  (62, (.invokevirtual 69, 3), 1, 3, 0, [0, 0, 2100], 0),
  (65, (.return_, 1), 0, 0, 0, [], 0)])]
/-- LampPresses$Net.stepOnce([II)V -/
def lp_c28 : List (Nat × List lp_E) := [(38, [(0, (.iconst 0, 1), 0, 0, 0, [], 0),
  (1, (.istore_n 3, 1), 3, 0, 0, [], 1),
  (2, (.iload_n 3, 1), 3, 0, 0, [], 0),
  (3, (.aload_n 0, 1), 0, 0, 0, [], 0),
  (4, (.getfield 34, 3), 3, 1, 0, [0, 60], 0),
  (7, (.if_icmp .ge 31, 3), 38, 0, 0, [], 0),
  (10, (.aload_n 1, 1), 1, 0, 0, [], 0),
  (11, (.iload_n 3, 1), 3, 0, 0, [], 0),
  (12, (.aload_n 1, 1), 1, 0, 0, [], 0),
  (13, (.iload_n 3, 1), 3, 0, 0, [], 0),
  (14, (.iaload, 1), 20, 0, 0, [], 0),
  (15, (.aload_n 0, 1), 0, 0, 0, [], 0),
  (16, (.getfield 24, 3), 3, 5, 0, [1, 72], 0),
  (19, (.iload_n 2, 1), 2, 0, 0, [], 0),
  (20, (.aaload, 1), 23, 0, 0, [], 0),
  (21, (.iload_n 3, 1), 3, 0, 0, [], 0),
  (22, (.iaload, 1), 20, 0, 0, [], 0),
  (23, (.iadd, 1), 0, 0, 0, [], 0),
  (24, (.aload_n 0, 1), 0, 0, 0, [], 0),
  (25, (.getfield 9, 3), 3, 0, 0, [0, 55], 0),
  (28, (.invokestatic 65, 3), 159, 2, 0, [3, 1, 2097], 0),
  (31, (.iastore, 1), 0, 0, 0, [], 0),
  (32, (.iinc 3 1, 3), 3, 0, 1, [], 0),
  (35, (.goto (-33), 3), 2, 0, 0, [], 2)]),
 (39, [(38, (.return_, 1), 0, 0, 0, [], 0)])]
/-- LampPresses$Net.missed()I -/
def lp_c29 : List (Nat × List lp_E) := [(38, [(0, (.iconst 0, 1), 0, 0, 0, [], 0),
  (1, (.istore_n 1, 1), 1, 0, 0, [], 0),
  (2, (.iconst 0, 1), 0, 0, 0, [], 0),
  (3, (.istore_n 2, 1), 2, 0, 0, [], 1),
  (4, (.iload_n 2, 1), 2, 0, 0, [], 0),
  (5, (.aload_n 0, 1), 0, 0, 0, [], 0),
  (6, (.getfield 34, 3), 3, 1, 0, [0, 60], 0),
  (9, (.if_icmp .ge 27, 3), 36, 0, 0, [], 0),
  (12, (.aload_n 0, 1), 0, 0, 0, [], 0),
  (13, (.getfield 15, 3), 3, 3, 0, [1, 67], 0),
  (16, (.iload_n 2, 1), 2, 0, 0, [], 0),
  (17, (.iaload, 1), 20, 0, 0, [], 0),
  (18, (.aload_n 0, 1), 0, 0, 0, [], 0),
  (19, (.getfield 19, 3), 3, 4, 0, [1, 70], 0),
  (22, (.iload_n 2, 1), 2, 0, 0, [], 0),
  (23, (.iaload, 1), 20, 0, 0, [], 0),
  (24, (.if_icmp .eq 6, 3), 30, 0, 0, [], 0),
  (27, (.iinc 1 1, 3), 1, 0, 1, [], 0),
  (30, (.iinc 2 1, 3), 2, 0, 1, [], 0),
  (33, (.goto (-29), 3), 4, 0, 0, [], 2),
  (36, (.iload_n 1, 1), 1, 0, 0, [], 0),
  (37, (.ireturn, 1), 0, 0, 0, [], 0)])]
/-- LampPresses$Net.missedBehind([II)I -/
def lp_c30 : List (Nat × List lp_E) := [(41, [(0, (.iconst 0, 1), 0, 0, 0, [], 0),
  (1, (.istore_n 3, 1), 3, 0, 0, [], 0),
  (2, (.iconst 0, 1), 0, 0, 0, [], 0),
  (3, (.istore 4, 2), 4, 0, 0, [], 1),
  (5, (.iload 4, 2), 4, 0, 0, [], 0),
  (7, (.aload_n 0, 1), 0, 0, 0, [], 0),
  (8, (.getfield 34, 3), 3, 1, 0, [0, 60], 0),
  (11, (.if_icmp .ge 43, 3), 54, 0, 0, [], 0),
  (14, (.aload_n 1, 1), 1, 0, 0, [], 0),
  (15, (.iload 4, 2), 4, 0, 0, [], 0),
  (17, (.iaload, 1), 20, 0, 0, [], 0),
  (18, (.aload_n 0, 1), 0, 0, 0, [], 0),
  (19, (.getfield 24, 3), 3, 5, 0, [1, 72], 0),
  (22, (.iload_n 2, 1), 2, 0, 0, [], 0),
  (23, (.aaload, 1), 23, 0, 0, [], 0),
  (24, (.iload 4, 2), 4, 0, 0, [], 0),
  (26, (.iaload, 1), 20, 0, 0, [], 0),
  (27, (.iadd, 1), 0, 0, 0, [], 0),
  (28, (.aload_n 0, 1), 0, 0, 0, [], 0),
  (29, (.getfield 9, 3), 3, 0, 0, [0, 55], 0),
  (32, (.invokestatic 65, 3), 159, 2, 0, [3, 1, 2097], 0),
  (35, (.aload_n 0, 1), 0, 0, 0, [], 0),
  (36, (.getfield 19, 3), 3, 4, 0, [1, 70], 0),
  (39, (.iload 4, 2), 4, 0, 0, [], 0)]),
 (56, [(41, (.iaload, 1), 20, 0, 0, [], 0),
  (42, (.if_icmp .eq 6, 3), 48, 0, 0, [], 0),
  (45, (.iinc 3 1, 3), 3, 0, 1, [], 0),
  (48, (.iinc 4 1, 3), 4, 0, 1, [], 0),
  (51, (.goto (-46), 3), 5, 0, 0, [], 2),
  (54, (.iload_n 3, 1), 3, 0, 0, [], 0),
  (55, (.ireturn, 1), 0, 0, 0, [], 0)])]
/-- LampPresses$Net.lit()I -/
def lp_c31 : List (Nat × List lp_E) := [(32, [(0, (.iconst 0, 1), 0, 0, 0, [], 0),
  (1, (.istore_n 1, 1), 1, 0, 0, [], 0),
  (2, (.iconst 0, 1), 0, 0, 0, [], 0),
  (3, (.istore_n 2, 1), 2, 0, 0, [], 1),
  (4, (.iload_n 2, 1), 2, 0, 0, [], 0),
  (5, (.aload_n 0, 1), 0, 0, 0, [], 0),
  (6, (.getfield 34, 3), 3, 1, 0, [0, 60], 0),
  (9, (.if_icmp .ge 21, 3), 30, 0, 0, [], 0),
  (12, (.aload_n 0, 1), 0, 0, 0, [], 0),
  (13, (.getfield 15, 3), 3, 3, 0, [1, 67], 0),
  (16, (.iload_n 2, 1), 2, 0, 0, [], 0),
  (17, (.iaload, 1), 20, 0, 0, [], 0),
  (18, (.ifCond .eq 6, 3), 24, 0, 0, [], 0),
  (21, (.iinc 1 1, 3), 1, 0, 1, [], 0),
  (24, (.iinc 2 1, 3), 2, 0, 1, [], 0),
  (27, (.goto (-23), 3), 4, 0, 0, [], 2),
  (30, (.iload_n 1, 1), 1, 0, 0, [], 0),
  (31, (.ireturn, 1), 0, 0, 0, [], 0)])]
/-- LampPresses$Net.wires()I -/
def lp_c32 : List (Nat × List lp_E) := [(33, [(0, (.iconst 0, 1), 0, 0, 0, [], 0),
  (1, (.istore_n 1, 1), 1, 0, 0, [], 0),
  (2, (.iconst 0, 1), 0, 0, 0, [], 0),
  (3, (.istore_n 2, 1), 2, 0, 0, [], 1),
  (4, (.iload_n 2, 1), 2, 0, 0, [], 0),
  (5, (.aload_n 0, 1), 0, 0, 0, [], 0),
  (6, (.getfield 34, 3), 3, 1, 0, [0, 60], 0),
  (9, (.if_icmp .ge 20, 3), 29, 0, 0, [], 0),
  (12, (.iload_n 1, 1), 1, 0, 0, [], 0),
  (13, (.aload_n 0, 1), 0, 0, 0, [], 0),
  (14, (.iload_n 2, 1), 2, 0, 0, [], 0),
  (15, (.invokevirtual 72, 3), 34, 2, 0, [0, 1, 2214], 0),
  (18, (.invokestatic 76, 3), 282, 1, 0, [1, 1, 2218], 0),
  (21, (.iadd, 1), 0, 0, 0, [], 0),
  (22, (.istore_n 1, 1), 1, 0, 0, [], 0),
  (23, (.iinc 2 1, 3), 2, 0, 1, [], 0),
  (26, (.goto (-22), 3), 4, 0, 0, [], 2),
  (29, (.iload_n 1, 1), 1, 0, 0, [], 0),
  (30, (.iconst 2, 1), 0, 0, 2, [], 0),
  (31, (.idiv, 1), 0, 0, 0, [], 0),
  (32, (.ireturn, 1), 0, 0, 0, [], 0)])]
/-- LampPresses$Net.stepsAndWires()I -/
def lp_c33 : List (Nat × List lp_E) := [(37, [(0, (.aload_n 0, 1), 0, 0, 0, [], 0),
  (1, (.invokevirtual 81, 3), 32, 1, 0, [0, 1, 2210], 0),
  (4, (.istore_n 1, 1), 1, 0, 0, [], 0),
  (5, (.iconst 0, 1), 0, 0, 0, [], 0),
  (6, (.istore_n 2, 1), 2, 0, 0, [], 1),
  (7, (.iload_n 2, 1), 2, 0, 0, [], 0),
  (8, (.aload_n 0, 1), 0, 0, 0, [], 0),
  (9, (.getfield 34, 3), 3, 1, 0, [0, 60], 0),
  (12, (.if_icmp .ge 23, 3), 35, 0, 0, [], 0),
  (15, (.aload_n 0, 1), 0, 0, 0, [], 0),
  (16, (.getfield 24, 3), 3, 5, 0, [1, 72], 0),
  (19, (.iload_n 2, 1), 2, 0, 0, [], 0),
  (20, (.aaload, 1), 23, 0, 0, [], 0),
  (21, (.iload_n 2, 1), 2, 0, 0, [], 0),
  (22, (.iaload, 1), 20, 0, 0, [], 0),
  (23, (.ifCond .eq 6, 3), 29, 0, 0, [], 0),
  (26, (.iinc 1 1, 3), 1, 0, 1, [], 0),
  (29, (.iinc 2 1, 3), 2, 0, 1, [], 0),
  (32, (.goto (-25), 3), 7, 0, 0, [], 2),
  (35, (.iload_n 1, 1), 1, 0, 0, [], 0),
  (36, (.ireturn, 1), 0, 0, 0, [], 0)])]
/-- LampPresses$Net.neighbours(I)I -/
def lp_c34 : List (Nat × List lp_E) := [(34, [(0, (.iconst 0, 1), 0, 0, 0, [], 0),
  (1, (.istore_n 2, 1), 2, 0, 0, [], 0),
  (2, (.iconst 0, 1), 0, 0, 0, [], 0),
  (3, (.istore_n 3, 1), 3, 0, 0, [], 1),
  (4, (.iload_n 3, 1), 3, 0, 0, [], 0),
  (5, (.aload_n 0, 1), 0, 0, 0, [], 0),
  (6, (.getfield 34, 3), 3, 1, 0, [0, 60], 0),
  (9, (.if_icmp .ge 31, 3), 40, 0, 0, [], 0),
  (12, (.iload_n 3, 1), 3, 0, 0, [], 0),
  (13, (.iload_n 1, 1), 1, 0, 0, [], 0),
  (14, (.if_icmp .eq 20, 3), 34, 0, 0, [], 0),
  (17, (.aload_n 0, 1), 0, 0, 0, [], 0),
  (18, (.getfield 24, 3), 3, 5, 0, [1, 72], 0),
  (21, (.iload_n 1, 1), 1, 0, 0, [], 0),
  (22, (.aaload, 1), 23, 0, 0, [], 0),
  (23, (.iload_n 3, 1), 3, 0, 0, [], 0),
  (24, (.iaload, 1), 20, 0, 0, [], 0),
  (25, (.ifCond .eq 9, 3), 34, 0, 0, [], 0),
  (28, (.iload_n 2, 1), 2, 0, 0, [], 0),
  (29, (.iconst 1, 1), 0, 0, 1, [], 0),
  (30, (.iload_n 3, 1), 3, 0, 0, [], 0),
  (31, (.ishl, 1), 0, 0, 0, [], 0),
  (32, (.ior, 1), 0, 0, 0, [], 0),
  (33, (.istore_n 2, 1), 2, 0, 0, [], 0)]),
 (42, [(34, (.iinc 3 1, 3), 3, 0, 1, [], 0),
  (37, (.goto (-33), 3), 4, 0, 0, [], 2),
  (40, (.iload_n 2, 1), 2, 0, 0, [], 0),
  (41, (.ireturn, 1), 0, 0, 0, [], 0)])]
/-- LampPresses$Net.spread(I)I -/
def lp_c35 : List (Nat × List lp_E) := [(36, [(0, (.iload_n 1, 1), 1, 0, 0, [], 0),
  (1, (.istore_n 2, 1), 2, 0, 0, [], 0),
  (2, (.iconst 0, 1), 0, 0, 0, [], 0),
  (3, (.istore_n 3, 1), 3, 0, 0, [], 1),
  (4, (.iload_n 3, 1), 3, 0, 0, [], 0),
  (5, (.aload_n 0, 1), 0, 0, 0, [], 0),
  (6, (.getfield 34, 3), 3, 1, 0, [0, 60], 0),
  (9, (.if_icmp .ge 26, 3), 35, 0, 0, [], 0),
  (12, (.iload_n 1, 1), 1, 0, 0, [], 0),
  (13, (.iload_n 3, 1), 3, 0, 0, [], 0),
  (14, (.ishr, 1), 0, 0, 0, [], 0),
  (15, (.iconst 1, 1), 0, 0, 1, [], 0),
  (16, (.iand, 1), 0, 0, 0, [], 0),
  (17, (.iconst 1, 1), 0, 0, 1, [], 0),
  (18, (.if_icmp .ne 11, 3), 29, 0, 0, [], 0),
  (21, (.iload_n 2, 1), 2, 0, 0, [], 0),
  (22, (.aload_n 0, 1), 0, 0, 0, [], 0),
  (23, (.iload_n 3, 1), 3, 0, 0, [], 0),
  (24, (.invokevirtual 72, 3), 34, 2, 0, [0, 1, 2214], 0),
  (27, (.ior, 1), 0, 0, 0, [], 0),
  (28, (.istore_n 2, 1), 2, 0, 0, [], 0),
  (29, (.iinc 3 1, 3), 3, 0, 1, [], 0),
  (32, (.goto (-28), 3), 4, 0, 0, [], 2),
  (35, (.iload_n 2, 1), 2, 0, 0, [], 0)]),
 (37, [(36, (.ireturn, 1), 0, 0, 0, [], 0)])]
/-- LampPresses$Past.<init>()V -/
def lp_c36 : List (Nat × List lp_E) := [(41, [(0, (.aload_n 0, 1), 0, 0, 0, [], 0),
  (1, (.invokespecial 3, 3), 0, 1, 0, [5, 0, 98], 0),
  (4, (.aload_n 0, 1), 0, 0, 0, [], 0),
  (5, (.bipush 12, 2), 0, 0, 12, [], 0),
  (7, (.anewarray 9, 3), 24, 0, 0, [99], 0),
  (10, (.putfield 11, 3), 4, 2, 0, [1, 105, 1], 0),
  (13, (.iconst 0, 1), 0, 0, 0, [], 0),
  (14, (.istore_n 1, 1), 1, 0, 0, [], 1),
  (15, (.iload_n 1, 1), 1, 0, 0, [], 0),
  (16, (.bipush 12, 2), 0, 0, 12, [], 0),
  (18, (.if_icmp .ge 22, 3), 40, 0, 0, [], 0),
  (21, (.aload_n 0, 1), 0, 0, 0, [], 0),
  (22, (.getfield 11, 3), 4, 2, 0, [1, 105], 0),
  (25, (.iload_n 1, 1), 1, 0, 0, [], 0),
  (26, (.new 9, 3), 3, 7, 0, [99], 0),
  (29, (.dup, 1), 0, 0, 0, [], 0),
  (30, (.invokespecial 17, 3), 17, 1, 0, [4, 0, 101], 0),
  (33, (.aastore, 1), 24, 0, 0, [], 0),
  (34, (.iinc 1 1, 3), 1, 0, 1, [], 0),
  (37, (.goto (-22), 3), 15, 0, 0, [], 2),
  (40, (.return_, 1), 0, 0, 0, [], 0)])]
/-- LampPresses$Past.keep(LLampPresses$Net;)V -/
def lp_c37 : List (Nat × List lp_E) := [(42, [(0, (.aload_n 0, 1), 0, 0, 0, [], 0),
  (1, (.getfield 11, 3), 4, 2, 0, [1, 105], 0),
  (4, (.aload_n 0, 1), 0, 0, 0, [], 0),
  (5, (.getfield 18, 3), 4, 1, 0, [0, 104], 0),
  (8, (.aaload, 1), 24, 0, 0, [], 0),
  (9, (.aload_n 1, 1), 1, 0, 0, [], 0),
  (10, (.invokevirtual 22, 3), 21, 2, 0, [0, 0, 2043], 0),
  (13, (.aload_n 0, 1), 0, 0, 0, [], 0),
  (14, (.aload_n 0, 1), 0, 0, 0, [], 0),
  (15, (.getfield 18, 3), 4, 1, 0, [0, 104], 0),
  (18, (.iconst 1, 1), 0, 0, 1, [], 0),
  (19, (.iadd, 1), 0, 0, 0, [], 0),
  (20, (.bipush 12, 2), 0, 0, 12, [], 0),
  (22, (.irem, 1), 0, 0, 0, [], 0),
  (23, (.putfield 18, 3), 4, 1, 0, [0, 104, 0], 0),
  (26, (.aload_n 0, 1), 0, 0, 0, [], 0),
  (27, (.aload_n 0, 1), 0, 0, 0, [], 0),
  (28, (.getfield 26, 3), 4, 0, 0, [0, 102], 0),
  (31, (.iconst 1, 1), 0, 0, 1, [], 0),
  (32, (.iadd, 1), 0, 0, 0, [], 0),
  (33, (.bipush 12, 2), 0, 0, 12, [], 0),
  (35, (.invokestatic 29, 3), 284, 2, 0, [8, 1, 2044], 0),
  (38, (.putfield 26, 3), 4, 0, 0, [0, 102, 0], 0),
  (41, (.return_, 1), 0, 0, 0, [], 0)])]
/-- LampPresses$Past.bringBack(LLampPresses$Net;)V -/
def lp_c38 : List (Nat × List lp_E) := [(42, [(0, (.aload_n 0, 1), 0, 0, 0, [], 0),
  (1, (.getfield 26, 3), 4, 0, 0, [0, 102], 0),
  (4, (.ifCond .ne 4, 3), 8, 0, 0, [], 0),
  (7, (.return_, 1), 0, 0, 0, [], 0),
  (8, (.aload_n 0, 1), 0, 0, 0, [], 0),
  (9, (.aload_n 0, 1), 0, 0, 0, [], 0),
  (10, (.getfield 18, 3), 4, 1, 0, [0, 104], 0),
  (13, (.bipush 12, 2), 0, 0, 12, [], 0),
  (15, (.iadd, 1), 0, 0, 0, [], 0),
  (16, (.iconst 1, 1), 0, 0, 1, [], 0),
  (17, (.isub, 1), 0, 0, 0, [], 0),
  (18, (.bipush 12, 2), 0, 0, 12, [], 0),
  (20, (.irem, 1), 0, 0, 0, [], 0),
  (21, (.putfield 18, 3), 4, 1, 0, [0, 104, 0], 0),
  (24, (.aload_n 1, 1), 1, 0, 0, [], 0),
  (25, (.aload_n 0, 1), 0, 0, 0, [], 0),
  (26, (.getfield 11, 3), 4, 2, 0, [1, 105], 0),
  (29, (.aload_n 0, 1), 0, 0, 0, [], 0),
  (30, (.getfield 18, 3), 4, 1, 0, [0, 104], 0),
  (33, (.aaload, 1), 24, 0, 0, [], 0),
  (34, (.invokevirtual 22, 3), 21, 2, 0, [0, 0, 2043], 0),
  (37, (.aload_n 0, 1), 0, 0, 0, [], 0),
  (38, (.dup, 1), 0, 0, 0, [], 0),
  (39, (.getfield 26, 3), 4, 0, 0, [0, 102], 0)]),
 (48, [(42, (.iconst 1, 1), 0, 0, 1, [], 0),
  (43, (.isub, 1), 0, 0, 0, [], 0),
  (44, (.putfield 26, 3), 4, 0, 0, [0, 102, 0], 0),
  (47, (.return_, 1), 0, 0, 0, [], 0)])]
/-- LampPresses$Reader.<init>(LLampPresses$Tape;)V -/
def lp_c39 : List (Nat × List lp_E) := [(21, [(0, (.aload_n 0, 1), 0, 0, 0, [], 0),
  (1, (.invokespecial 3, 3), 0, 1, 0, [5, 0, 135], 0),
  (4, (.aload_n 0, 1), 0, 0, 0, [], 0),
  (5, (.new 9, 3), 3, 7, 0, [136], 0),
  (8, (.dup, 1), 0, 0, 0, [], 0),
  (9, (.invokespecial 11, 3), 17, 1, 0, [4, 0, 137], 0),
  (12, (.putfield 12, 3), 5, 0, 0, [1, 138, 1], 0),
  (15, (.aload_n 0, 1), 0, 0, 0, [], 0),
  (16, (.aload_n 1, 1), 1, 0, 0, [], 0),
  (17, (.putfield 18, 3), 5, 1, 0, [1, 140, 1], 0),
  (20, (.return_, 1), 0, 0, 0, [], 0)])]
/-- LampPresses$Reader.read()I -/
def lp_c40 : List (Nat × List lp_E) := [(45, [(0, (.aload_n 0, 1), 0, 0, 0, [], 0),
  (1, (.getfield 12, 3), 5, 0, 0, [1, 138], 0),
  (4, (.invokevirtual 22, 3), 20, 1, 0, [0, 0, 1126], 0),
  (7, (.aload_n 0, 1), 0, 0, 0, [], 0),
  (8, (.iconst 0, 1), 0, 0, 0, [], 0),
  (9, (.putfield 25, 3), 5, 4, 0, [0, 143, 0], 0),
  (12, (.aload_n 0, 1), 0, 0, 0, [], 0),
  (13, (.iconst 3, 1), 0, 0, 3, [], 0),
  (14, (.putfield 29, 3), 5, 2, 0, [0, 141, 0], 0),
  (17, (.aload_n 0, 1), 0, 0, 0, [], 0),
  (18, (.invokevirtual 32, 3), 49, 1, 0, [0, 0, 1130], 0),
  (21, (.aload_n 0, 1), 0, 0, 0, [], 0),
  (22, (.ldc 35, 2), 0, 0, 0, [1, 1148], 0),
  (24, (.invokevirtual 37, 3), 48, 2, 0, [0, 1, 1149], 0),
  (27, (.ifCond .eq 10, 3), 37, 0, 0, [], 0),
  (30, (.aload_n 0, 1), 0, 0, 0, [], 0),
  (31, (.invokevirtual 41, 3), 41, 1, 0, [0, 1, 1201], 0),
  (34, (.ifCond .eq 7, 3), 41, 0, 0, [], 0),
  (37, (.iconst 1, 1), 0, 0, 1, [], 0),
  (38, (.goto 4, 3), 42, 0, 0, [], 0),
  (41, (.iconst 0, 1), 0, 0, 0, [], 0),
  (42, (.istore_n 1, 1), 1, 0, 0, [], 0),
  (43, (.iconst 0, 1), 0, 0, 0, [], 0),
  (44, (.istore_n 2, 1), 2, 0, 0, [], 1)]),
 (99, [(45, (.iload_n 2, 1), 2, 0, 0, [], 0),
  (46, (.sipush 500, 3), 0, 0, 500, [], 0),
  (49, (.if_icmp .ge 58, 3), 107, 0, 0, [], 0),
  (52, (.iload_n 1, 1), 1, 0, 0, [], 0),
  (53, (.ifCond .eq 54, 3), 107, 0, 0, [], 0),
  (56, (.aload_n 0, 1), 0, 0, 0, [], 0),
  (57, (.getfield 29, 3), 5, 2, 0, [0, 141], 0),
  (60, (.ifCond .eq 47, 3), 107, 0, 0, [], 0),
  (63, (.aload_n 0, 1), 0, 0, 0, [], 0),
  (64, (.ldc 45, 2), 1, 0, 0, [1, 1217], 0),
  (66, (.invokevirtual 37, 3), 48, 2, 0, [0, 1, 1149], 0),
  (69, (.ifCond .eq 10, 3), 79, 0, 0, [], 0),
  (72, (.aload_n 0, 1), 0, 0, 0, [], 0),
  (73, (.invokevirtual 47, 3), 42, 1, 0, [0, 1, 1218], 0),
  (76, (.goto 24, 3), 100, 0, 0, [], 0),
  (79, (.aload_n 0, 1), 0, 0, 0, [], 0),
  (80, (.ldc 50, 2), 4, 0, 0, [1, 1236], 0),
  (82, (.invokevirtual 37, 3), 48, 2, 0, [0, 1, 1149], 0),
  (85, (.ifCond .eq 14, 3), 99, 0, 0, [], 0),
  (88, (.aload_n 0, 1), 0, 0, 0, [], 0),
  (89, (.invokevirtual 52, 3), 43, 1, 0, [0, 1, 1237], 0),
  (92, (.ifCond .eq 7, 3), 99, 0, 0, [], 0),
  (95, (.iconst 1, 1), 0, 0, 1, [], 0),
  (96, (.goto 4, 3), 100, 0, 0, [], 0)]),
 (120, [(99, (.iconst 0, 1), 0, 0, 0, [], 0),
  (100, (.istore_n 1, 1), 1, 0, 0, [], 0),
  (101, (.iinc 2 1, 3), 2, 0, 1, [], 0),
  (104, (.goto (-59), 3), 45, 0, 0, [], 2),
  (107, (.iload_n 1, 1), 1, 0, 0, [], 0),
  (108, (.ifCond .eq 7, 3), 115, 0, 0, [], 0),
  (111, (.iconst (-1), 1), 0, 0, (-1), [], 0),
  (112, (.goto 7, 3), 119, 0, 0, [], 0),
  (115, (.aload_n 0, 1), 0, 0, 0, [], 0),
  (116, (.getfield 55, 3), 5, 3, 0, [0, 142], 0),
  (119, (.ireturn, 1), 0, 0, 0, [], 0)])]
/-- LampPresses$Reader.readStates()Z -/
def lp_c41 : List (Nat × List lp_E) := [(40, [(0, (.aload_n 0, 1), 0, 0, 0, [], 0),
  (1, (.invokevirtual 32, 3), 49, 1, 0, [0, 0, 1130], 0),
  (4, (.aload_n 0, 1), 0, 0, 0, [], 0),
  (5, (.invokevirtual 58, 3), 47, 1, 0, [0, 1, 1205], 0),
  (8, (.iconst 4, 1), 0, 0, 4, [], 0),
  (9, (.if_icmp .ne 5, 3), 14, 0, 0, [], 0),
  (12, (.iconst 0, 1), 0, 0, 0, [], 0),
  (13, (.ireturn, 1), 1, 0, 0, [], 0),
  (14, (.aload_n 0, 1), 0, 0, 0, [], 0),
  (15, (.iconst 2, 1), 0, 0, 2, [], 0),
  (16, (.iconst 5, 1), 0, 0, 5, [], 0),
  (17, (.invokevirtual 62, 3), 45, 3, 0, [0, 1, 1209], 0),
  (20, (.istore_n 1, 1), 1, 0, 0, [], 0),
  (21, (.iload_n 1, 1), 1, 0, 0, [], 0),
  (22, (.iconst (-1), 1), 0, 0, (-1), [], 0),
  (23, (.if_icmp .ne 5, 3), 28, 0, 0, [], 0),
  (26, (.iconst 0, 1), 0, 0, 0, [], 0),
  (27, (.ireturn, 1), 1, 0, 0, [], 0),
  (28, (.aload_n 0, 1), 0, 0, 0, [], 0),
  (29, (.getfield 12, 3), 5, 0, 0, [1, 138], 0),
  (32, (.iload_n 1, 1), 1, 0, 0, [], 0),
  (33, (.putfield 66, 3), 3, 0, 0, [0, 58, 0], 0),
  (36, (.aload_n 0, 1), 0, 0, 0, [], 0),
  (37, (.invokevirtual 68, 3), 46, 1, 0, [0, 1, 1213], 0)]),
 (41, [(40, (.ireturn, 1), 1, 0, 0, [], 0)])]
/-- LampPresses$Reader.readLamp()Z -/
def lp_c42 : List (Nat × List lp_E) := [(41, [(0, (.aload_n 0, 1), 0, 0, 0, [], 0),
  (1, (.getfield 12, 3), 5, 0, 0, [1, 138], 0),
  (4, (.getfield 71, 3), 3, 1, 0, [0, 63], 0),
  (7, (.bipush 10, 2), 0, 0, 10, [], 0),
  (9, (.if_icmp .lt 5, 3), 14, 0, 0, [], 0),
  (12, (.iconst 0, 1), 0, 0, 0, [], 0),
  (13, (.ireturn, 1), 1, 0, 0, [], 0),
  (14, (.aload_n 0, 1), 0, 0, 0, [], 0),
  (15, (.invokevirtual 32, 3), 49, 1, 0, [0, 0, 1130], 0),
  (18, (.aload_n 0, 1), 0, 0, 0, [], 0),
  (19, (.getfield 12, 3), 5, 0, 0, [1, 138], 0),
  (22, (.getfield 66, 3), 3, 0, 0, [0, 58], 0),
  (25, (.iconst 1, 1), 0, 0, 1, [], 0),
  (26, (.isub, 1), 0, 0, 0, [], 0),
  (27, (.istore_n 1, 1), 1, 0, 0, [], 0),
  (28, (.aload_n 0, 1), 0, 0, 0, [], 0),
  (29, (.iconst 0, 1), 0, 0, 0, [], 0),
  (30, (.iload_n 1, 1), 1, 0, 0, [], 0),
  (31, (.invokevirtual 62, 3), 45, 3, 0, [0, 1, 1209], 0),
  (34, (.istore_n 2, 1), 2, 0, 0, [], 0),
  (35, (.iload_n 2, 1), 2, 0, 0, [], 0),
  (36, (.iconst (-1), 1), 0, 0, (-1), [], 0),
  (37, (.if_icmp .ne 7, 3), 44, 0, 0, [], 0),
  (40, (.iconst (-1), 1), 0, 0, (-1), [], 0)]),
 (81, [(41, (.goto 12, 3), 53, 0, 0, [], 0),
  (44, (.aload_n 0, 1), 0, 0, 0, [], 0),
  (45, (.ldc 74, 2), 2, 0, 0, [1, 1222], 0),
  (47, (.iconst 1, 1), 0, 0, 1, [], 0),
  (48, (.iconst 0, 1), 0, 0, 0, [], 0),
  (49, (.iload_n 1, 1), 1, 0, 0, [], 0),
  (50, (.invokevirtual 76, 3), 44, 5, 0, [0, 1, 1223], 0),
  (53, (.istore_n 3, 1), 3, 0, 0, [], 0),
  (54, (.iload_n 3, 1), 3, 0, 0, [], 0),
  (55, (.iconst (-1), 1), 0, 0, (-1), [], 0),
  (56, (.if_icmp .ne 7, 3), 63, 0, 0, [], 0),
  (59, (.iconst (-1), 1), 0, 0, (-1), [], 0),
  (60, (.goto 12, 3), 72, 0, 0, [], 0),
  (63, (.aload_n 0, 1), 0, 0, 0, [], 0),
  (64, (.ldc 80, 2), 3, 0, 0, [1, 1227], 0),
  (66, (.iconst 0, 1), 0, 0, 0, [], 0),
  (67, (.iconst 0, 1), 0, 0, 0, [], 0),
  (68, (.iload_n 1, 1), 1, 0, 0, [], 0),
  (69, (.invokevirtual 76, 3), 44, 5, 0, [0, 1, 1223], 0),
  (72, (.istore 4, 2), 4, 0, 0, [], 0),
  (74, (.iload 4, 2), 4, 0, 0, [], 0),
  (76, (.iconst (-1), 1), 0, 0, (-1), [], 0),
  (77, (.if_icmp .eq 10, 3), 87, 0, 0, [], 0),
  (80, (.aload_n 0, 1), 0, 0, 0, [], 0)]),
 (102, [(81, (.invokevirtual 68, 3), 46, 1, 0, [0, 1, 1213], 0),
  (84, (.ifCond .ne 5, 3), 89, 0, 0, [], 0),
  (87, (.iconst 0, 1), 0, 0, 0, [], 0),
  (88, (.ireturn, 1), 1, 0, 0, [], 0),
  (89, (.aload_n 0, 1), 0, 0, 0, [], 0),
  (90, (.getfield 12, 3), 5, 0, 0, [1, 138], 0),
  (93, (.iload_n 2, 1), 2, 0, 0, [], 0),
  (94, (.iload_n 3, 1), 3, 0, 0, [], 0),
  (95, (.iload 4, 2), 4, 0, 0, [], 0),
  (97, (.invokevirtual 82, 3), 22, 4, 0, [0, 0, 1228], 0),
  (100, (.iconst 1, 1), 0, 0, 1, [], 0),
  (101, (.ireturn, 1), 1, 0, 0, [], 0)])]
def lp_c43_0 : List lp_E := [(0, (.aload_n 0, 1), 0, 0, 0, [], 0),
  (1, (.invokevirtual 32, 3), 49, 1, 0, [0, 0, 1130], 0),
  (4, (.aload_n 0, 1), 0, 0, 0, [], 0),
  (5, (.iconst 0, 1), 0, 0, 0, [], 0),
  (6, (.aload_n 0, 1), 0, 0, 0, [], 0),
  (7, (.getfield 12, 3), 5, 0, 0, [1, 138], 0),
  (10, (.getfield 71, 3), 3, 1, 0, [0, 63], 0),
  (13, (.iconst 1, 1), 0, 0, 1, [], 0),
  (14, (.isub, 1), 0, 0, 0, [], 0),
  (15, (.invokevirtual 62, 3), 45, 3, 0, [0, 1, 1209], 0),
  (18, (.istore_n 1, 1), 1, 0, 0, [], 0),
  (19, (.iload_n 1, 1), 1, 0, 0, [], 0),
  (20, (.iconst (-1), 1), 0, 0, (-1), [], 0),
  (21, (.if_icmp .ne 5, 3), 26, 0, 0, [], 0),
  (24, (.iconst 0, 1), 0, 0, 0, [], 0),
  (25, (.ireturn, 1), 1, 0, 0, [], 0),
  (26, (.aload_n 0, 1), 0, 0, 0, [], 0),
  (27, (.invokevirtual 58, 3), 47, 1, 0, [0, 1, 1205], 0),
  (30, (.istore_n 2, 1), 2, 0, 0, [], 0),
  (31, (.iload_n 2, 1), 2, 0, 0, [], 0),
  (32, (.iload_n 1, 1), 1, 0, 0, [], 0),
  (33, (.if_icmp .eq 28, 3), 61, 0, 0, [], 0),
  (36, (.aload_n 0, 1), 0, 0, 0, [], 0),
  (37, (.getfield 12, 3), 5, 0, 0, [1, 138], 0)]
def lp_c43_1 : List lp_E := [(40, (.iload_n 2, 1), 2, 0, 0, [], 0),
  (41, (.invokevirtual 86, 3), 18, 2, 0, [0, 1, 2001], 0),
  (44, (.ifCond .eq 19, 3), 63, 0, 0, [], 0),
  (47, (.aload_n 0, 1), 0, 0, 0, [], 0),
  (48, (.getfield 12, 3), 5, 0, 0, [1, 138], 0),
  (51, (.getfield 90, 3), 3, 5, 0, [1, 74], 0),
  (54, (.iload_n 1, 1), 1, 0, 0, [], 0),
  (55, (.aaload, 1), 23, 0, 0, [], 0),
  (56, (.iload_n 2, 1), 2, 0, 0, [], 0),
  (57, (.iaload, 1), 20, 0, 0, [], 0),
  (58, (.ifCond .eq 5, 3), 63, 0, 0, [], 0),
  (61, (.iconst 0, 1), 0, 0, 0, [], 0),
  (62, (.ireturn, 1), 1, 0, 0, [], 0),
  (63, (.aload_n 0, 1), 0, 0, 0, [], 0),
  (64, (.iconst 0, 1), 0, 0, 0, [], 0),
  (65, (.aload_n 0, 1), 0, 0, 0, [], 0),
  (66, (.getfield 12, 3), 5, 0, 0, [1, 138], 0),
  (69, (.getfield 71, 3), 3, 1, 0, [0, 63], 0),
  (72, (.iconst 1, 1), 0, 0, 1, [], 0),
  (73, (.isub, 1), 0, 0, 0, [], 0),
  (74, (.invokevirtual 62, 3), 45, 3, 0, [0, 1, 1209], 0),
  (77, (.istore_n 2, 1), 2, 0, 0, [], 0),
  (78, (.iload_n 2, 1), 2, 0, 0, [], 0),
  (79, (.iconst (-1), 1), 0, 0, (-1), [], 0)]
def lp_c43_2 : List lp_E := [(80, (.if_icmp .ne 7, 3), 87, 0, 0, [], 0),
  (83, (.iconst (-1), 1), 0, 0, (-1), [], 0),
  (84, (.goto 20, 3), 104, 0, 0, [], 0),
  (87, (.aload_n 0, 1), 0, 0, 0, [], 0),
  (88, (.ldc 94, 2), 5, 0, 0, [1, 2005], 0),
  (90, (.iconst 1, 1), 0, 0, 1, [], 0),
  (91, (.iconst 1, 1), 0, 0, 1, [], 0),
  (92, (.aload_n 0, 1), 0, 0, 0, [], 0),
  (93, (.getfield 12, 3), 5, 0, 0, [1, 138], 0),
  (96, (.getfield 66, 3), 3, 0, 0, [0, 58], 0),
  (99, (.iconst 1, 1), 0, 0, 1, [], 0),
  (100, (.isub, 1), 0, 0, 0, [], 0),
  (101, (.invokevirtual 76, 3), 44, 5, 0, [0, 1, 1223], 0),
  (104, (.istore_n 3, 1), 3, 0, 0, [], 0),
  (105, (.iload_n 3, 1), 3, 0, 0, [], 0),
  (106, (.iconst (-1), 1), 0, 0, (-1), [], 0),
  (107, (.if_icmp .eq 10, 3), 117, 0, 0, [], 0),
  (110, (.aload_n 0, 1), 0, 0, 0, [], 0),
  (111, (.invokevirtual 68, 3), 46, 1, 0, [0, 1, 1213], 0),
  (114, (.ifCond .ne 5, 3), 119, 0, 0, [], 0),
  (117, (.iconst 0, 1), 0, 0, 0, [], 0),
  (118, (.ireturn, 1), 1, 0, 0, [], 0),
  (119, (.aload_n 0, 1), 0, 0, 0, [], 0),
  (120, (.getfield 12, 3), 5, 0, 0, [1, 138], 0)]
def lp_c43_3 : List lp_E := [(123, (.iload_n 1, 1), 1, 0, 0, [], 0),
  (124, (.iload_n 2, 1), 2, 0, 0, [], 0),
  (125, (.iload_n 3, 1), 3, 0, 0, [], 0),
  (126, (.invokevirtual 96, 3), 24, 4, 0, [0, 0, 2006], 0),
  (129, (.iconst 1, 1), 0, 0, 1, [], 0),
  (130, (.ireturn, 1), 1, 0, 0, [], 0)]
/-- LampPresses$Reader.readWire()Z -/
def lp_c43 : List (Nat × List lp_E) := [(40, lp_c43_0), (80, lp_c43_1), (123, lp_c43_2), (131, lp_c43_3)]
/-- LampPresses$Reader.takeOption(Ljava/lang/String;III)I -/
def lp_c44 : List (Nat × List lp_E) := [(22, [(0, (.aload_n 0, 1), 0, 0, 0, [], 0),
  (1, (.aload_n 1, 1), 1, 0, 0, [], 0),
  (2, (.invokevirtual 37, 3), 48, 2, 0, [0, 1, 1149], 0),
  (5, (.ifCond .ne 5, 3), 10, 0, 0, [], 0),
  (8, (.iload_n 2, 1), 2, 0, 0, [], 0),
  (9, (.ireturn, 1), 0, 0, 0, [], 0),
  (10, (.aload_n 0, 1), 0, 0, 0, [], 0),
  (11, (.invokevirtual 32, 3), 49, 1, 0, [0, 0, 1130], 0),
  (14, (.aload_n 0, 1), 0, 0, 0, [], 0),
  (15, (.iload_n 3, 1), 3, 0, 0, [], 0),
  (16, (.iload 4, 2), 4, 0, 0, [], 0),
  (18, (.invokevirtual 62, 3), 45, 3, 0, [0, 1, 1209], 0),
  (21, (.ireturn, 1), 0, 0, 0, [], 0)])]
/-- LampPresses$Reader.takeNumber(II)I -/
def lp_c45 : List (Nat × List lp_E) := [(28, [(0, (.aload_n 0, 1), 0, 0, 0, [], 0),
  (1, (.invokevirtual 58, 3), 47, 1, 0, [0, 1, 1205], 0),
  (4, (.istore_n 3, 1), 3, 0, 0, [], 0),
  (5, (.iload_n 3, 1), 3, 0, 0, [], 0),
  (6, (.iconst (-1), 1), 0, 0, (-1), [], 0),
  (7, (.if_icmp .eq 13, 3), 20, 0, 0, [], 0),
  (10, (.iload_n 3, 1), 3, 0, 0, [], 0),
  (11, (.iload_n 1, 1), 1, 0, 0, [], 0),
  (12, (.if_icmp .lt 8, 3), 20, 0, 0, [], 0),
  (15, (.iload_n 3, 1), 3, 0, 0, [], 0),
  (16, (.iload_n 2, 1), 2, 0, 0, [], 0),
  (17, (.if_icmp .le 5, 3), 22, 0, 0, [], 0),
  (20, (.iconst (-1), 1), 0, 0, (-1), [], 0),
  (21, (.ireturn, 1), 0, 0, 0, [], 0),
  (22, (.aload_n 0, 1), 0, 0, 0, [], 0),
  (23, (.invokevirtual 32, 3), 49, 1, 0, [0, 0, 1130], 0),
  (26, (.iload_n 3, 1), 3, 0, 0, [], 0),
  (27, (.ireturn, 1), 0, 0, 0, [], 0)])]
/-- LampPresses$Reader.takeStop()Z -/
def lp_c46 : List (Nat × List lp_E) := [(16, [(0, (.aload_n 0, 1), 0, 0, 0, [], 0),
  (1, (.getfield 29, 3), 5, 2, 0, [0, 141], 0),
  (4, (.iconst 3, 1), 0, 0, 3, [], 0),
  (5, (.if_icmp .eq 5, 3), 10, 0, 0, [], 0),
  (8, (.iconst 0, 1), 0, 0, 0, [], 0),
  (9, (.ireturn, 1), 1, 0, 0, [], 0),
  (10, (.aload_n 0, 1), 0, 0, 0, [], 0),
  (11, (.invokevirtual 32, 3), 49, 1, 0, [0, 0, 1130], 0),
  (14, (.iconst 1, 1), 0, 0, 1, [], 0),
  (15, (.ireturn, 1), 1, 0, 0, [], 0)])]
/-- LampPresses$Reader.digit()I -/
def lp_c47 : List (Nat × List lp_E) := [(24, [(0, (.aload_n 0, 1), 0, 0, 0, [], 0),
  (1, (.getfield 29, 3), 5, 2, 0, [0, 141], 0),
  (4, (.iconst 2, 1), 0, 0, 2, [], 0),
  (5, (.if_icmp .ne 17, 3), 22, 0, 0, [], 0),
  (8, (.aload_n 0, 1), 0, 0, 0, [], 0),
  (9, (.aload_n 0, 1), 0, 0, 0, [], 0),
  (10, (.getfield 55, 3), 5, 3, 0, [0, 142], 0),
  (13, (.invokevirtual 99, 3), 51, 2, 0, [0, 1, 1137], 0),
  (16, (.bipush 48, 2), 0, 0, 48, [], 0),
  (18, (.isub, 1), 0, 0, 0, [], 0),
  (19, (.goto 4, 3), 23, 0, 0, [], 0),
  (22, (.iconst (-1), 1), 0, 0, (-1), [], 0),
  (23, (.ireturn, 1), 0, 0, 0, [], 0)])]
/-- LampPresses$Reader.isWord(Ljava/lang/String;)Z -/
def lp_c48 : List (Nat × List lp_E) := [(42, [(0, (.aload_n 0, 1), 0, 0, 0, [], 0),
  (1, (.getfield 29, 3), 5, 2, 0, [0, 141], 0),
  (4, (.iconst 1, 1), 0, 0, 1, [], 0),
  (5, (.if_icmp .ne 19, 3), 24, 0, 0, [], 0),
  (8, (.aload_n 0, 1), 0, 0, 0, [], 0),
  (9, (.getfield 25, 3), 5, 4, 0, [0, 143], 0),
  (12, (.aload_n 0, 1), 0, 0, 0, [], 0),
  (13, (.getfield 55, 3), 5, 3, 0, [0, 142], 0),
  (16, (.isub, 1), 0, 0, 0, [], 0),
  (17, (.aload_n 1, 1), 1, 0, 0, [], 0),
  (18, (.invokevirtual 103, 3), 285, 1, 0, [0, 1, 1153], 0),
  (21, (.if_icmp .eq 5, 3), 26, 0, 0, [], 0),
  (24, (.iconst 0, 1), 0, 0, 0, [], 0),
  (25, (.ireturn, 1), 1, 0, 0, [], 0),
  (26, (.iconst 0, 1), 0, 0, 0, [], 0),
  (27, (.istore_n 2, 1), 2, 0, 0, [], 1),
  (28, (.iload_n 2, 1), 2, 0, 0, [], 0),
  (29, (.aload_n 1, 1), 1, 0, 0, [], 0),
  (30, (.invokevirtual 103, 3), 285, 1, 0, [0, 1, 1153], 0),
  (33, (.if_icmp .ge 29, 3), 62, 0, 0, [], 0),
  (36, (.aload_n 0, 1), 0, 0, 0, [], 0),
  (37, (.aload_n 0, 1), 0, 0, 0, [], 0),
  (38, (.getfield 55, 3), 5, 3, 0, [0, 142], 0),
  (41, (.iload_n 2, 1), 2, 0, 0, [], 0)]),
 (64, [(42, (.iadd, 1), 0, 0, 0, [], 0),
  (43, (.invokevirtual 99, 3), 51, 2, 0, [0, 1, 1137], 0),
  (46, (.aload_n 1, 1), 1, 0, 0, [], 0),
  (47, (.iload_n 2, 1), 2, 0, 0, [], 0),
  (48, (.invokevirtual 108, 3), 286, 2, 0, [0, 1, 1163], 0),
  (51, (.if_icmp .eq 5, 3), 56, 0, 0, [], 0),
  (54, (.iconst 0, 1), 0, 0, 0, [], 0),
  (55, (.ireturn, 1), 1, 0, 0, [], 0),
  (56, (.iinc 2 1, 3), 2, 0, 1, [], 0),
  (59, (.goto (-31), 3), 28, 0, 0, [], 2),
  (62, (.iconst 1, 1), 0, 0, 1, [], 0),
  (63, (.ireturn, 1), 1, 0, 0, [], 0)])]
def lp_c49_0 : List lp_E := [(0, (.aload_n 0, 1), 0, 0, 0, [], 0),
  (1, (.getfield 25, 3), 5, 4, 0, [0, 143], 0),
  (4, (.istore_n 1, 1), 1, 0, 0, [], 0),
  (5, (.aload_n 0, 1), 0, 0, 0, [], 0),
  (6, (.getfield 29, 3), 5, 2, 0, [0, 141], 0),
  (9, (.invokestatic 112, 3), 52, 1, 0, [1, 1, 1134], 0),
  (12, (.istore_n 2, 1), 2, 0, 0, [], 1),
  (13, (.aload_n 0, 1), 0, 0, 0, [], 0),
  (14, (.getfield 25, 3), 5, 4, 0, [0, 143], 0),
  (17, (.aload_n 0, 1), 0, 0, 0, [], 0),
  (18, (.getfield 18, 3), 5, 1, 0, [1, 140], 0),
  (21, (.getfield 115, 3), 8, 0, 0, [0, 121], 0),
  (24, (.if_icmp .ge 30, 3), 54, 0, 0, [], 0),
  (27, (.aload_n 0, 1), 0, 0, 0, [], 0),
  (28, (.aload_n 0, 1), 0, 0, 0, [], 0),
  (29, (.getfield 25, 3), 5, 4, 0, [0, 143], 0),
  (32, (.invokevirtual 99, 3), 51, 2, 0, [0, 1, 1137], 0),
  (35, (.invokestatic 119, 3), 53, 1, 0, [1, 1, 1141], 0),
  (38, (.ifCond .eq 16, 3), 54, 0, 0, [], 0),
  (41, (.aload_n 0, 1), 0, 0, 0, [], 0),
  (42, (.dup, 1), 0, 0, 0, [], 0),
  (43, (.getfield 25, 3), 5, 4, 0, [0, 143], 0),
  (46, (.iconst 1, 1), 0, 0, 1, [], 0),
  (47, (.iadd, 1), 0, 0, 0, [], 0)]
def lp_c49_1 : List lp_E := [(48, (.putfield 25, 3), 5, 4, 0, [0, 143, 0], 0),
  (51, (.goto (-38), 3), 13, 0, 0, [], 2),
  (54, (.aload_n 0, 1), 0, 0, 0, [], 0),
  (55, (.aload_n 0, 1), 0, 0, 0, [], 0),
  (56, (.getfield 25, 3), 5, 4, 0, [0, 143], 0),
  (59, (.putfield 55, 3), 5, 3, 0, [0, 142, 0], 0),
  (62, (.aload_n 0, 1), 0, 0, 0, [], 0),
  (63, (.aload_n 0, 1), 0, 0, 0, [], 0),
  (64, (.aload_n 0, 1), 0, 0, 0, [], 0),
  (65, (.getfield 55, 3), 5, 3, 0, [0, 142], 0),
  (68, (.invokevirtual 122, 3), 50, 2, 0, [0, 1, 1144], 0),
  (71, (.putfield 29, 3), 5, 2, 0, [0, 141, 0], 0),
  (74, (.aload_n 0, 1), 0, 0, 0, [], 0),
  (75, (.getfield 29, 3), 5, 2, 0, [0, 141], 0),
  (78, (.ifCond .eq 13, 3), 91, 0, 0, [], 2),
  (81, (.aload_n 0, 1), 0, 0, 0, [], 0),
  (82, (.dup, 1), 0, 0, 0, [], 0),
  (83, (.getfield 25, 3), 5, 4, 0, [0, 143], 0),
  (86, (.iconst 1, 1), 0, 0, 1, [], 0),
  (87, (.iadd, 1), 0, 0, 0, [], 0),
  (88, (.putfield 25, 3), 5, 4, 0, [0, 143, 0], 1),
  (91, (.aload_n 0, 1), 0, 0, 0, [], 0),
  (92, (.getfield 29, 3), 5, 2, 0, [0, 141], 0),
  (95, (.iconst 1, 1), 0, 0, 1, [], 0)]
def lp_c49_2 : List lp_E := [(96, (.if_icmp .ne 42, 3), 138, 0, 0, [], 0),
  (99, (.aload_n 0, 1), 0, 0, 0, [], 0),
  (100, (.getfield 25, 3), 5, 4, 0, [0, 143], 0),
  (103, (.aload_n 0, 1), 0, 0, 0, [], 0),
  (104, (.getfield 18, 3), 5, 1, 0, [1, 140], 0),
  (107, (.getfield 115, 3), 8, 0, 0, [0, 121], 0),
  (110, (.if_icmp .ge 28, 3), 138, 0, 0, [], 0),
  (113, (.aload_n 0, 1), 0, 0, 0, [], 0),
  (114, (.aload_n 0, 1), 0, 0, 0, [], 0),
  (115, (.getfield 25, 3), 5, 4, 0, [0, 143], 0),
  (118, (.invokevirtual 122, 3), 50, 2, 0, [0, 1, 1144], 0),
  (121, (.iconst 1, 1), 0, 0, 1, [], 0),
  (122, (.if_icmp .ne 16, 3), 138, 0, 0, [], 0),
  (125, (.aload_n 0, 1), 0, 0, 0, [], 0),
  (126, (.dup, 1), 0, 0, 0, [], 0),
  (127, (.getfield 25, 3), 5, 4, 0, [0, 143], 0),
  (130, (.iconst 1, 1), 0, 0, 1, [], 0),
  (131, (.iadd, 1), 0, 0, 0, [], 0),
  (132, (.putfield 25, 3), 5, 4, 0, [0, 143, 0], 0),
  (135, (.goto (-44), 3), 91, 0, 0, [], 2),
  (138, (.iload_n 2, 1), 2, 0, 0, [], 0),
  (139, (.ifCond .eq 26, 3), 165, 0, 0, [], 0),
  (142, (.aload_n 0, 1), 0, 0, 0, [], 0),
  (143, (.getfield 55, 3), 5, 3, 0, [0, 142], 0)]
def lp_c49_3 : List lp_E := [(146, (.iload_n 1, 1), 1, 0, 0, [], 0),
  (147, (.if_icmp .ne 18, 3), 165, 0, 0, [], 0),
  (150, (.aload_n 0, 1), 0, 0, 0, [], 0),
  (151, (.getfield 29, 3), 5, 2, 0, [0, 141], 0),
  (154, (.invokestatic 112, 3), 52, 1, 0, [1, 1, 1134], 0),
  (157, (.ifCond .eq 8, 3), 165, 0, 0, [], 0),
  (160, (.aload_n 0, 1), 0, 0, 0, [], 0),
  (161, (.iconst 4, 1), 0, 0, 4, [], 0),
  (162, (.putfield 29, 3), 5, 2, 0, [0, 141, 0], 0),
  (165, (.return_, 1), 0, 0, 0, [], 0)]
/-- LampPresses$Reader.advance()V -/
def lp_c49 : List (Nat × List lp_E) := [(48, lp_c49_0), (96, lp_c49_1), (146, lp_c49_2), (166, lp_c49_3)]
/-- LampPresses$Reader.kindAt(I)I -/
def lp_c50 : List (Nat × List lp_E) := [(42, [(0, (.iload_n 1, 1), 1, 0, 0, [], 0),
  (1, (.aload_n 0, 1), 0, 0, 0, [], 0),
  (2, (.getfield 18, 3), 5, 1, 0, [1, 140], 0),
  (5, (.getfield 115, 3), 8, 0, 0, [0, 121], 0),
  (8, (.if_icmp .lt 5, 3), 13, 0, 0, [], 0),
  (11, (.iconst 0, 1), 0, 0, 0, [], 0),
  (12, (.ireturn, 1), 0, 0, 0, [], 0),
  (13, (.aload_n 0, 1), 0, 0, 0, [], 0),
  (14, (.iload_n 1, 1), 1, 0, 0, [], 0),
  (15, (.invokevirtual 99, 3), 51, 2, 0, [0, 1, 1137], 0),
  (18, (.istore_n 2, 1), 2, 0, 0, [], 0),
  (19, (.iload_n 2, 1), 2, 0, 0, [], 0),
  (20, (.bipush 97, 2), 0, 0, 97, [], 0),
  (22, (.if_icmp .lt 11, 3), 33, 0, 0, [], 0),
  (25, (.iload_n 2, 1), 2, 0, 0, [], 0),
  (26, (.bipush 122, 2), 0, 0, 122, [], 0),
  (28, (.if_icmp .gt 5, 3), 33, 0, 0, [], 0),
  (31, (.iconst 1, 1), 0, 0, 1, [], 0),
  (32, (.ireturn, 1), 0, 0, 0, [], 0),
  (33, (.iload_n 2, 1), 2, 0, 0, [], 0),
  (34, (.bipush 48, 2), 0, 0, 48, [], 0),
  (36, (.if_icmp .lt 11, 3), 47, 0, 0, [], 0),
  (39, (.iload_n 2, 1), 2, 0, 0, [], 0),
  (40, (.bipush 57, 2), 0, 0, 57, [], 0)]),
 (59, [(42, (.if_icmp .gt 5, 3), 47, 0, 0, [], 0),
  (45, (.iconst 2, 1), 0, 0, 2, [], 0),
  (46, (.ireturn, 1), 0, 0, 0, [], 0),
  (47, (.iload_n 2, 1), 2, 0, 0, [], 0),
  (48, (.bipush 59, 2), 0, 0, 59, [], 0),
  (50, (.if_icmp .ne 7, 3), 57, 0, 0, [], 0),
  (53, (.iconst 3, 1), 0, 0, 3, [], 0),
  (54, (.goto 4, 3), 58, 0, 0, [], 0),
  (57, (.iconst 4, 1), 0, 0, 4, [], 0),
  (58, (.ireturn, 1), 0, 0, 0, [], 0)])]
/-- LampPresses$Reader.byteAt(I)I -/
def lp_c51 : List (Nat × List lp_E) := [(29, [(0, (.iload_n 1, 1), 1, 0, 0, [], 0),
  (1, (.ifCond .lt 26, 3), 27, 0, 0, [], 0),
  (4, (.iload_n 1, 1), 1, 0, 0, [], 0),
  (5, (.aload_n 0, 1), 0, 0, 0, [], 0),
  (6, (.getfield 18, 3), 5, 1, 0, [1, 140], 0),
  (9, (.getfield 115, 3), 8, 0, 0, [0, 121], 0),
  (12, (.if_icmp .ge 15, 3), 27, 0, 0, [], 0),
  (15, (.aload_n 0, 1), 0, 0, 0, [], 0),
  (16, (.getfield 18, 3), 5, 1, 0, [1, 140], 0),
  (19, (.getfield 125, 3), 8, 1, 0, [1, 123], 0),
  (22, (.iload_n 1, 1), 1, 0, 0, [], 0),
  (23, (.baload, 1), 21, 0, 0, [], 0),
  (24, (.goto 4, 3), 28, 0, 0, [], 0),
  (27, (.iconst 0, 1), 0, 0, 0, [], 0),
  (28, (.ireturn, 1), 0, 0, 0, [], 0)])]
/-- LampPresses$Reader.isSpelled(I)Z -/
def lp_c52 : List (Nat × List lp_E) := [(16, [(0, (.iload_n 0, 1), 0, 0, 0, [], 0),
  (1, (.iconst 1, 1), 0, 0, 1, [], 0),
  (2, (.if_icmp .eq 8, 3), 10, 0, 0, [], 0),
  (5, (.iload_n 0, 1), 0, 0, 0, [], 0),
  (6, (.iconst 2, 1), 0, 0, 2, [], 0),
  (7, (.if_icmp .ne 7, 3), 14, 0, 0, [], 0),
  (10, (.iconst 1, 1), 0, 0, 1, [], 0),
  (11, (.goto 4, 3), 15, 0, 0, [], 0),
  (14, (.iconst 0, 1), 0, 0, 0, [], 0),
  (15, (.ireturn, 1), 1, 0, 0, [], 0)])]
/-- LampPresses$Reader.isGap(I)Z -/
def lp_c53 : List (Nat × List lp_E) := [(18, [(0, (.iload_n 0, 1), 0, 0, 0, [], 0),
  (1, (.bipush 32, 2), 0, 0, 32, [], 0),
  (3, (.if_icmp .eq 9, 3), 12, 0, 0, [], 0),
  (6, (.iload_n 0, 1), 0, 0, 0, [], 0),
  (7, (.bipush 10, 2), 0, 0, 10, [], 0),
  (9, (.if_icmp .ne 7, 3), 16, 0, 0, [], 0),
  (12, (.iconst 1, 1), 0, 0, 1, [], 0),
  (13, (.goto 4, 3), 17, 0, 0, [], 0),
  (16, (.iconst 0, 1), 0, 0, 0, [], 0),
  (17, (.ireturn, 1), 1, 0, 0, [], 0)])]
/-- LampPresses$Search.<init>(Z)V -/
def lp_c54 : List (Nat × List lp_E) := [(26, [(0, (.aload_n 0, 1), 0, 0, 0, [], 0),
  (1, (.invokespecial 3, 3), 0, 1, 0, [5, 0, 209], 0),
  (4, (.aload_n 0, 1), 0, 0, 0, [], 0),
  (5, (.bipush 10, 2), 0, 0, 10, [], 0),
  (7, (.newarray .int, 2), 20, 0, 0, [], 0),
  (9, (.putfield 9, 3), 6, 2, 0, [1, 214, 1], 0),
  (12, (.aload_n 0, 1), 0, 0, 0, [], 0),
  (13, (.bipush 10, 2), 0, 0, 10, [], 0),
  (15, (.newarray .int, 2), 20, 0, 0, [], 0),
  (17, (.putfield 15, 3), 6, 3, 0, [1, 216, 1], 0),
  (20, (.aload_n 0, 1), 0, 0, 0, [], 0),
  (21, (.iload_n 1, 1), 1, 0, 0, [], 0),
  (22, (.putfield 18, 3), 6, 4, 0, [2, 217, 1], 0),
  (25, (.return_, 1), 0, 0, 0, [], 0)])]
/-- LampPresses$Search.seek(LLampPresses$Solver;[I)V -/
def lp_c55 : List (Nat × List lp_E) := [(26, [(0, (.aload_n 2, 1), 2, 0, 0, [], 0),
  (1, (.iconst 0, 1), 0, 0, 0, [], 0),
  (2, (.aload_n 0, 1), 0, 0, 0, [], 0),
  (3, (.getfield 15, 3), 6, 3, 0, [1, 216], 0),
  (6, (.iconst 0, 1), 0, 0, 0, [], 0),
  (7, (.bipush 10, 2), 0, 0, 10, [], 0),
  (9, (.invokestatic 22, 3), 0, 5, 0, [6, 0, 3054], 0),
  (12, (.aload_n 0, 1), 0, 0, 0, [], 0),
  (13, (.bipush 41, 2), 0, 0, 41, [], 0),
  (15, (.putfield 28, 3), 6, 1, 0, [0, 211, 0], 0),
  (18, (.aload_n 0, 1), 0, 0, 0, [], 0),
  (19, (.aload_n 1, 1), 1, 0, 0, [], 0),
  (20, (.iconst 0, 1), 0, 0, 0, [], 0),
  (21, (.iconst 0, 1), 0, 0, 0, [], 0),
  (22, (.invokestatic 32, 3), 56, 4, 0, [1, 0, 3055], 0),
  (25, (.return_, 1), 0, 0, 0, [], 0)])]
def lp_c56_0 : List lp_E := [(0, (.iload_n 2, 1), 2, 0, 0, [], 0),
  (1, (.aload_n 1, 1), 1, 0, 0, [], 0),
  (2, (.getfield 36, 3), 7, 2, 0, [0, 165], 0),
  (5, (.if_icmp .le 4, 3), 9, 0, 0, [], 0),
  (8, (.return_, 1), 0, 0, 0, [], 0),
  (9, (.iload_n 2, 1), 2, 0, 0, [], 0),
  (10, (.ifCond .ne 7, 3), 17, 0, 0, [], 0),
  (13, (.iconst 0, 1), 0, 0, 0, [], 0),
  (14, (.goto 11, 3), 25, 0, 0, [], 0),
  (17, (.aload_n 1, 1), 1, 0, 0, [], 0),
  (18, (.getfield 41, 3), 7, 9, 0, [1, 178], 0),
  (21, (.iload_n 2, 1), 2, 0, 0, [], 0),
  (22, (.iconst 1, 1), 0, 0, 1, [], 0),
  (23, (.isub, 1), 0, 0, 0, [], 0),
  (24, (.iaload, 1), 20, 0, 0, [], 0),
  (25, (.istore 4, 2), 4, 0, 0, [], 0),
  (27, (.iload_n 2, 1), 2, 0, 0, [], 0),
  (28, (.aload_n 1, 1), 1, 0, 0, [], 0),
  (29, (.getfield 36, 3), 7, 2, 0, [0, 165], 0),
  (32, (.if_icmp .ge 12, 3), 44, 0, 0, [], 0),
  (35, (.aload_n 1, 1), 1, 0, 0, [], 0),
  (36, (.getfield 41, 3), 7, 9, 0, [1, 178], 0),
  (39, (.iload_n 2, 1), 2, 0, 0, [], 0),
  (40, (.iaload, 1), 20, 0, 0, [], 0)]
def lp_c56_1 : List lp_E := [(41, (.goto 7, 3), 48, 0, 0, [], 0),
  (44, (.aload_n 1, 1), 1, 0, 0, [], 0),
  (45, (.getfield 44, 3), 7, 4, 0, [0, 171], 0),
  (48, (.istore 5, 2), 5, 0, 0, [], 0),
  (50, (.iload_n 3, 1), 3, 0, 0, [], 0),
  (51, (.aload_n 0, 1), 0, 0, 0, [], 0),
  (52, (.iload 4, 2), 4, 0, 0, [], 0),
  (54, (.iload 5, 2), 5, 0, 0, [], 0),
  (56, (.invokevirtual 47, 3), 57, 3, 0, [0, 1, 3058], 0),
  (59, (.iadd, 1), 0, 0, 0, [], 0),
  (60, (.istore 6, 2), 6, 0, 0, [], 0),
  (62, (.iload 6, 2), 6, 0, 0, [], 0),
  (64, (.aload_n 0, 1), 0, 0, 0, [], 0),
  (65, (.getfield 28, 3), 6, 1, 0, [0, 211], 0),
  (68, (.if_icmp .lt 4, 3), 72, 0, 0, [], 0),
  (71, (.return_, 1), 0, 0, 0, [], 0),
  (72, (.iload_n 2, 1), 2, 0, 0, [], 0),
  (73, (.aload_n 1, 1), 1, 0, 0, [], 0),
  (74, (.getfield 36, 3), 7, 2, 0, [0, 165], 0),
  (77, (.if_icmp .ne 25, 3), 102, 0, 0, [], 0),
  (80, (.aload_n 0, 1), 0, 0, 0, [], 0),
  (81, (.iload 6, 2), 6, 0, 0, [], 0),
  (83, (.putfield 28, 3), 6, 1, 0, [0, 211, 0], 0),
  (86, (.aload_n 0, 1), 0, 0, 0, [], 0)]
def lp_c56_2 : List lp_E := [(87, (.getfield 15, 3), 6, 3, 0, [1, 216], 0),
  (90, (.iconst 0, 1), 0, 0, 0, [], 0),
  (91, (.aload_n 0, 1), 0, 0, 0, [], 0),
  (92, (.getfield 9, 3), 6, 2, 0, [1, 214], 0),
  (95, (.iconst 0, 1), 0, 0, 0, [], 0),
  (96, (.bipush 10, 2), 0, 0, 10, [], 0),
  (98, (.invokestatic 22, 3), 0, 5, 0, [6, 0, 3054], 0),
  (101, (.return_, 1), 0, 0, 0, [], 0),
  (102, (.iconst 0, 1), 0, 0, 0, [], 0),
  (103, (.istore 7, 2), 7, 0, 0, [], 1),
  (105, (.iload 7, 2), 7, 0, 0, [], 0),
  (107, (.aload_n 1, 1), 1, 0, 0, [], 0),
  (108, (.getfield 51, 3), 7, 3, 0, [0, 169], 0),
  (111, (.if_icmp .ge 28, 3), 139, 0, 0, [], 0),
  (114, (.aload_n 0, 1), 0, 0, 0, [], 0),
  (115, (.aload_n 1, 1), 1, 0, 0, [], 0),
  (116, (.iload_n 2, 1), 2, 0, 0, [], 0),
  (117, (.iconst 1, 1), 0, 0, 1, [], 0),
  (118, (.iadd, 1), 0, 0, 0, [], 0),
  (119, (.iload 6, 2), 6, 0, 0, [], 0),
  (121, (.invokestatic 32, 3), 56, 4, 0, [1, 0, 3055], 0),
  (124, (.aload_n 1, 1), 1, 0, 0, [], 0),
  (125, (.iload_n 2, 1), 2, 0, 0, [], 0),
  (126, (.aload_n 0, 1), 0, 0, 0, [], 0)]
def lp_c56_3 : List lp_E := [(127, (.getfield 15, 3), 6, 3, 0, [1, 216], 0),
  (130, (.invokevirtual 54, 3), 74, 3, 0, [0, 0, 3063], 0),
  (133, (.iinc 7 1, 3), 7, 0, 1, [], 0),
  (136, (.goto (-31), 3), 105, 0, 0, [], 2),
  (139, (.return_, 1), 0, 0, 0, [], 0)]
/-- LampPresses$Search.descend(LLampPresses$Search;LLampPresses$Solver;II)V -/
def lp_c56 : List (Nat × List lp_E) := [(41, lp_c56_0), (87, lp_c56_1), (127, lp_c56_2), (140, lp_c56_3)]
/-- LampPresses$Search.price(II)I -/
def lp_c57 : List (Nat × List lp_E) := [(42, [(0, (.iconst 0, 1), 0, 0, 0, [], 0),
  (1, (.istore_n 3, 1), 3, 0, 0, [], 0),
  (2, (.iload_n 1, 1), 1, 0, 0, [], 0),
  (3, (.istore 4, 2), 4, 0, 0, [], 1),
  (5, (.iload 4, 2), 4, 0, 0, [], 0),
  (7, (.iload_n 2, 1), 2, 0, 0, [], 0),
  (8, (.if_icmp .ge 40, 3), 48, 0, 0, [], 0),
  (11, (.iload_n 3, 1), 3, 0, 0, [], 0),
  (12, (.aload_n 0, 1), 0, 0, 0, [], 0),
  (13, (.getfield 18, 3), 6, 4, 0, [0, 217], 0),
  (16, (.ifCond .eq 17, 3), 33, 0, 0, [], 0),
  (19, (.aload_n 0, 1), 0, 0, 0, [], 0),
  (20, (.getfield 15, 3), 6, 3, 0, [1, 216], 0),
  (23, (.iload 4, 2), 4, 0, 0, [], 0),
  (25, (.iaload, 1), 20, 0, 0, [], 0),
  (26, (.iconst 1, 1), 0, 0, 1, [], 0),
  (27, (.invokestatic 58, 3), 284, 2, 0, [8, 1, 3062], 0),
  (30, (.goto 10, 3), 40, 0, 0, [], 0),
  (33, (.aload_n 0, 1), 0, 0, 0, [], 0),
  (34, (.getfield 15, 3), 6, 3, 0, [1, 216], 0),
  (37, (.iload 4, 2), 4, 0, 0, [], 0),
  (39, (.iaload, 1), 20, 0, 0, [], 0),
  (40, (.iadd, 1), 0, 0, 0, [], 0),
  (41, (.istore_n 3, 1), 3, 0, 0, [], 0)]),
 (50, [(42, (.iinc 4 1, 3), 4, 0, 1, [], 0),
  (45, (.goto (-40), 3), 5, 0, 0, [], 2),
  (48, (.iload_n 3, 1), 3, 0, 0, [], 0),
  (49, (.ireturn, 1), 0, 0, 0, [], 0)])]
/-- LampPresses$Solver.<init>()V -/
def lp_c58 : List (Nat × List lp_E) := [(52, [(0, (.aload_n 0, 1), 0, 0, 0, [], 0),
  (1, (.invokespecial 3, 3), 0, 1, 0, [5, 0, 160], 0),
  (4, (.aload_n 0, 1), 0, 0, 0, [], 0),
  (5, (.bipush 10, 2), 0, 0, 10, [], 0),
  (7, (.bipush 10, 2), 0, 0, 10, [], 0),
  (9, (.multianewarray 9 2, 4), 23, 0, 0, [161], 0),
  (13, (.putfield 11, 3), 7, 5, 0, [1, 172, 1], 0),
  (16, (.aload_n 0, 1), 0, 0, 0, [], 0),
  (17, (.bipush 10, 2), 0, 0, 10, [], 0),
  (19, (.bipush 10, 2), 0, 0, 10, [], 0),
  (21, (.multianewarray 9 2, 4), 23, 0, 0, [161], 0),
  (25, (.putfield 16, 3), 7, 6, 0, [1, 174, 1], 0),
  (28, (.aload_n 0, 1), 0, 0, 0, [], 0),
  (29, (.bipush 10, 2), 0, 0, 10, [], 0),
  (31, (.newarray .int, 2), 20, 0, 0, [], 0),
  (33, (.putfield 19, 3), 7, 7, 0, [1, 175, 1], 0),
  (36, (.aload_n 0, 1), 0, 0, 0, [], 0),
  (37, (.bipush 10, 2), 0, 0, 10, [], 0),
  (39, (.newarray .int, 2), 20, 0, 0, [], 0),
  (41, (.putfield 23, 3), 7, 8, 0, [1, 176, 1], 0),
  (44, (.aload_n 0, 1), 0, 0, 0, [], 0),
  (45, (.bipush 10, 2), 0, 0, 10, [], 0),
  (47, (.newarray .int, 2), 20, 0, 0, [], 0),
  (49, (.putfield 26, 3), 7, 9, 0, [1, 177, 1], 0)]),
 (65, [(52, (.aload_n 0, 1), 0, 0, 0, [], 0),
  (53, (.bipush 10, 2), 0, 0, 10, [], 0),
  (55, (.bipush 10, 2), 0, 0, 10, [], 0),
  (57, (.multianewarray 9 2, 4), 23, 0, 0, [161], 0),
  (61, (.putfield 29, 3), 7, 10, 0, [1, 179, 1], 0),
  (64, (.return_, 1), 0, 0, 0, [], 0)])]
/-- LampPresses$Solver.load(LLampPresses$Net;)V -/
def lp_c59 : List (Nat × List lp_E) := [(40, [(0, (.aload_n 0, 1), 0, 0, 0, [], 0),
  (1, (.aload_n 1, 1), 1, 0, 0, [], 0),
  (2, (.getfield 32, 3), 3, 0, 0, [0, 56], 0),
  (5, (.putfield 38, 3), 7, 3, 0, [0, 168, 0], 0),
  (8, (.aload_n 0, 1), 0, 0, 0, [], 0),
  (9, (.aload_n 1, 1), 1, 0, 0, [], 0),
  (10, (.getfield 39, 3), 3, 1, 0, [0, 61], 0),
  (13, (.putfield 42, 3), 7, 4, 0, [0, 170, 0], 0),
  (16, (.iconst 0, 1), 0, 0, 0, [], 0),
  (17, (.istore_n 2, 1), 2, 0, 0, [], 1),
  (18, (.iload_n 2, 1), 2, 0, 0, [], 0),
  (19, (.aload_n 0, 1), 0, 0, 0, [], 0),
  (20, (.getfield 42, 3), 7, 4, 0, [0, 170], 0),
  (23, (.if_icmp .ge 30, 3), 53, 0, 0, [], 0),
  (26, (.aload_n 1, 1), 1, 0, 0, [], 0),
  (27, (.getfield 45, 3), 3, 5, 0, [1, 73], 0),
  (30, (.iload_n 2, 1), 2, 0, 0, [], 0),
  (31, (.aaload, 1), 23, 0, 0, [], 0),
  (32, (.iconst 0, 1), 0, 0, 0, [], 0),
  (33, (.aload_n 0, 1), 0, 0, 0, [], 0),
  (34, (.getfield 11, 3), 7, 5, 0, [1, 172], 0),
  (37, (.iload_n 2, 1), 2, 0, 0, [], 0),
  (38, (.aaload, 1), 23, 0, 0, [], 0),
  (39, (.iconst 0, 1), 0, 0, 0, [], 0)]),
 (54, [(40, (.aload_n 0, 1), 0, 0, 0, [], 0),
  (41, (.getfield 42, 3), 7, 4, 0, [0, 170], 0),
  (44, (.invokestatic 48, 3), 0, 5, 0, [6, 0, 2130], 0),
  (47, (.iinc 2 1, 3), 2, 0, 1, [], 0),
  (50, (.goto (-32), 3), 18, 0, 0, [], 2),
  (53, (.return_, 1), 0, 0, 0, [], 0)])]
/-- LampPresses$Solver.clearRow(I)V -/
def lp_c60 : List (Nat × List lp_E) := [(11, [(0, (.aload_n 0, 1), 0, 0, 0, [], 0),
  (1, (.getfield 11, 3), 7, 5, 0, [1, 172], 0),
  (4, (.iload_n 1, 1), 1, 0, 0, [], 0),
  (5, (.aaload, 1), 23, 0, 0, [], 0),
  (6, (.iconst 0, 1), 0, 0, 0, [], 0),
  (7, (.invokestatic 54, 3), 291, 2, 0, [1, 0, 2135], 0),
  (10, (.return_, 1), 0, 0, 0, [], 0)])]
/-- LampPresses$Solver.clearColumn(I)V -/
def lp_c61 : List (Nat × List lp_E) := [(26, [(0, (.iconst 0, 1), 0, 0, 0, [], 0),
  (1, (.istore_n 2, 1), 2, 0, 0, [], 1),
  (2, (.iload_n 2, 1), 2, 0, 0, [], 0),
  (3, (.aload_n 0, 1), 0, 0, 0, [], 0),
  (4, (.getfield 42, 3), 7, 4, 0, [0, 170], 0),
  (7, (.if_icmp .ge 18, 3), 25, 0, 0, [], 0),
  (10, (.aload_n 0, 1), 0, 0, 0, [], 0),
  (11, (.getfield 11, 3), 7, 5, 0, [1, 172], 0),
  (14, (.iload_n 2, 1), 2, 0, 0, [], 0),
  (15, (.aaload, 1), 23, 0, 0, [], 0),
  (16, (.iload_n 1, 1), 1, 0, 0, [], 0),
  (17, (.iconst 0, 1), 0, 0, 0, [], 0),
  (18, (.iastore, 1), 0, 0, 0, [], 0),
  (19, (.iinc 2 1, 3), 2, 0, 1, [], 0),
  (22, (.goto (-20), 3), 2, 0, 0, [], 2),
  (25, (.return_, 1), 0, 0, 0, [], 0)])]
/-- LampPresses$Solver.reduce()V -/
def lp_c62 : List (Nat × List lp_E) := [(40, [(0, (.iconst 0, 1), 0, 0, 0, [], 0),
  (1, (.istore_n 1, 1), 1, 0, 0, [], 1),
  (2, (.iload_n 1, 1), 1, 0, 0, [], 0),
  (3, (.aload_n 0, 1), 0, 0, 0, [], 0),
  (4, (.getfield 42, 3), 7, 4, 0, [0, 170], 0),
  (7, (.if_icmp .ge 28, 3), 35, 0, 0, [], 0),
  (10, (.aload_n 0, 1), 0, 0, 0, [], 0),
  (11, (.getfield 16, 3), 7, 6, 0, [1, 174], 0),
  (14, (.iload_n 1, 1), 1, 0, 0, [], 0),
  (15, (.aaload, 1), 23, 0, 0, [], 0),
  (16, (.iconst 0, 1), 0, 0, 0, [], 0),
  (17, (.invokestatic 54, 3), 291, 2, 0, [1, 0, 2135], 0),
  (20, (.aload_n 0, 1), 0, 0, 0, [], 0),
  (21, (.getfield 16, 3), 7, 6, 0, [1, 174], 0),
  (24, (.iload_n 1, 1), 1, 0, 0, [], 0),
  (25, (.aaload, 1), 23, 0, 0, [], 0),
  (26, (.iload_n 1, 1), 1, 0, 0, [], 0),
  (27, (.iconst 1, 1), 0, 0, 1, [], 0),
  (28, (.iastore, 1), 0, 0, 0, [], 0),
  (29, (.iinc 1 1, 3), 1, 0, 1, [], 0),
  (32, (.goto (-30), 3), 2, 0, 0, [], 2),
  (35, (.aload_n 0, 1), 0, 0, 0, [], 0),
  (36, (.iconst 0, 1), 0, 0, 0, [], 0),
  (37, (.putfield 60, 3), 7, 1, 0, [0, 163, 0], 0)]),
 (76, [(40, (.aload_n 0, 1), 0, 0, 0, [], 0),
  (41, (.getfield 42, 3), 7, 4, 0, [0, 170], 0),
  (44, (.iconst 1, 1), 0, 0, 1, [], 0),
  (45, (.isub, 1), 0, 0, 0, [], 0),
  (46, (.istore_n 1, 1), 1, 0, 0, [], 1),
  (47, (.iload_n 1, 1), 1, 0, 0, [], 0),
  (48, (.ifCond .lt 58, 3), 106, 0, 0, [], 0),
  (51, (.aload_n 0, 1), 0, 0, 0, [], 0),
  (52, (.iload_n 1, 1), 1, 0, 0, [], 0),
  (53, (.invokevirtual 63, 3), 63, 2, 0, [0, 1, 2138], 0),
  (56, (.istore_n 2, 1), 2, 0, 0, [], 0),
  (57, (.aload_n 0, 1), 0, 0, 0, [], 0),
  (58, (.getfield 19, 3), 7, 7, 0, [1, 175], 0),
  (61, (.iload_n 1, 1), 1, 0, 0, [], 0),
  (62, (.iconst (-1), 1), 0, 0, (-1), [], 0),
  (63, (.iastore, 1), 0, 0, 0, [], 0),
  (64, (.iload_n 2, 1), 2, 0, 0, [], 0),
  (65, (.iconst (-1), 1), 0, 0, (-1), [], 0),
  (66, (.if_icmp .eq 34, 3), 100, 0, 0, [], 0),
  (69, (.aload_n 0, 1), 0, 0, 0, [], 0),
  (70, (.iload_n 2, 1), 2, 0, 0, [], 0),
  (71, (.iload_n 1, 1), 1, 0, 0, [], 0),
  (72, (.invokevirtual 67, 3), 64, 3, 0, [0, 0, 2142], 0),
  (75, (.aload_n 0, 1), 0, 0, 0, [], 0)]),
 (120, [(76, (.iload_n 1, 1), 1, 0, 0, [], 0),
  (77, (.invokevirtual 71, 3), 66, 2, 0, [0, 0, 2151], 0),
  (80, (.aload_n 0, 1), 0, 0, 0, [], 0),
  (81, (.getfield 19, 3), 7, 7, 0, [1, 175], 0),
  (84, (.iload_n 1, 1), 1, 0, 0, [], 0),
  (85, (.aload_n 0, 1), 0, 0, 0, [], 0),
  (86, (.getfield 60, 3), 7, 1, 0, [0, 163], 0),
  (89, (.iastore, 1), 0, 0, 0, [], 0),
  (90, (.aload_n 0, 1), 0, 0, 0, [], 0),
  (91, (.dup, 1), 0, 0, 0, [], 0),
  (92, (.getfield 60, 3), 7, 1, 0, [0, 163], 0),
  (95, (.iconst 1, 1), 0, 0, 1, [], 0),
  (96, (.iadd, 1), 0, 0, 0, [], 0),
  (97, (.putfield 60, 3), 7, 1, 0, [0, 163, 0], 0),
  (100, (.iinc 1 (-1), 3), 1, 0, (-1), [], 0),
  (103, (.goto (-56), 3), 47, 0, 0, [], 2),
  (106, (.aload_n 0, 1), 0, 0, 0, [], 0),
  (107, (.aload_n 0, 1), 0, 0, 0, [], 0),
  (108, (.getfield 42, 3), 7, 4, 0, [0, 170], 0),
  (111, (.aload_n 0, 1), 0, 0, 0, [], 0),
  (112, (.getfield 60, 3), 7, 1, 0, [0, 163], 0),
  (115, (.isub, 1), 0, 0, 0, [], 0),
  (116, (.putfield 75, 3), 7, 2, 0, [0, 166, 0], 0),
  (119, (.return_, 1), 0, 0, 0, [], 0)])]
/-- LampPresses$Solver.rowWith(I)I -/
def lp_c63 : List (Nat × List lp_E) := [(34, [(0, (.aload_n 0, 1), 0, 0, 0, [], 0),
  (1, (.getfield 60, 3), 7, 1, 0, [0, 163], 0),
  (4, (.istore_n 2, 1), 2, 0, 0, [], 1),
  (5, (.iload_n 2, 1), 2, 0, 0, [], 0),
  (6, (.aload_n 0, 1), 0, 0, 0, [], 0),
  (7, (.getfield 42, 3), 7, 4, 0, [0, 170], 0),
  (10, (.if_icmp .ge 22, 3), 32, 0, 0, [], 0),
  (13, (.aload_n 0, 1), 0, 0, 0, [], 0),
  (14, (.getfield 11, 3), 7, 5, 0, [1, 172], 0),
  (17, (.iload_n 2, 1), 2, 0, 0, [], 0),
  (18, (.aaload, 1), 23, 0, 0, [], 0),
  (19, (.iload_n 1, 1), 1, 0, 0, [], 0),
  (20, (.iaload, 1), 20, 0, 0, [], 0),
  (21, (.ifCond .eq 5, 3), 26, 0, 0, [], 0),
  (24, (.iload_n 2, 1), 2, 0, 0, [], 0),
  (25, (.ireturn, 1), 0, 0, 0, [], 0),
  (26, (.iinc 2 1, 3), 2, 0, 1, [], 0),
  (29, (.goto (-24), 3), 5, 0, 0, [], 2),
  (32, (.iconst (-1), 1), 0, 0, (-1), [], 0),
  (33, (.ireturn, 1), 0, 0, 0, [], 0)])]
def lp_c64_0 : List lp_E := [(0, (.aload_n 0, 1), 0, 0, 0, [], 0),
  (1, (.aload_n 0, 1), 0, 0, 0, [], 0),
  (2, (.getfield 11, 3), 7, 5, 0, [1, 172], 0),
  (5, (.iload_n 1, 1), 1, 0, 0, [], 0),
  (6, (.aaload, 1), 23, 0, 0, [], 0),
  (7, (.iload_n 2, 1), 2, 0, 0, [], 0),
  (8, (.iaload, 1), 20, 0, 0, [], 0),
  (9, (.invokevirtual 78, 3), 65, 2, 0, [0, 1, 2146], 0),
  (12, (.istore_n 3, 1), 3, 0, 0, [], 0),
  (13, (.iconst 0, 1), 0, 0, 0, [], 0),
  (14, (.istore 4, 2), 4, 0, 0, [], 1),
  (16, (.iload 4, 2), 4, 0, 0, [], 0),
  (18, (.aload_n 0, 1), 0, 0, 0, [], 0),
  (19, (.getfield 42, 3), 7, 4, 0, [0, 170], 0),
  (22, (.if_icmp .ge 119, 3), 141, 0, 0, [], 0),
  (25, (.aload_n 0, 1), 0, 0, 0, [], 0),
  (26, (.getfield 11, 3), 7, 5, 0, [1, 172], 0),
  (29, (.iload_n 1, 1), 1, 0, 0, [], 0),
  (30, (.aaload, 1), 23, 0, 0, [], 0),
  (31, (.iload 4, 2), 4, 0, 0, [], 0),
  (33, (.iaload, 1), 20, 0, 0, [], 0),
  (34, (.istore 5, 2), 5, 0, 0, [], 0),
  (36, (.aload_n 0, 1), 0, 0, 0, [], 0),
  (37, (.getfield 11, 3), 7, 5, 0, [1, 172], 0)]
def lp_c64_1 : List lp_E := [(40, (.iload_n 1, 1), 1, 0, 0, [], 0),
  (41, (.aaload, 1), 23, 0, 0, [], 0),
  (42, (.iload 4, 2), 4, 0, 0, [], 0),
  (44, (.aload_n 0, 1), 0, 0, 0, [], 0),
  (45, (.getfield 11, 3), 7, 5, 0, [1, 172], 0),
  (48, (.aload_n 0, 1), 0, 0, 0, [], 0),
  (49, (.getfield 60, 3), 7, 1, 0, [0, 163], 0),
  (52, (.aaload, 1), 23, 0, 0, [], 0),
  (53, (.iload 4, 2), 4, 0, 0, [], 0),
  (55, (.iaload, 1), 20, 0, 0, [], 0),
  (56, (.iastore, 1), 0, 0, 0, [], 0),
  (57, (.aload_n 0, 1), 0, 0, 0, [], 0),
  (58, (.getfield 11, 3), 7, 5, 0, [1, 172], 0),
  (61, (.aload_n 0, 1), 0, 0, 0, [], 0),
  (62, (.getfield 60, 3), 7, 1, 0, [0, 163], 0),
  (65, (.aaload, 1), 23, 0, 0, [], 0),
  (66, (.iload 4, 2), 4, 0, 0, [], 0),
  (68, (.iload_n 3, 1), 3, 0, 0, [], 0),
  (69, (.iload 5, 2), 5, 0, 0, [], 0),
  (71, (.imul, 1), 0, 0, 0, [], 0),
  (72, (.aload_n 0, 1), 0, 0, 0, [], 0),
  (73, (.getfield 38, 3), 7, 3, 0, [0, 168], 0),
  (76, (.invokestatic 81, 3), 159, 2, 0, [3, 1, 2150], 0),
  (79, (.iastore, 1), 0, 0, 0, [], 0)]
def lp_c64_2 : List lp_E := [(80, (.aload_n 0, 1), 0, 0, 0, [], 0),
  (81, (.getfield 16, 3), 7, 6, 0, [1, 174], 0),
  (84, (.iload_n 1, 1), 1, 0, 0, [], 0),
  (85, (.aaload, 1), 23, 0, 0, [], 0),
  (86, (.iload 4, 2), 4, 0, 0, [], 0),
  (88, (.iaload, 1), 20, 0, 0, [], 0),
  (89, (.istore 6, 2), 6, 0, 0, [], 0),
  (91, (.aload_n 0, 1), 0, 0, 0, [], 0),
  (92, (.getfield 16, 3), 7, 6, 0, [1, 174], 0),
  (95, (.iload_n 1, 1), 1, 0, 0, [], 0),
  (96, (.aaload, 1), 23, 0, 0, [], 0),
  (97, (.iload 4, 2), 4, 0, 0, [], 0),
  (99, (.aload_n 0, 1), 0, 0, 0, [], 0),
  (100, (.getfield 16, 3), 7, 6, 0, [1, 174], 0),
  (103, (.aload_n 0, 1), 0, 0, 0, [], 0),
  (104, (.getfield 60, 3), 7, 1, 0, [0, 163], 0),
  (107, (.aaload, 1), 23, 0, 0, [], 0),
  (108, (.iload 4, 2), 4, 0, 0, [], 0),
  (110, (.iaload, 1), 20, 0, 0, [], 0),
  (111, (.iastore, 1), 0, 0, 0, [], 0),
  (112, (.aload_n 0, 1), 0, 0, 0, [], 0),
  (113, (.getfield 16, 3), 7, 6, 0, [1, 174], 0),
  (116, (.aload_n 0, 1), 0, 0, 0, [], 0),
  (117, (.getfield 60, 3), 7, 1, 0, [0, 163], 0)]
def lp_c64_3 : List lp_E := [(120, (.aaload, 1), 23, 0, 0, [], 0),
  (121, (.iload 4, 2), 4, 0, 0, [], 0),
  (123, (.iload_n 3, 1), 3, 0, 0, [], 0),
  (124, (.iload 6, 2), 6, 0, 0, [], 0),
  (126, (.imul, 1), 0, 0, 0, [], 0),
  (127, (.aload_n 0, 1), 0, 0, 0, [], 0),
  (128, (.getfield 38, 3), 7, 3, 0, [0, 168], 0),
  (131, (.invokestatic 81, 3), 159, 2, 0, [3, 1, 2150], 0),
  (134, (.iastore, 1), 0, 0, 0, [], 0),
  (135, (.iinc 4 1, 3), 4, 0, 1, [], 0),
  (138, (.goto (-122), 3), 16, 0, 0, [], 2),
  (141, (.return_, 1), 0, 0, 0, [], 0)]
/-- LampPresses$Solver.bringUp(II)V -/
def lp_c64 : List (Nat × List lp_E) := [(40, lp_c64_0), (80, lp_c64_1), (120, lp_c64_2), (142, lp_c64_3)]
/-- LampPresses$Solver.inverse(I)I -/
def lp_c65 : List (Nat × List lp_E) := [(34, [(0, (.iconst 1, 1), 0, 0, 1, [], 0),
  (1, (.istore_n 2, 1), 2, 0, 0, [], 1),
  (2, (.iload_n 2, 1), 2, 0, 0, [], 0),
  (3, (.aload_n 0, 1), 0, 0, 0, [], 0),
  (4, (.getfield 38, 3), 7, 3, 0, [0, 168], 0),
  (7, (.if_icmp .ge 25, 3), 32, 0, 0, [], 0),
  (10, (.iload_n 2, 1), 2, 0, 0, [], 0),
  (11, (.iload_n 1, 1), 1, 0, 0, [], 0),
  (12, (.imul, 1), 0, 0, 0, [], 0),
  (13, (.aload_n 0, 1), 0, 0, 0, [], 0),
  (14, (.getfield 38, 3), 7, 3, 0, [0, 168], 0),
  (17, (.invokestatic 81, 3), 159, 2, 0, [3, 1, 2150], 0),
  (20, (.iconst 1, 1), 0, 0, 1, [], 0),
  (21, (.if_icmp .ne 5, 3), 26, 0, 0, [], 0),
  (24, (.iload_n 2, 1), 2, 0, 0, [], 0),
  (25, (.ireturn, 1), 0, 0, 0, [], 0),
  (26, (.iinc 2 1, 3), 2, 0, 1, [], 0),
  (29, (.goto (-27), 3), 2, 0, 0, [], 2),
  (32, (.iconst 1, 1), 0, 0, 1, [], 0),
  (33, (.ireturn, 1), 0, 0, 0, [], 0)])]
/-- LampPresses$Solver.clearOthers(I)V -/
def lp_c66 : List (Nat × List lp_E) := [(40, [(0, (.iconst 0, 1), 0, 0, 0, [], 0),
  (1, (.istore_n 2, 1), 2, 0, 0, [], 1),
  (2, (.iload_n 2, 1), 2, 0, 0, [], 0),
  (3, (.aload_n 0, 1), 0, 0, 0, [], 0),
  (4, (.getfield 42, 3), 7, 4, 0, [0, 170], 0),
  (7, (.if_icmp .ge 82, 3), 89, 0, 0, [], 0),
  (10, (.iload_n 2, 1), 2, 0, 0, [], 0),
  (11, (.aload_n 0, 1), 0, 0, 0, [], 0),
  (12, (.getfield 60, 3), 7, 1, 0, [0, 163], 0),
  (15, (.if_icmp .eq 68, 3), 83, 0, 0, [], 0),
  (18, (.aload_n 0, 1), 0, 0, 0, [], 0),
  (19, (.getfield 11, 3), 7, 5, 0, [1, 172], 0),
  (22, (.iload_n 2, 1), 2, 0, 0, [], 0),
  (23, (.aaload, 1), 23, 0, 0, [], 0),
  (24, (.iload_n 1, 1), 1, 0, 0, [], 0),
  (25, (.iaload, 1), 20, 0, 0, [], 0),
  (26, (.ifCond .eq 57, 3), 83, 0, 0, [], 0),
  (29, (.aload_n 0, 1), 0, 0, 0, [], 0),
  (30, (.getfield 38, 3), 7, 3, 0, [0, 168], 0),
  (33, (.aload_n 0, 1), 0, 0, 0, [], 0),
  (34, (.getfield 11, 3), 7, 5, 0, [1, 172], 0),
  (37, (.iload_n 2, 1), 2, 0, 0, [], 0),
  (38, (.aaload, 1), 23, 0, 0, [], 0),
  (39, (.iload_n 1, 1), 1, 0, 0, [], 0)]),
 (78, [(40, (.iaload, 1), 20, 0, 0, [], 0),
  (41, (.isub, 1), 0, 0, 0, [], 0),
  (42, (.istore_n 3, 1), 3, 0, 0, [], 0),
  (43, (.aload_n 0, 1), 0, 0, 0, [], 0),
  (44, (.aload_n 0, 1), 0, 0, 0, [], 0),
  (45, (.getfield 11, 3), 7, 5, 0, [1, 172], 0),
  (48, (.iload_n 2, 1), 2, 0, 0, [], 0),
  (49, (.aaload, 1), 23, 0, 0, [], 0),
  (50, (.aload_n 0, 1), 0, 0, 0, [], 0),
  (51, (.getfield 11, 3), 7, 5, 0, [1, 172], 0),
  (54, (.aload_n 0, 1), 0, 0, 0, [], 0),
  (55, (.getfield 60, 3), 7, 1, 0, [0, 163], 0),
  (58, (.aaload, 1), 23, 0, 0, [], 0),
  (59, (.iload_n 3, 1), 3, 0, 0, [], 0),
  (60, (.invokevirtual 85, 3), 67, 4, 0, [0, 0, 2155], 0),
  (63, (.aload_n 0, 1), 0, 0, 0, [], 0),
  (64, (.aload_n 0, 1), 0, 0, 0, [], 0),
  (65, (.getfield 16, 3), 7, 6, 0, [1, 174], 0),
  (68, (.iload_n 2, 1), 2, 0, 0, [], 0),
  (69, (.aaload, 1), 23, 0, 0, [], 0),
  (70, (.aload_n 0, 1), 0, 0, 0, [], 0),
  (71, (.getfield 16, 3), 7, 6, 0, [1, 174], 0),
  (74, (.aload_n 0, 1), 0, 0, 0, [], 0),
  (75, (.getfield 60, 3), 7, 1, 0, [0, 163], 0)]),
 (90, [(78, (.aaload, 1), 23, 0, 0, [], 0),
  (79, (.iload_n 3, 1), 3, 0, 0, [], 0),
  (80, (.invokevirtual 85, 3), 67, 4, 0, [0, 0, 2155], 0),
  (83, (.iinc 2 1, 3), 2, 0, 1, [], 0),
  (86, (.goto (-84), 3), 2, 0, 0, [], 2),
  (89, (.return_, 1), 0, 0, 0, [], 0)])]
/-- LampPresses$Solver.addTimes([I[II)V -/
def lp_c67 : List (Nat × List lp_E) := [(41, [(0, (.iconst 0, 1), 0, 0, 0, [], 0),
  (1, (.istore 4, 2), 4, 0, 0, [], 1),
  (3, (.iload 4, 2), 4, 0, 0, [], 0),
  (5, (.aload_n 0, 1), 0, 0, 0, [], 0),
  (6, (.getfield 42, 3), 7, 4, 0, [0, 170], 0),
  (9, (.if_icmp .ge 31, 3), 40, 0, 0, [], 0),
  (12, (.aload_n 1, 1), 1, 0, 0, [], 0),
  (13, (.iload 4, 2), 4, 0, 0, [], 0),
  (15, (.aload_n 1, 1), 1, 0, 0, [], 0),
  (16, (.iload 4, 2), 4, 0, 0, [], 0),
  (18, (.iaload, 1), 20, 0, 0, [], 0),
  (19, (.iload_n 3, 1), 3, 0, 0, [], 0),
  (20, (.aload_n 2, 1), 2, 0, 0, [], 0),
  (21, (.iload 4, 2), 4, 0, 0, [], 0),
  (23, (.iaload, 1), 20, 0, 0, [], 0),
  (24, (.imul, 1), 0, 0, 0, [], 0),
  (25, (.iadd, 1), 0, 0, 0, [], 0),
  (26, (.aload_n 0, 1), 0, 0, 0, [], 0),
  (27, (.getfield 38, 3), 7, 3, 0, [0, 168], 0),
  (30, (.invokestatic 81, 3), 159, 2, 0, [3, 1, 2150], 0),
  (33, (.iastore, 1), 0, 0, 0, [], 0),
  (34, (.iinc 4 1, 3), 4, 0, 1, [], 0),
  (37, (.goto (-34), 3), 3, 0, 0, [], 2),
  (40, (.return_, 1), 0, 0, 0, [], 0)])]
/-- LampPresses$Solver.findBases()V -/
def lp_c68 : List (Nat × List lp_E) := [(36, [(0, (.iconst 0, 1), 0, 0, 0, [], 0),
  (1, (.istore_n 1, 1), 1, 0, 0, [], 0),
  (2, (.iconst 0, 1), 0, 0, 0, [], 0),
  (3, (.istore_n 2, 1), 2, 0, 0, [], 1),
  (4, (.iload_n 2, 1), 2, 0, 0, [], 0),
  (5, (.aload_n 0, 1), 0, 0, 0, [], 0),
  (6, (.getfield 42, 3), 7, 4, 0, [0, 170], 0),
  (9, (.if_icmp .ge 40, 3), 49, 0, 0, [], 0),
  (12, (.aload_n 0, 1), 0, 0, 0, [], 0),
  (13, (.getfield 19, 3), 7, 7, 0, [1, 175], 0),
  (16, (.iload_n 2, 1), 2, 0, 0, [], 0),
  (17, (.iaload, 1), 20, 0, 0, [], 0),
  (18, (.iconst (-1), 1), 0, 0, (-1), [], 0),
  (19, (.if_icmp .ne 24, 3), 43, 0, 0, [], 0),
  (22, (.aload_n 0, 1), 0, 0, 0, [], 0),
  (23, (.getfield 26, 3), 7, 9, 0, [1, 177], 0),
  (26, (.iload_n 1, 1), 1, 0, 0, [], 0),
  (27, (.iload_n 2, 1), 2, 0, 0, [], 0),
  (28, (.iastore, 1), 0, 0, 0, [], 0),
  (29, (.aload_n 0, 1), 0, 0, 0, [], 0),
  (30, (.aload_n 0, 1), 0, 0, 0, [], 0),
  (31, (.getfield 29, 3), 7, 10, 0, [1, 179], 0),
  (34, (.iload_n 1, 1), 1, 0, 0, [], 0),
  (35, (.aaload, 1), 23, 0, 0, [], 0)]),
 (50, [(36, (.iload_n 2, 1), 2, 0, 0, [], 0),
  (37, (.invokevirtual 89, 3), 69, 3, 0, [0, 0, 2163], 0),
  (40, (.iinc 1 1, 3), 1, 0, 1, [], 0),
  (43, (.iinc 2 1, 3), 2, 0, 1, [], 0),
  (46, (.goto (-42), 3), 4, 0, 0, [], 2),
  (49, (.return_, 1), 0, 0, 0, [], 0)])]
/-- LampPresses$Solver.fillBase([II)V -/
def lp_c69 : List (Nat × List lp_E) := [(40, [(0, (.iconst 0, 1), 0, 0, 0, [], 0),
  (1, (.istore_n 3, 1), 3, 0, 0, [], 1),
  (2, (.iload_n 3, 1), 3, 0, 0, [], 0),
  (3, (.aload_n 0, 1), 0, 0, 0, [], 0),
  (4, (.getfield 42, 3), 7, 4, 0, [0, 170], 0),
  (7, (.if_icmp .ge 51, 3), 58, 0, 0, [], 0),
  (10, (.aload_n 1, 1), 1, 0, 0, [], 0),
  (11, (.iload_n 3, 1), 3, 0, 0, [], 0),
  (12, (.aload_n 0, 1), 0, 0, 0, [], 0),
  (13, (.getfield 19, 3), 7, 7, 0, [1, 175], 0),
  (16, (.iload_n 3, 1), 3, 0, 0, [], 0),
  (17, (.iaload, 1), 20, 0, 0, [], 0),
  (18, (.iconst (-1), 1), 0, 0, (-1), [], 0),
  (19, (.if_icmp .ne 7, 3), 26, 0, 0, [], 0),
  (22, (.iconst 0, 1), 0, 0, 0, [], 0),
  (23, (.goto 28, 3), 51, 0, 0, [], 0),
  (26, (.aload_n 0, 1), 0, 0, 0, [], 0),
  (27, (.getfield 38, 3), 7, 3, 0, [0, 168], 0),
  (30, (.aload_n 0, 1), 0, 0, 0, [], 0),
  (31, (.getfield 11, 3), 7, 5, 0, [1, 172], 0),
  (34, (.aload_n 0, 1), 0, 0, 0, [], 0),
  (35, (.getfield 19, 3), 7, 7, 0, [1, 175], 0),
  (38, (.iload_n 3, 1), 3, 0, 0, [], 0),
  (39, (.iaload, 1), 20, 0, 0, [], 0)]),
 (63, [(40, (.aaload, 1), 23, 0, 0, [], 0),
  (41, (.iload_n 2, 1), 2, 0, 0, [], 0),
  (42, (.iaload, 1), 20, 0, 0, [], 0),
  (43, (.isub, 1), 0, 0, 0, [], 0),
  (44, (.aload_n 0, 1), 0, 0, 0, [], 0),
  (45, (.getfield 38, 3), 7, 3, 0, [0, 168], 0),
  (48, (.invokestatic 81, 3), 159, 2, 0, [3, 1, 2150], 0),
  (51, (.iastore, 1), 0, 0, 0, [], 0),
  (52, (.iinc 3 1, 3), 3, 0, 1, [], 0),
  (55, (.goto (-53), 3), 2, 0, 0, [], 2),
  (58, (.aload_n 1, 1), 1, 0, 0, [], 0),
  (59, (.iload_n 2, 1), 2, 0, 0, [], 0),
  (60, (.iconst 1, 1), 0, 0, 1, [], 0),
  (61, (.iastore, 1), 0, 0, 0, [], 0),
  (62, (.return_, 1), 0, 0, 0, [], 0)])]
/-- LampPresses$Solver.fits([I)Z -/
def lp_c70 : List (Nat × List lp_E) := [(38, [(0, (.iconst 0, 1), 0, 0, 0, [], 0),
  (1, (.istore_n 2, 1), 2, 0, 0, [], 1),
  (2, (.iload_n 2, 1), 2, 0, 0, [], 0),
  (3, (.aload_n 0, 1), 0, 0, 0, [], 0),
  (4, (.getfield 42, 3), 7, 4, 0, [0, 170], 0),
  (7, (.if_icmp .ge 79, 3), 86, 0, 0, [], 0),
  (10, (.iconst 0, 1), 0, 0, 0, [], 0),
  (11, (.istore_n 3, 1), 3, 0, 0, [], 0),
  (12, (.iconst 0, 1), 0, 0, 0, [], 0),
  (13, (.istore 4, 2), 4, 0, 0, [], 1),
  (15, (.iload 4, 2), 4, 0, 0, [], 0),
  (17, (.aload_n 0, 1), 0, 0, 0, [], 0),
  (18, (.getfield 42, 3), 7, 4, 0, [0, 170], 0),
  (21, (.if_icmp .ge 26, 3), 47, 0, 0, [], 0),
  (24, (.iload_n 3, 1), 3, 0, 0, [], 0),
  (25, (.aload_n 0, 1), 0, 0, 0, [], 0),
  (26, (.getfield 16, 3), 7, 6, 0, [1, 174], 0),
  (29, (.iload_n 2, 1), 2, 0, 0, [], 0),
  (30, (.aaload, 1), 23, 0, 0, [], 0),
  (31, (.iload 4, 2), 4, 0, 0, [], 0),
  (33, (.iaload, 1), 20, 0, 0, [], 0),
  (34, (.aload_n 1, 1), 1, 0, 0, [], 0),
  (35, (.iload 4, 2), 4, 0, 0, [], 0),
  (37, (.iaload, 1), 20, 0, 0, [], 0)]),
 (80, [(38, (.imul, 1), 0, 0, 0, [], 0),
  (39, (.iadd, 1), 0, 0, 0, [], 0),
  (40, (.istore_n 3, 1), 3, 0, 0, [], 0),
  (41, (.iinc 4 1, 3), 4, 0, 1, [], 0),
  (44, (.goto (-29), 3), 15, 0, 0, [], 2),
  (47, (.aload_n 0, 1), 0, 0, 0, [], 0),
  (48, (.getfield 23, 3), 7, 8, 0, [1, 176], 0),
  (51, (.iload_n 2, 1), 2, 0, 0, [], 0),
  (52, (.iload_n 3, 1), 3, 0, 0, [], 0),
  (53, (.aload_n 0, 1), 0, 0, 0, [], 0),
  (54, (.getfield 38, 3), 7, 3, 0, [0, 168], 0),
  (57, (.invokestatic 81, 3), 159, 2, 0, [3, 1, 2150], 0),
  (60, (.iastore, 1), 0, 0, 0, [], 0),
  (61, (.iload_n 2, 1), 2, 0, 0, [], 0),
  (62, (.aload_n 0, 1), 0, 0, 0, [], 0),
  (63, (.getfield 60, 3), 7, 1, 0, [0, 163], 0),
  (66, (.if_icmp .lt 14, 3), 80, 0, 0, [], 0),
  (69, (.aload_n 0, 1), 0, 0, 0, [], 0),
  (70, (.getfield 23, 3), 7, 8, 0, [1, 176], 0),
  (73, (.iload_n 2, 1), 2, 0, 0, [], 0),
  (74, (.iaload, 1), 20, 0, 0, [], 0),
  (75, (.ifCond .eq 5, 3), 80, 0, 0, [], 0),
  (78, (.iconst 0, 1), 0, 0, 0, [], 0),
  (79, (.ireturn, 1), 1, 0, 0, [], 0)]),
 (88, [(80, (.iinc 2 1, 3), 2, 0, 1, [], 0),
  (83, (.goto (-81), 3), 2, 0, 0, [], 2),
  (86, (.iconst 1, 1), 0, 0, 1, [], 0),
  (87, (.ireturn, 1), 1, 0, 0, [], 0)])]
/-- LampPresses$Solver.firstRow([I)V -/
def lp_c71 : List (Nat × List lp_E) := [(38, [(0, (.iconst 0, 1), 0, 0, 0, [], 0),
  (1, (.istore_n 2, 1), 2, 0, 0, [], 1),
  (2, (.iload_n 2, 1), 2, 0, 0, [], 0),
  (3, (.aload_n 0, 1), 0, 0, 0, [], 0),
  (4, (.getfield 42, 3), 7, 4, 0, [0, 170], 0),
  (7, (.if_icmp .ge 37, 3), 44, 0, 0, [], 0),
  (10, (.aload_n 1, 1), 1, 0, 0, [], 0),
  (11, (.iload_n 2, 1), 2, 0, 0, [], 0),
  (12, (.aload_n 0, 1), 0, 0, 0, [], 0),
  (13, (.getfield 19, 3), 7, 7, 0, [1, 175], 0),
  (16, (.iload_n 2, 1), 2, 0, 0, [], 0),
  (17, (.iaload, 1), 20, 0, 0, [], 0),
  (18, (.iconst (-1), 1), 0, 0, (-1), [], 0),
  (19, (.if_icmp .ne 7, 3), 26, 0, 0, [], 0),
  (22, (.iconst 0, 1), 0, 0, 0, [], 0),
  (23, (.goto 14, 3), 37, 0, 0, [], 0),
  (26, (.aload_n 0, 1), 0, 0, 0, [], 0),
  (27, (.getfield 23, 3), 7, 8, 0, [1, 176], 0),
  (30, (.aload_n 0, 1), 0, 0, 0, [], 0),
  (31, (.getfield 19, 3), 7, 7, 0, [1, 175], 0),
  (34, (.iload_n 2, 1), 2, 0, 0, [], 0),
  (35, (.iaload, 1), 20, 0, 0, [], 0),
  (36, (.iaload, 1), 20, 0, 0, [], 0),
  (37, (.iastore, 1), 0, 0, 0, [], 0)]),
 (45, [(38, (.iinc 2 1, 3), 2, 0, 1, [], 0),
  (41, (.goto (-39), 3), 2, 0, 0, [], 2),
  (44, (.return_, 1), 0, 0, 0, [], 0)])]
/-- LampPresses$Solver.isChosen(I)Z -/
def lp_c72 : List (Nat × List lp_E) := [(16, [(0, (.aload_n 0, 1), 0, 0, 0, [], 0),
  (1, (.getfield 19, 3), 7, 7, 0, [1, 175], 0),
  (4, (.iload_n 1, 1), 1, 0, 0, [], 0),
  (5, (.iaload, 1), 20, 0, 0, [], 0),
  (6, (.iconst (-1), 1), 0, 0, (-1), [], 0),
  (7, (.if_icmp .ne 7, 3), 14, 0, 0, [], 0),
  (10, (.iconst 1, 1), 0, 0, 1, [], 0),
  (11, (.goto 4, 3), 15, 0, 0, [], 0),
  (14, (.iconst 0, 1), 0, 0, 0, [], 0),
  (15, (.ireturn, 1), 1, 0, 0, [], 0)])]
/-- LampPresses$Solver.isMoved(I)Z -/
def lp_c73 : List (Nat × List lp_E) := [(31, [(0, (.iconst 0, 1), 0, 0, 0, [], 0),
  (1, (.istore_n 2, 1), 2, 0, 0, [], 1),
  (2, (.iload_n 2, 1), 2, 0, 0, [], 0),
  (3, (.aload_n 0, 1), 0, 0, 0, [], 0),
  (4, (.getfield 75, 3), 7, 2, 0, [0, 166], 0),
  (7, (.if_icmp .ge 22, 3), 29, 0, 0, [], 0),
  (10, (.aload_n 0, 1), 0, 0, 0, [], 0),
  (11, (.getfield 29, 3), 7, 10, 0, [1, 179], 0),
  (14, (.iload_n 2, 1), 2, 0, 0, [], 0),
  (15, (.aaload, 1), 23, 0, 0, [], 0),
  (16, (.iload_n 1, 1), 1, 0, 0, [], 0),
  (17, (.iaload, 1), 20, 0, 0, [], 0),
  (18, (.ifCond .eq 5, 3), 23, 0, 0, [], 0),
  (21, (.iconst 1, 1), 0, 0, 1, [], 0),
  (22, (.ireturn, 1), 1, 0, 0, [], 0),
  (23, (.iinc 2 1, 3), 2, 0, 1, [], 0),
  (26, (.goto (-24), 3), 2, 0, 0, [], 2),
  (29, (.iconst 0, 1), 0, 0, 0, [], 0),
  (30, (.ireturn, 1), 1, 0, 0, [], 0)])]
/-- LampPresses$Solver.addBase(I[I)V -/
def lp_c74 : List (Nat × List lp_E) := [(34, [(0, (.aload_n 0, 1), 0, 0, 0, [], 0),
  (1, (.getfield 26, 3), 7, 9, 0, [1, 177], 0),
  (4, (.iload_n 1, 1), 1, 0, 0, [], 0),
  (5, (.iaload, 1), 20, 0, 0, [], 0),
  (6, (.istore_n 3, 1), 3, 0, 0, [], 1),
  (7, (.iload_n 3, 1), 3, 0, 0, [], 0),
  (8, (.aload_n 0, 1), 0, 0, 0, [], 0),
  (9, (.getfield 42, 3), 7, 4, 0, [0, 170], 0),
  (12, (.if_icmp .ge 47, 3), 59, 0, 0, [], 0),
  (15, (.aload_n 2, 1), 2, 0, 0, [], 0),
  (16, (.iload_n 3, 1), 3, 0, 0, [], 0),
  (17, (.iaload, 1), 20, 0, 0, [], 0),
  (18, (.aload_n 0, 1), 0, 0, 0, [], 0),
  (19, (.getfield 29, 3), 7, 10, 0, [1, 179], 0),
  (22, (.iload_n 1, 1), 1, 0, 0, [], 0),
  (23, (.aaload, 1), 23, 0, 0, [], 0),
  (24, (.iload_n 3, 1), 3, 0, 0, [], 0),
  (25, (.iaload, 1), 20, 0, 0, [], 0),
  (26, (.iadd, 1), 0, 0, 0, [], 0),
  (27, (.istore 4, 2), 4, 0, 0, [], 0),
  (29, (.aload_n 2, 1), 2, 0, 0, [], 0),
  (30, (.iload_n 3, 1), 3, 0, 0, [], 0),
  (31, (.iload 4, 2), 4, 0, 0, [], 0),
  (33, (.aload_n 0, 1), 0, 0, 0, [], 0)]),
 (60, [(34, (.getfield 38, 3), 7, 3, 0, [0, 168], 0),
  (37, (.if_icmp .lt 13, 3), 50, 0, 0, [], 0),
  (40, (.iload 4, 2), 4, 0, 0, [], 0),
  (42, (.aload_n 0, 1), 0, 0, 0, [], 0),
  (43, (.getfield 38, 3), 7, 3, 0, [0, 168], 0),
  (46, (.isub, 1), 0, 0, 0, [], 0),
  (47, (.goto 5, 3), 52, 0, 0, [], 0),
  (50, (.iload 4, 2), 4, 0, 0, [], 0),
  (52, (.iastore, 1), 0, 0, 0, [], 0),
  (53, (.iinc 3 1, 3), 3, 0, 1, [], 0),
  (56, (.goto (-49), 3), 7, 0, 0, [], 2),
  (59, (.return_, 1), 0, 0, 0, [], 0)])]
/-- LampPresses$Tape.<init>()V -/
def lp_c75 : List (Nat × List lp_E) := [(14, [(0, (.aload_n 0, 1), 0, 0, 0, [], 0),
  (1, (.invokespecial 3, 3), 0, 1, 0, [5, 0, 118], 0),
  (4, (.aload_n 0, 1), 0, 0, 0, [], 0),
  (5, (.sipush 500, 3), 0, 0, 500, [], 0),
  (8, (.newarray .byte, 2), 21, 0, 0, [], 0),
  (10, (.putfield 9, 3), 8, 1, 0, [1, 122, 1], 0),
  (13, (.return_, 1), 0, 0, 0, [], 0)])]
/-- LampPresses$Tape.put(I)V -/
def lp_c76 : List (Nat × List lp_E) := [(43, [(0, (.bipush 24, 2), 0, 0, 24, [], 0),
  (2, (.istore_n 2, 1), 2, 0, 0, [], 1),
  (3, (.iload_n 2, 1), 2, 0, 0, [], 0),
  (4, (.ifCond .lt 42, 3), 46, 0, 0, [], 0),
  (7, (.aload_n 0, 1), 0, 0, 0, [], 0),
  (8, (.getfield 15, 3), 8, 0, 0, [0, 120], 0),
  (11, (.sipush 500, 3), 0, 0, 500, [], 0),
  (14, (.if_icmp .ge 32, 3), 46, 0, 0, [], 0),
  (17, (.aload_n 0, 1), 0, 0, 0, [], 0),
  (18, (.getfield 9, 3), 8, 1, 0, [1, 122], 0),
  (21, (.aload_n 0, 1), 0, 0, 0, [], 0),
  (22, (.getfield 15, 3), 8, 0, 0, [0, 120], 0),
  (25, (.iload_n 1, 1), 1, 0, 0, [], 0),
  (26, (.iload_n 2, 1), 2, 0, 0, [], 0),
  (27, (.iushr, 1), 0, 0, 0, [], 0),
  (28, (.i2b, 1), 0, 0, 0, [], 0),
  (29, (.bastore, 1), 21, 0, 0, [], 0),
  (30, (.aload_n 0, 1), 0, 0, 0, [], 0),
  (31, (.dup, 1), 0, 0, 0, [], 0),
  (32, (.getfield 15, 3), 8, 0, 0, [0, 120], 0),
  (35, (.iconst 1, 1), 0, 0, 1, [], 0),
  (36, (.iadd, 1), 0, 0, 0, [], 0),
  (37, (.putfield 15, 3), 8, 0, 0, [0, 120, 0], 0),
  (40, (.iinc 2 (-8), 3), 2, 0, (-8), [], 0)]),
 (47, [(43, (.goto (-40), 3), 3, 0, 0, [], 2),
  (46, (.return_, 1), 0, 0, 0, [], 0)])]
def lp_c77_0 : List lp_E := [(0, (.aload_n 0, 1), 0, 0, 0, [], 0),
  (1, (.invokespecial 3, 3), 0, 1, 0, [5, 0, 25], 0),
  (4, (.aload_n 0, 1), 0, 0, 0, [], 0),
  (5, (.new 9, 3), 3, 7, 0, [28], 0),
  (8, (.dup, 1), 0, 0, 0, [], 0),
  (9, (.invokespecial 11, 3), 17, 1, 0, [4, 0, 30], 0),
  (12, (.putfield 12, 3), 9, 0, 0, [1, 1054, 1], 0),
  (15, (.aload_n 0, 1), 0, 0, 0, [], 0),
  (16, (.new 16, 3), 4, 3, 0, [93], 0),
  (19, (.dup, 1), 0, 0, 0, [], 0),
  (20, (.invokespecial 18, 3), 36, 1, 0, [2, 0, 95], 0),
  (23, (.putfield 19, 3), 9, 1, 0, [1, 1055, 1], 0),
  (26, (.aload_n 0, 1), 0, 0, 0, [], 0),
  (27, (.new 23, 3), 8, 2, 0, [113], 0),
  (30, (.dup, 1), 0, 0, 0, [], 0),
  (31, (.invokespecial 25, 3), 75, 1, 0, [4, 0, 115], 0),
  (34, (.putfield 26, 3), 9, 2, 0, [1, 1056, 1], 0),
  (37, (.aload_n 0, 1), 0, 0, 0, [], 0),
  (38, (.new 30, 3), 5, 5, 0, [130], 0),
  (41, (.dup, 1), 0, 0, 0, [], 0),
  (42, (.aload_n 0, 1), 0, 0, 0, [], 0),
  (43, (.getfield 26, 3), 9, 2, 0, [1, 1056], 0),
  (46, (.invokespecial 32, 3), 39, 2, 0, [2, 0, 132], 0),
  (49, (.putfield 35, 3), 9, 3, 0, [1, 1057, 1], 0)]
def lp_c77_1 : List lp_E := [(52, (.aload_n 0, 1), 0, 0, 0, [], 0),
  (53, (.new 39, 3), 7, 11, 0, [155], 0),
  (56, (.dup, 1), 0, 0, 0, [], 0),
  (57, (.invokespecial 41, 3), 58, 1, 0, [4, 0, 157], 0),
  (60, (.putfield 42, 3), 9, 4, 0, [1, 1058, 1], 0),
  (63, (.aload_n 0, 1), 0, 0, 0, [], 0),
  (64, (.new 39, 3), 7, 11, 0, [155], 0),
  (67, (.dup, 1), 0, 0, 0, [], 0),
  (68, (.invokespecial 41, 3), 58, 1, 0, [4, 0, 157], 0),
  (71, (.putfield 46, 3), 9, 5, 0, [1, 1059, 1], 0),
  (74, (.aload_n 0, 1), 0, 0, 0, [], 0),
  (75, (.new 49, 3), 6, 5, 0, [204], 0),
  (78, (.dup, 1), 0, 0, 0, [], 0),
  (79, (.iconst 0, 1), 0, 0, 0, [], 0),
  (80, (.invokespecial 51, 3), 54, 2, 0, [2, 0, 206], 0),
  (83, (.putfield 54, 3), 9, 6, 0, [1, 1060, 1], 0),
  (86, (.aload_n 0, 1), 0, 0, 0, [], 0),
  (87, (.new 49, 3), 6, 5, 0, [204], 0),
  (90, (.dup, 1), 0, 0, 0, [], 0),
  (91, (.iconst 1, 1), 0, 0, 1, [], 0),
  (92, (.invokespecial 51, 3), 54, 2, 0, [2, 0, 206], 0),
  (95, (.putfield 58, 3), 9, 7, 0, [1, 1061, 1], 0),
  (98, (.aload_n 0, 1), 0, 0, 0, [], 0),
  (99, (.new 49, 3), 6, 5, 0, [204], 0)]
def lp_c77_2 : List lp_E := [(102, (.dup, 1), 0, 0, 0, [], 0),
  (103, (.iconst 0, 1), 0, 0, 0, [], 0),
  (104, (.invokespecial 51, 3), 54, 2, 0, [2, 0, 206], 0),
  (107, (.putfield 61, 3), 9, 8, 0, [1, 1062, 1], 0),
  (110, (.aload_n 0, 1), 0, 0, 0, [], 0),
  (111, (.new 64, 3), 1, 11, 0, [229], 0),
  (114, (.dup, 1), 0, 0, 0, [], 0),
  (115, (.invokespecial 66, 3), 4, 1, 0, [4, 0, 231], 0),
  (118, (.putfield 67, 3), 9, 9, 0, [1, 1063, 1], 0),
  (121, (.aload_n 0, 1), 0, 0, 0, [], 0),
  (122, (.new 71, 3), 2, 3, 0, [1034], 0),
  (125, (.dup, 1), 0, 0, 0, [], 0),
  (126, (.sipush 900, 3), 0, 0, 900, [], 0),
  (129, (.invokespecial 73, 3), 11, 2, 0, [2, 0, 1036], 0),
  (132, (.putfield 76, 3), 9, 10, 0, [1, 1064, 1], 0),
  (135, (.aload_n 0, 1), 0, 0, 0, [], 0),
  (136, (.new 71, 3), 2, 3, 0, [1034], 0),
  (139, (.dup, 1), 0, 0, 0, [], 0),
  (140, (.bipush 120, 2), 0, 0, 120, [], 0),
  (142, (.invokespecial 73, 3), 11, 2, 0, [2, 0, 1036], 0),
  (145, (.putfield 80, 3), 9, 11, 0, [1, 1065, 1], 0),
  (148, (.aload_n 0, 1), 0, 0, 0, [], 0),
  (149, (.bipush 10, 2), 0, 0, 10, [], 0),
  (151, (.newarray .int, 2), 20, 0, 0, [], 0)]
def lp_c77_3 : List lp_E := [(153, (.putfield 83, 3), 9, 12, 0, [1, 1066, 1], 0),
  (156, (.aload_n 0, 1), 0, 0, 0, [], 0),
  (157, (.bipush 10, 2), 0, 0, 10, [], 0),
  (159, (.newarray .int, 2), 20, 0, 0, [], 0),
  (161, (.putfield 87, 3), 9, 13, 0, [1, 1067, 1], 0),
  (164, (.aload_n 0, 1), 0, 0, 0, [], 0),
  (165, (.bipush 10, 2), 0, 0, 10, [], 0),
  (167, (.newarray .int, 2), 20, 0, 0, [], 0),
  (169, (.putfield 90, 3), 9, 14, 0, [1, 1068, 1], 0),
  (172, (.return_, 1), 0, 0, 0, [], 0)]
/-- LampPresses.<init>()V -/
def lp_c77 : List (Nat × List lp_E) := [(52, lp_c77_0), (102, lp_c77_1), (153, lp_c77_2), (173, lp_c77_3)]
/-- LampPresses.feed(IIIII)I -/
def lp_c78 : List (Nat × List lp_E) := [(48, [(0, (.aload_n 0, 1), 0, 0, 0, [], 0),
  (1, (.getfield 26, 3), 9, 2, 0, [1, 1056], 0),
  (4, (.getfield 93, 3), 8, 0, 0, [0, 119], 0),
  (7, (.bipush 20, 2), 0, 0, 20, [], 0),
  (9, (.iadd, 1), 0, 0, 0, [], 0),
  (10, (.sipush 500, 3), 0, 0, 500, [], 0),
  (13, (.if_icmp .le 5, 3), 18, 0, 0, [], 0),
  (16, (.iconst (-1), 1), 0, 0, (-1), [], 0),
  (17, (.ireturn, 1), 0, 0, 0, [], 0),
  (18, (.aload_n 0, 1), 0, 0, 0, [], 0),
  (19, (.getfield 26, 3), 9, 2, 0, [1, 1056], 0),
  (22, (.iload_n 1, 1), 1, 0, 0, [], 0),
  (23, (.invokevirtual 97, 3), 76, 2, 0, [0, 0, 1110], 0),
  (26, (.aload_n 0, 1), 0, 0, 0, [], 0),
  (27, (.getfield 26, 3), 9, 2, 0, [1, 1056], 0),
  (30, (.iload_n 2, 1), 2, 0, 0, [], 0),
  (31, (.invokevirtual 97, 3), 76, 2, 0, [0, 0, 1110], 0),
  (34, (.aload_n 0, 1), 0, 0, 0, [], 0),
  (35, (.getfield 26, 3), 9, 2, 0, [1, 1056], 0),
  (38, (.iload_n 3, 1), 3, 0, 0, [], 0),
  (39, (.invokevirtual 97, 3), 76, 2, 0, [0, 0, 1110], 0),
  (42, (.aload_n 0, 1), 0, 0, 0, [], 0),
  (43, (.getfield 26, 3), 9, 2, 0, [1, 1056], 0),
  (46, (.iload 4, 2), 4, 0, 0, [], 0)]),
 (68, [(48, (.invokevirtual 97, 3), 76, 2, 0, [0, 0, 1110], 0),
  (51, (.aload_n 0, 1), 0, 0, 0, [], 0),
  (52, (.getfield 26, 3), 9, 2, 0, [1, 1056], 0),
  (55, (.iload 5, 2), 5, 0, 0, [], 0),
  (57, (.invokevirtual 97, 3), 76, 2, 0, [0, 0, 1110], 0),
  (60, (.aload_n 0, 1), 0, 0, 0, [], 0),
  (61, (.getfield 26, 3), 9, 2, 0, [1, 1056], 0),
  (64, (.getfield 93, 3), 8, 0, 0, [0, 119], 0),
  (67, (.ireturn, 1), 0, 0, 0, [], 0)])]
/-- LampPresses.back(I)I -/
def lp_c79 : List (Nat × List lp_E) := [(38, [(0, (.iload_n 1, 1), 1, 0, 0, [], 0),
  (1, (.ifCond .lt 14, 3), 15, 0, 0, [], 0),
  (4, (.iload_n 1, 1), 1, 0, 0, [], 0),
  (5, (.aload_n 0, 1), 0, 0, 0, [], 0),
  (6, (.getfield 26, 3), 9, 2, 0, [1, 1056], 0),
  (9, (.getfield 93, 3), 8, 0, 0, [0, 119], 0),
  (12, (.if_icmp .le 5, 3), 17, 0, 0, [], 0),
  (15, (.iconst (-1), 1), 0, 0, (-1), [], 0),
  (16, (.ireturn, 1), 0, 0, 0, [], 0),
  (17, (.aload_n 0, 1), 0, 0, 0, [], 0),
  (18, (.getfield 26, 3), 9, 2, 0, [1, 1056], 0),
  (21, (.dup, 1), 0, 0, 0, [], 0),
  (22, (.getfield 93, 3), 8, 0, 0, [0, 119], 0),
  (25, (.iload_n 1, 1), 1, 0, 0, [], 0),
  (26, (.isub, 1), 0, 0, 0, [], 0),
  (27, (.putfield 93, 3), 8, 0, 0, [0, 119, 0], 0),
  (30, (.aload_n 0, 1), 0, 0, 0, [], 0),
  (31, (.getfield 26, 3), 9, 2, 0, [1, 1056], 0),
  (34, (.getfield 93, 3), 8, 0, 0, [0, 119], 0),
  (37, (.ireturn, 1), 0, 0, 0, [], 0)])]
/-- LampPresses.text()I -/
def lp_c80 : List (Nat × List lp_E) := [(45, [(0, (.aload_n 0, 1), 0, 0, 0, [], 0),
  (1, (.getfield 35, 3), 9, 3, 0, [1, 1057], 0),
  (4, (.invokevirtual 100, 3), 40, 1, 0, [0, 1, 1122], 0),
  (7, (.istore_n 1, 1), 1, 0, 0, [], 0),
  (8, (.aload_n 0, 1), 0, 0, 0, [], 0),
  (9, (.getfield 26, 3), 9, 2, 0, [1, 1056], 0),
  (12, (.iconst 0, 1), 0, 0, 0, [], 0),
  (13, (.putfield 93, 3), 8, 0, 0, [0, 119, 0], 0),
  (16, (.iload_n 1, 1), 1, 0, 0, [], 0),
  (17, (.iconst (-1), 1), 0, 0, (-1), [], 0),
  (18, (.if_icmp .eq 8, 3), 26, 0, 0, [], 0),
  (21, (.bipush (-4), 2), 0, 0, (-4), [], 0),
  (23, (.iload_n 1, 1), 1, 0, 0, [], 0),
  (24, (.isub, 1), 0, 0, 0, [], 0),
  (25, (.ireturn, 1), 0, 0, 0, [], 0),
  (26, (.aload_n 0, 1), 0, 0, 0, [], 0),
  (27, (.getfield 12, 3), 9, 0, 0, [1, 1054], 0),
  (30, (.aload_n 0, 1), 0, 0, 0, [], 0),
  (31, (.getfield 35, 3), 9, 3, 0, [1, 1057], 0),
  (34, (.getfield 104, 3), 5, 0, 0, [1, 139], 0),
  (37, (.invokevirtual 107, 3), 21, 2, 0, [0, 0, 2007], 0),
  (40, (.aload_n 0, 1), 0, 0, 0, [], 0),
  (41, (.getfield 19, 3), 9, 1, 0, [1, 1055], 0),
  (44, (.iconst 0, 1), 0, 0, 0, [], 0)]),
 (60, [(45, (.putfield 111, 3), 4, 0, 0, [0, 103, 0], 0),
  (48, (.aload_n 0, 1), 0, 0, 0, [], 0),
  (49, (.invokevirtual 114, 3), 136, 1, 0, [0, 0, 2019], 0),
  (52, (.aload_n 0, 1), 0, 0, 0, [], 0),
  (53, (.getfield 12, 3), 9, 0, 0, [1, 1054], 0),
  (56, (.getfield 117, 3), 3, 1, 0, [0, 64], 0),
  (59, (.ireturn, 1), 0, 0, 0, [], 0)])]
/-- LampPresses.lamp(I)I -/
def lp_c81 : List (Nat × List lp_E) := [(47, [(0, (.aload_n 0, 1), 0, 0, 0, [], 0),
  (1, (.getfield 12, 3), 9, 0, 0, [1, 1054], 0),
  (4, (.iload_n 1, 1), 1, 0, 0, [], 0),
  (5, (.invokevirtual 120, 3), 19, 2, 0, [0, 1, 2031], 0),
  (8, (.ifCond .eq 15, 3), 23, 0, 0, [], 0),
  (11, (.aload_n 0, 1), 0, 0, 0, [], 0),
  (12, (.getfield 12, 3), 9, 0, 0, [1, 1054], 0),
  (15, (.getfield 117, 3), 3, 1, 0, [0, 64], 0),
  (18, (.bipush 10, 2), 0, 0, 10, [], 0),
  (20, (.if_icmp .lt 5, 3), 25, 0, 0, [], 0),
  (23, (.iconst (-1), 1), 0, 0, (-1), [], 0),
  (24, (.ireturn, 1), 0, 0, 0, [], 0),
  (25, (.aload_n 0, 1), 0, 0, 0, [], 0),
  (26, (.invokevirtual 124, 3), 134, 1, 0, [0, 0, 2035], 0),
  (29, (.aload_n 0, 1), 0, 0, 0, [], 0),
  (30, (.getfield 12, 3), 9, 0, 0, [1, 1054], 0),
  (33, (.iload_n 1, 1), 1, 0, 0, [], 0),
  (34, (.iconst 1, 1), 0, 0, 1, [], 0),
  (35, (.iconst 0, 1), 0, 0, 0, [], 0),
  (36, (.invokevirtual 127, 3), 22, 4, 0, [0, 0, 2047], 0),
  (39, (.aload_n 0, 1), 0, 0, 0, [], 0),
  (40, (.getfield 12, 3), 9, 0, 0, [1, 1054], 0),
  (43, (.getfield 117, 3), 3, 1, 0, [0, 64], 0),
  (46, (.iconst 1, 1), 0, 0, 1, [], 0)]),
 (49, [(47, (.isub, 1), 0, 0, 0, [], 0),
  (48, (.ireturn, 1), 0, 0, 0, [], 0)])]
/-- LampPresses.drop(I)Z -/
def lp_c82 : List (Nat × List lp_E) := [(27, [(0, (.aload_n 0, 1), 0, 0, 0, [], 0),
  (1, (.getfield 12, 3), 9, 0, 0, [1, 1054], 0),
  (4, (.iload_n 1, 1), 1, 0, 0, [], 0),
  (5, (.invokevirtual 131, 3), 18, 2, 0, [0, 1, 2052], 0),
  (8, (.ifCond .ne 5, 3), 13, 0, 0, [], 0),
  (11, (.iconst 0, 1), 0, 0, 0, [], 0),
  (12, (.ireturn, 1), 1, 0, 0, [], 0),
  (13, (.aload_n 0, 1), 0, 0, 0, [], 0),
  (14, (.invokevirtual 124, 3), 134, 1, 0, [0, 0, 2035], 0),
  (17, (.aload_n 0, 1), 0, 0, 0, [], 0),
  (18, (.getfield 12, 3), 9, 0, 0, [1, 1054], 0),
  (21, (.iload_n 1, 1), 1, 0, 0, [], 0),
  (22, (.invokevirtual 134, 3), 23, 2, 0, [0, 0, 2053], 0),
  (25, (.iconst 1, 1), 0, 0, 1, [], 0),
  (26, (.ireturn, 1), 1, 0, 0, [], 0)])]
/-- LampPresses.wire(III)I -/
def lp_c83 : List (Nat × List lp_E) := [(44, [(0, (.aload_n 0, 1), 0, 0, 0, [], 0),
  (1, (.iload_n 1, 1), 1, 0, 0, [], 0),
  (2, (.iload_n 2, 1), 2, 0, 0, [], 0),
  (3, (.invokevirtual 137, 3), 141, 3, 0, [0, 1, 2068], 0),
  (6, (.ifCond .eq 29, 3), 35, 0, 0, [], 0),
  (9, (.aload_n 0, 1), 0, 0, 0, [], 0),
  (10, (.getfield 12, 3), 9, 0, 0, [1, 1054], 0),
  (13, (.iload_n 3, 1), 3, 0, 0, [], 0),
  (14, (.invokevirtual 120, 3), 19, 2, 0, [0, 1, 2031], 0),
  (17, (.ifCond .eq 18, 3), 35, 0, 0, [], 0),
  (20, (.aload_n 0, 1), 0, 0, 0, [], 0),
  (21, (.getfield 12, 3), 9, 0, 0, [1, 1054], 0),
  (24, (.getfield 141, 3), 3, 5, 0, [1, 75], 0),
  (27, (.iload_n 1, 1), 1, 0, 0, [], 0),
  (28, (.aaload, 1), 23, 0, 0, [], 0),
  (29, (.iload_n 2, 1), 2, 0, 0, [], 0),
  (30, (.iaload, 1), 20, 0, 0, [], 0),
  (31, (.iload_n 3, 1), 3, 0, 0, [], 0),
  (32, (.if_icmp .ne 5, 3), 37, 0, 0, [], 0),
  (35, (.iconst (-1), 1), 0, 0, (-1), [], 0),
  (36, (.ireturn, 1), 0, 0, 0, [], 0),
  (37, (.aload_n 0, 1), 0, 0, 0, [], 0),
  (38, (.getfield 12, 3), 9, 0, 0, [1, 1054], 0),
  (41, (.getfield 141, 3), 3, 5, 0, [1, 75], 0)]),
 (67, [(44, (.iload_n 1, 1), 1, 0, 0, [], 0),
  (45, (.aaload, 1), 23, 0, 0, [], 0),
  (46, (.iload_n 2, 1), 2, 0, 0, [], 0),
  (47, (.iaload, 1), 20, 0, 0, [], 0),
  (48, (.istore 4, 2), 4, 0, 0, [], 0),
  (50, (.aload_n 0, 1), 0, 0, 0, [], 0),
  (51, (.invokevirtual 124, 3), 134, 1, 0, [0, 0, 2035], 0),
  (54, (.aload_n 0, 1), 0, 0, 0, [], 0),
  (55, (.getfield 12, 3), 9, 0, 0, [1, 1054], 0),
  (58, (.iload_n 1, 1), 1, 0, 0, [], 0),
  (59, (.iload_n 2, 1), 2, 0, 0, [], 0),
  (60, (.iload_n 3, 1), 3, 0, 0, [], 0),
  (61, (.invokevirtual 145, 3), 24, 4, 0, [0, 0, 2072], 0),
  (64, (.iload 4, 2), 4, 0, 0, [], 0),
  (66, (.ireturn, 1), 0, 0, 0, [], 0)])]
/-- LampPresses.own(II)I -/
def lp_c84 : List (Nat × List lp_E) := [(46, [(0, (.aload_n 0, 1), 0, 0, 0, [], 0),
  (1, (.getfield 12, 3), 9, 0, 0, [1, 1054], 0),
  (4, (.iload_n 1, 1), 1, 0, 0, [], 0),
  (5, (.invokevirtual 131, 3), 18, 2, 0, [0, 1, 2052], 0),
  (8, (.ifCond .eq 29, 3), 37, 0, 0, [], 0),
  (11, (.aload_n 0, 1), 0, 0, 0, [], 0),
  (12, (.getfield 12, 3), 9, 0, 0, [1, 1054], 0),
  (15, (.iload_n 2, 1), 2, 0, 0, [], 0),
  (16, (.invokevirtual 120, 3), 19, 2, 0, [0, 1, 2031], 0),
  (19, (.ifCond .eq 18, 3), 37, 0, 0, [], 0),
  (22, (.aload_n 0, 1), 0, 0, 0, [], 0),
  (23, (.getfield 12, 3), 9, 0, 0, [1, 1054], 0),
  (26, (.getfield 141, 3), 3, 5, 0, [1, 75], 0),
  (29, (.iload_n 1, 1), 1, 0, 0, [], 0),
  (30, (.aaload, 1), 23, 0, 0, [], 0),
  (31, (.iload_n 1, 1), 1, 0, 0, [], 0),
  (32, (.iaload, 1), 20, 0, 0, [], 0),
  (33, (.iload_n 2, 1), 2, 0, 0, [], 0),
  (34, (.if_icmp .ne 5, 3), 39, 0, 0, [], 0),
  (37, (.iconst (-1), 1), 0, 0, (-1), [], 0),
  (38, (.ireturn, 1), 0, 0, 0, [], 0),
  (39, (.aload_n 0, 1), 0, 0, 0, [], 0),
  (40, (.getfield 12, 3), 9, 0, 0, [1, 1054], 0),
  (43, (.getfield 141, 3), 3, 5, 0, [1, 75], 0)]),
 (69, [(46, (.iload_n 1, 1), 1, 0, 0, [], 0),
  (47, (.aaload, 1), 23, 0, 0, [], 0),
  (48, (.iload_n 1, 1), 1, 0, 0, [], 0),
  (49, (.iaload, 1), 20, 0, 0, [], 0),
  (50, (.istore_n 3, 1), 3, 0, 0, [], 0),
  (51, (.aload_n 0, 1), 0, 0, 0, [], 0),
  (52, (.invokevirtual 124, 3), 134, 1, 0, [0, 0, 2035], 0),
  (55, (.aload_n 0, 1), 0, 0, 0, [], 0),
  (56, (.getfield 12, 3), 9, 0, 0, [1, 1054], 0),
  (59, (.getfield 141, 3), 3, 5, 0, [1, 75], 0),
  (62, (.iload_n 1, 1), 1, 0, 0, [], 0),
  (63, (.aaload, 1), 23, 0, 0, [], 0),
  (64, (.iload_n 1, 1), 1, 0, 0, [], 0),
  (65, (.iload_n 2, 1), 2, 0, 0, [], 0),
  (66, (.iastore, 1), 0, 0, 0, [], 0),
  (67, (.iload_n 3, 1), 3, 0, 0, [], 0),
  (68, (.ireturn, 1), 0, 0, 0, [], 0)])]
/-- LampPresses.goal(II)I -/
def lp_c85 : List (Nat × List lp_E) := [(46, [(0, (.aload_n 0, 1), 0, 0, 0, [], 0),
  (1, (.getfield 12, 3), 9, 0, 0, [1, 1054], 0),
  (4, (.iload_n 1, 1), 1, 0, 0, [], 0),
  (5, (.invokevirtual 131, 3), 18, 2, 0, [0, 1, 2052], 0),
  (8, (.ifCond .eq 27, 3), 35, 0, 0, [], 0),
  (11, (.aload_n 0, 1), 0, 0, 0, [], 0),
  (12, (.getfield 12, 3), 9, 0, 0, [1, 1054], 0),
  (15, (.iload_n 2, 1), 2, 0, 0, [], 0),
  (16, (.invokevirtual 120, 3), 19, 2, 0, [0, 1, 2031], 0),
  (19, (.ifCond .eq 16, 3), 35, 0, 0, [], 0),
  (22, (.aload_n 0, 1), 0, 0, 0, [], 0),
  (23, (.getfield 12, 3), 9, 0, 0, [1, 1054], 0),
  (26, (.getfield 148, 3), 3, 4, 0, [1, 71], 0),
  (29, (.iload_n 1, 1), 1, 0, 0, [], 0),
  (30, (.iaload, 1), 20, 0, 0, [], 0),
  (31, (.iload_n 2, 1), 2, 0, 0, [], 0),
  (32, (.if_icmp .ne 5, 3), 37, 0, 0, [], 0),
  (35, (.iconst (-1), 1), 0, 0, (-1), [], 0),
  (36, (.ireturn, 1), 0, 0, 0, [], 0),
  (37, (.aload_n 0, 1), 0, 0, 0, [], 0),
  (38, (.getfield 12, 3), 9, 0, 0, [1, 1054], 0),
  (41, (.getfield 148, 3), 3, 4, 0, [1, 71], 0),
  (44, (.iload_n 1, 1), 1, 0, 0, [], 0),
  (45, (.iaload, 1), 20, 0, 0, [], 0)]),
 (63, [(46, (.istore_n 3, 1), 3, 0, 0, [], 0),
  (47, (.aload_n 0, 1), 0, 0, 0, [], 0),
  (48, (.invokevirtual 151, 3), 133, 1, 0, [0, 0, 2081], 0),
  (51, (.aload_n 0, 1), 0, 0, 0, [], 0),
  (52, (.getfield 12, 3), 9, 0, 0, [1, 1054], 0),
  (55, (.getfield 148, 3), 3, 4, 0, [1, 71], 0),
  (58, (.iload_n 1, 1), 1, 0, 0, [], 0),
  (59, (.iload_n 2, 1), 2, 0, 0, [], 0),
  (60, (.iastore, 1), 0, 0, 0, [], 0),
  (61, (.iload_n 3, 1), 3, 0, 0, [], 0),
  (62, (.ireturn, 1), 0, 0, 0, [], 0)])]
/-- LampPresses.show(II)I -/
def lp_c86 : List (Nat × List lp_E) := [(46, [(0, (.aload_n 0, 1), 0, 0, 0, [], 0),
  (1, (.getfield 12, 3), 9, 0, 0, [1, 1054], 0),
  (4, (.iload_n 1, 1), 1, 0, 0, [], 0),
  (5, (.invokevirtual 131, 3), 18, 2, 0, [0, 1, 2052], 0),
  (8, (.ifCond .eq 27, 3), 35, 0, 0, [], 0),
  (11, (.aload_n 0, 1), 0, 0, 0, [], 0),
  (12, (.getfield 12, 3), 9, 0, 0, [1, 1054], 0),
  (15, (.iload_n 2, 1), 2, 0, 0, [], 0),
  (16, (.invokevirtual 120, 3), 19, 2, 0, [0, 1, 2031], 0),
  (19, (.ifCond .eq 16, 3), 35, 0, 0, [], 0),
  (22, (.aload_n 0, 1), 0, 0, 0, [], 0),
  (23, (.getfield 12, 3), 9, 0, 0, [1, 1054], 0),
  (26, (.getfield 154, 3), 3, 3, 0, [1, 69], 0),
  (29, (.iload_n 1, 1), 1, 0, 0, [], 0),
  (30, (.iaload, 1), 20, 0, 0, [], 0),
  (31, (.iload_n 2, 1), 2, 0, 0, [], 0),
  (32, (.if_icmp .ne 5, 3), 37, 0, 0, [], 0),
  (35, (.iconst (-1), 1), 0, 0, (-1), [], 0),
  (36, (.ireturn, 1), 0, 0, 0, [], 0),
  (37, (.aload_n 0, 1), 0, 0, 0, [], 0),
  (38, (.getfield 12, 3), 9, 0, 0, [1, 1054], 0),
  (41, (.getfield 154, 3), 3, 3, 0, [1, 69], 0),
  (44, (.iload_n 1, 1), 1, 0, 0, [], 0),
  (45, (.iaload, 1), 20, 0, 0, [], 0)]),
 (63, [(46, (.istore_n 3, 1), 3, 0, 0, [], 0),
  (47, (.aload_n 0, 1), 0, 0, 0, [], 0),
  (48, (.invokevirtual 151, 3), 133, 1, 0, [0, 0, 2081], 0),
  (51, (.aload_n 0, 1), 0, 0, 0, [], 0),
  (52, (.getfield 12, 3), 9, 0, 0, [1, 1054], 0),
  (55, (.getfield 154, 3), 3, 3, 0, [1, 69], 0),
  (58, (.iload_n 1, 1), 1, 0, 0, [], 0),
  (59, (.iload_n 2, 1), 2, 0, 0, [], 0),
  (60, (.iastore, 1), 0, 0, 0, [], 0),
  (61, (.iload_n 3, 1), 3, 0, 0, [], 0),
  (62, (.ireturn, 1), 0, 0, 0, [], 0)])]
/-- LampPresses.press(II)I -/
def lp_c87 : List (Nat × List lp_E) := [(45, [(0, (.aload_n 0, 1), 0, 0, 0, [], 0),
  (1, (.getfield 12, 3), 9, 0, 0, [1, 1054], 0),
  (4, (.iload_n 1, 1), 1, 0, 0, [], 0),
  (5, (.invokevirtual 131, 3), 18, 2, 0, [0, 1, 2052], 0),
  (8, (.ifCond .eq 14, 3), 22, 0, 0, [], 0),
  (11, (.iload_n 2, 1), 2, 0, 0, [], 0),
  (12, (.iconst 1, 1), 0, 0, 1, [], 0),
  (13, (.if_icmp .lt 9, 3), 22, 0, 0, [], 0),
  (16, (.iload_n 2, 1), 2, 0, 0, [], 0),
  (17, (.bipush 9, 2), 0, 0, 9, [], 0),
  (19, (.if_icmp .le 5, 3), 24, 0, 0, [], 0),
  (22, (.iconst (-1), 1), 0, 0, (-1), [], 0),
  (23, (.ireturn, 1), 0, 0, 0, [], 0),
  (24, (.aload_n 0, 1), 0, 0, 0, [], 0),
  (25, (.invokevirtual 151, 3), 133, 1, 0, [0, 0, 2081], 0),
  (28, (.aload_n 0, 1), 0, 0, 0, [], 0),
  (29, (.getfield 12, 3), 9, 0, 0, [1, 1054], 0),
  (32, (.iload_n 1, 1), 1, 0, 0, [], 0),
  (33, (.iload_n 2, 1), 2, 0, 0, [], 0),
  (34, (.invokevirtual 157, 3), 27, 3, 0, [0, 0, 2093], 0),
  (37, (.aload_n 0, 1), 0, 0, 0, [], 0),
  (38, (.getfield 12, 3), 9, 0, 0, [1, 1054], 0),
  (41, (.getfield 154, 3), 3, 3, 0, [1, 69], 0),
  (44, (.iload_n 1, 1), 1, 0, 0, [], 0)]),
 (47, [(45, (.iaload, 1), 20, 0, 0, [], 0),
  (46, (.ireturn, 1), 0, 0, 0, [], 0)])]
/-- LampPresses.aim()I -/
def lp_c88 : List (Nat × List lp_E) := [(41, [(0, (.aload_n 0, 1), 0, 0, 0, [], 0),
  (1, (.getfield 12, 3), 9, 0, 0, [1, 1054], 0),
  (4, (.invokevirtual 161, 3), 29, 1, 0, [0, 1, 2109], 0),
  (7, (.istore_n 1, 1), 1, 0, 0, [], 0),
  (8, (.iload_n 1, 1), 1, 0, 0, [], 0),
  (9, (.ifCond .ne 5, 3), 14, 0, 0, [], 0),
  (12, (.iconst (-1), 1), 0, 0, (-1), [], 0),
  (13, (.ireturn, 1), 0, 0, 0, [], 0),
  (14, (.aload_n 0, 1), 0, 0, 0, [], 0),
  (15, (.invokevirtual 151, 3), 133, 1, 0, [0, 0, 2081], 0),
  (18, (.aload_n 0, 1), 0, 0, 0, [], 0),
  (19, (.getfield 12, 3), 9, 0, 0, [1, 1054], 0),
  (22, (.getfield 154, 3), 3, 3, 0, [1, 69], 0),
  (25, (.iconst 0, 1), 0, 0, 0, [], 0),
  (26, (.aload_n 0, 1), 0, 0, 0, [], 0),
  (27, (.getfield 12, 3), 9, 0, 0, [1, 1054], 0),
  (30, (.getfield 148, 3), 3, 4, 0, [1, 71], 0),
  (33, (.iconst 0, 1), 0, 0, 0, [], 0),
  (34, (.bipush 10, 2), 0, 0, 10, [], 0),
  (36, (.invokestatic 164, 3), 0, 5, 0, [6, 0, 2113], 0),
  (39, (.iload_n 1, 1), 1, 0, 0, [], 0),
  (40, (.ireturn, 1), 0, 0, 0, [], 0)])]
/-- LampPresses.solve()I -/
def lp_c89 : List (Nat × List lp_E) := [(43, [(0, (.aload_n 0, 1), 0, 0, 0, [], 0),
  (1, (.invokevirtual 170, 3), 138, 1, 0, [0, 0, 2118], 0),
  (4, (.aload_n 0, 1), 0, 0, 0, [], 0),
  (5, (.getfield 173, 3), 9, 15, 0, [0, 1069], 0),
  (8, (.ifCond .ne 6, 3), 14, 0, 0, [], 0),
  (11, (.bipush (-2), 2), 0, 0, (-2), [], 0),
  (13, (.ireturn, 1), 0, 0, 0, [], 0),
  (14, (.aload_n 0, 1), 0, 0, 0, [], 0),
  (15, (.getfield 90, 3), 9, 14, 0, [1, 1068], 0),
  (18, (.aload_n 0, 1), 0, 0, 0, [], 0),
  (19, (.getfield 12, 3), 9, 0, 0, [1, 1054], 0),
  (22, (.getfield 117, 3), 3, 1, 0, [0, 64], 0),
  (25, (.invokestatic 177, 3), 161, 2, 0, [1, 1, 2180], 0),
  (28, (.istore_n 1, 1), 1, 0, 0, [], 0),
  (29, (.iload_n 1, 1), 1, 0, 0, [], 0),
  (30, (.ifCond .ne 5, 3), 35, 0, 0, [], 0),
  (33, (.iconst (-1), 1), 0, 0, (-1), [], 0),
  (34, (.ireturn, 1), 0, 0, 0, [], 0),
  (35, (.aload_n 0, 1), 0, 0, 0, [], 0),
  (36, (.invokevirtual 151, 3), 133, 1, 0, [0, 0, 2081], 0),
  (39, (.iconst 0, 1), 0, 0, 0, [], 0),
  (40, (.istore_n 2, 1), 2, 0, 0, [], 1),
  (41, (.iload_n 2, 1), 2, 0, 0, [], 0),
  (42, (.aload_n 0, 1), 0, 0, 0, [], 0)]),
 (83, [(43, (.getfield 12, 3), 9, 0, 0, [1, 1054], 0),
  (46, (.getfield 117, 3), 3, 1, 0, [0, 64], 0),
  (49, (.if_icmp .ge 32, 3), 81, 0, 0, [], 0),
  (52, (.aload_n 0, 1), 0, 0, 0, [], 0),
  (53, (.getfield 90, 3), 9, 14, 0, [1, 1068], 0),
  (56, (.iload_n 2, 1), 2, 0, 0, [], 0),
  (57, (.iaload, 1), 20, 0, 0, [], 0),
  (58, (.ifCond .le 17, 3), 75, 0, 0, [], 0),
  (61, (.aload_n 0, 1), 0, 0, 0, [], 0),
  (62, (.getfield 12, 3), 9, 0, 0, [1, 1054], 0),
  (65, (.iload_n 2, 1), 2, 0, 0, [], 0),
  (66, (.aload_n 0, 1), 0, 0, 0, [], 0),
  (67, (.getfield 90, 3), 9, 14, 0, [1, 1068], 0),
  (70, (.iload_n 2, 1), 2, 0, 0, [], 0),
  (71, (.iaload, 1), 20, 0, 0, [], 0),
  (72, (.invokevirtual 157, 3), 27, 3, 0, [0, 0, 2093], 0),
  (75, (.iinc 2 1, 3), 2, 0, 1, [], 0),
  (78, (.goto (-37), 3), 41, 0, 0, [], 2),
  (81, (.iload_n 1, 1), 1, 0, 0, [], 0),
  (82, (.ireturn, 1), 0, 0, 0, [], 0)])]
/-- LampPresses.lay(III)I -/
def lp_c90 : List (Nat × List lp_E) := [(42, [(0, (.iload_n 1, 1), 1, 0, 0, [], 0),
  (1, (.iload_n 2, 1), 2, 0, 0, [], 0),
  (2, (.iload_n 3, 1), 3, 0, 0, [], 0),
  (3, (.invokestatic 181, 3), 157, 3, 0, [1, 1, 2187], 0),
  (6, (.ifCond .ne 5, 3), 11, 0, 0, [], 0),
  (9, (.iconst (-1), 1), 0, 0, (-1), [], 0),
  (10, (.ireturn, 1), 0, 0, 0, [], 0),
  (11, (.aload_n 0, 1), 0, 0, 0, [], 0),
  (12, (.invokevirtual 124, 3), 134, 1, 0, [0, 0, 2035], 0),
  (15, (.aload_n 0, 1), 0, 0, 0, [], 0),
  (16, (.getfield 12, 3), 9, 0, 0, [1, 1054], 0),
  (19, (.iconst 0, 1), 0, 0, 0, [], 0),
  (20, (.putfield 117, 3), 3, 1, 0, [0, 64, 0], 0),
  (23, (.iload_n 2, 1), 2, 0, 0, [], 0),
  (24, (.iload_n 3, 1), 3, 0, 0, [], 0),
  (25, (.imul, 1), 0, 0, 0, [], 0),
  (26, (.istore 4, 2), 4, 0, 0, [], 0),
  (28, (.iconst 0, 1), 0, 0, 0, [], 0),
  (29, (.istore 5, 2), 5, 0, 0, [], 1),
  (31, (.iload 5, 2), 5, 0, 0, [], 0),
  (33, (.iload 4, 2), 4, 0, 0, [], 0),
  (35, (.if_icmp .ge 19, 3), 54, 0, 0, [], 0),
  (38, (.aload_n 0, 1), 0, 0, 0, [], 0),
  (39, (.getfield 12, 3), 9, 0, 0, [1, 1054], 0)]),
 (88, [(42, (.iconst 0, 1), 0, 0, 0, [], 0),
  (43, (.iconst 1, 1), 0, 0, 1, [], 0),
  (44, (.iconst 0, 1), 0, 0, 0, [], 0),
  (45, (.invokevirtual 127, 3), 22, 4, 0, [0, 0, 2047], 0),
  (48, (.iinc 5 1, 3), 5, 0, 1, [], 0),
  (51, (.goto (-20), 3), 31, 0, 0, [], 2),
  (54, (.iconst 0, 1), 0, 0, 0, [], 0),
  (55, (.istore 5, 2), 5, 0, 0, [], 1),
  (57, (.iload 5, 2), 5, 0, 0, [], 0),
  (59, (.iload 4, 2), 4, 0, 0, [], 0),
  (61, (.if_icmp .ge 54, 3), 115, 0, 0, [], 0),
  (64, (.iload 5, 2), 5, 0, 0, [], 0),
  (66, (.iconst 1, 1), 0, 0, 1, [], 0),
  (67, (.iadd, 1), 0, 0, 0, [], 0),
  (68, (.istore 6, 2), 6, 0, 0, [], 1),
  (70, (.iload 6, 2), 6, 0, 0, [], 0),
  (72, (.iload 4, 2), 4, 0, 0, [], 0),
  (74, (.if_icmp .ge 35, 3), 109, 0, 0, [], 0),
  (77, (.iload_n 1, 1), 1, 0, 0, [], 0),
  (78, (.iload 4, 2), 4, 0, 0, [], 0),
  (80, (.iload_n 3, 1), 3, 0, 0, [], 0),
  (81, (.iload 5, 2), 5, 0, 0, [], 0),
  (83, (.iload 6, 2), 6, 0, 0, [], 0),
  (85, (.invokestatic 185, 3), 158, 5, 0, [1, 1, 2190], 0)]),
 (118, [(88, (.ifCond .eq 15, 3), 103, 0, 0, [], 0),
  (91, (.aload_n 0, 1), 0, 0, 0, [], 0),
  (92, (.getfield 12, 3), 9, 0, 0, [1, 1054], 0),
  (95, (.iload 5, 2), 5, 0, 0, [], 0),
  (97, (.iload 6, 2), 6, 0, 0, [], 0),
  (99, (.iconst 1, 1), 0, 0, 1, [], 0),
  (100, (.invokevirtual 145, 3), 24, 4, 0, [0, 0, 2072], 0),
  (103, (.iinc 6 1, 3), 6, 0, 1, [], 0),
  (106, (.goto (-36), 3), 70, 0, 0, [], 2),
  (109, (.iinc 5 1, 3), 5, 0, 1, [], 0),
  (112, (.goto (-55), 3), 57, 0, 0, [], 2),
  (115, (.iload 4, 2), 4, 0, 0, [], 0),
  (117, (.ireturn, 1), 0, 0, 0, [], 0)])]
/-- LampPresses.swap(II)Z -/
def lp_c91 : List (Nat × List lp_E) := [(26, [(0, (.aload_n 0, 1), 0, 0, 0, [], 0),
  (1, (.iload_n 1, 1), 1, 0, 0, [], 0),
  (2, (.iload_n 2, 1), 2, 0, 0, [], 0),
  (3, (.invokevirtual 137, 3), 141, 3, 0, [0, 1, 2068], 0),
  (6, (.ifCond .ne 5, 3), 11, 0, 0, [], 0),
  (9, (.iconst 0, 1), 0, 0, 0, [], 0),
  (10, (.ireturn, 1), 1, 0, 0, [], 0),
  (11, (.aload_n 0, 1), 0, 0, 0, [], 0),
  (12, (.invokevirtual 124, 3), 134, 1, 0, [0, 0, 2035], 0),
  (15, (.aload_n 0, 1), 0, 0, 0, [], 0),
  (16, (.getfield 12, 3), 9, 0, 0, [1, 1054], 0),
  (19, (.iload_n 1, 1), 1, 0, 0, [], 0),
  (20, (.iload_n 2, 1), 2, 0, 0, [], 0),
  (21, (.invokevirtual 189, 3), 25, 3, 0, [0, 0, 2197], 0),
  (24, (.iconst 1, 1), 0, 0, 1, [], 0),
  (25, (.ireturn, 1), 1, 0, 0, [], 0)])]
/-- LampPresses.lift(I)I -/
def lp_c92 : List (Nat × List lp_E) := [(46, [(0, (.iload_n 1, 1), 1, 0, 0, [], 0),
  (1, (.iconst 1, 1), 0, 0, 1, [], 0),
  (2, (.if_icmp .lt 24, 3), 26, 0, 0, [], 0),
  (5, (.aload_n 0, 1), 0, 0, 0, [], 0),
  (6, (.getfield 12, 3), 9, 0, 0, [1, 1054], 0),
  (9, (.iload_n 1, 1), 1, 0, 0, [], 0),
  (10, (.invokevirtual 120, 3), 19, 2, 0, [0, 1, 2031], 0),
  (13, (.ifCond .eq 13, 3), 26, 0, 0, [], 0),
  (16, (.aload_n 0, 1), 0, 0, 0, [], 0),
  (17, (.getfield 12, 3), 9, 0, 0, [1, 1054], 0),
  (20, (.getfield 117, 3), 3, 1, 0, [0, 64], 0),
  (23, (.ifCond .ne 5, 3), 28, 0, 0, [], 0),
  (26, (.iconst (-1), 1), 0, 0, (-1), [], 0),
  (27, (.ireturn, 1), 0, 0, 0, [], 0),
  (28, (.aload_n 0, 1), 0, 0, 0, [], 0),
  (29, (.invokevirtual 151, 3), 133, 1, 0, [0, 0, 2081], 0),
  (32, (.iconst 0, 1), 0, 0, 0, [], 0),
  (33, (.istore_n 2, 1), 2, 0, 0, [], 1),
  (34, (.iload_n 2, 1), 2, 0, 0, [], 0),
  (35, (.aload_n 0, 1), 0, 0, 0, [], 0),
  (36, (.getfield 12, 3), 9, 0, 0, [1, 1054], 0),
  (39, (.getfield 117, 3), 3, 1, 0, [0, 64], 0),
  (42, (.if_icmp .ge 39, 3), 81, 0, 0, [], 0),
  (45, (.aload_n 0, 1), 0, 0, 0, [], 0)]),
 (89, [(46, (.getfield 12, 3), 9, 0, 0, [1, 1054], 0),
  (49, (.getfield 154, 3), 3, 3, 0, [1, 69], 0),
  (52, (.iload_n 2, 1), 2, 0, 0, [], 0),
  (53, (.aload_n 0, 1), 0, 0, 0, [], 0),
  (54, (.getfield 12, 3), 9, 0, 0, [1, 1054], 0),
  (57, (.getfield 154, 3), 3, 3, 0, [1, 69], 0),
  (60, (.iload_n 2, 1), 2, 0, 0, [], 0),
  (61, (.iaload, 1), 20, 0, 0, [], 0),
  (62, (.iload_n 1, 1), 1, 0, 0, [], 0),
  (63, (.iadd, 1), 0, 0, 0, [], 0),
  (64, (.aload_n 0, 1), 0, 0, 0, [], 0),
  (65, (.getfield 12, 3), 9, 0, 0, [1, 1054], 0),
  (68, (.getfield 192, 3), 3, 0, 0, [0, 59], 0),
  (71, (.invokestatic 195, 3), 159, 2, 0, [1, 1, 2171], 0),
  (74, (.iastore, 1), 0, 0, 0, [], 0),
  (75, (.iinc 2 1, 3), 2, 0, 1, [], 0),
  (78, (.goto (-44), 3), 34, 0, 0, [], 2),
  (81, (.aload_n 0, 1), 0, 0, 0, [], 0),
  (82, (.getfield 12, 3), 9, 0, 0, [1, 1054], 0),
  (85, (.getfield 117, 3), 3, 1, 0, [0, 64], 0),
  (88, (.ireturn, 1), 0, 0, 0, [], 0)])]
/-- LampPresses.scale(I)I -/
def lp_c93 : List (Nat × List lp_E) := [(44, [(0, (.aload_n 0, 1), 0, 0, 0, [], 0),
  (1, (.getfield 12, 3), 9, 0, 0, [1, 1054], 0),
  (4, (.invokevirtual 199, 3), 33, 1, 0, [0, 1, 2206], 0),
  (7, (.istore_n 2, 1), 2, 0, 0, [], 0),
  (8, (.iload_n 1, 1), 1, 0, 0, [], 0),
  (9, (.iconst 2, 1), 0, 0, 2, [], 0),
  (10, (.if_icmp .lt 18, 3), 28, 0, 0, [], 0),
  (13, (.aload_n 0, 1), 0, 0, 0, [], 0),
  (14, (.getfield 12, 3), 9, 0, 0, [1, 1054], 0),
  (17, (.iload_n 1, 1), 1, 0, 0, [], 0),
  (18, (.invokevirtual 120, 3), 19, 2, 0, [0, 1, 2031], 0),
  (21, (.ifCond .eq 7, 3), 28, 0, 0, [], 0),
  (24, (.iload_n 2, 1), 2, 0, 0, [], 0),
  (25, (.ifCond .ne 5, 3), 30, 0, 0, [], 0),
  (28, (.iconst (-1), 1), 0, 0, (-1), [], 0),
  (29, (.ireturn, 1), 0, 0, 0, [], 0),
  (30, (.aload_n 0, 1), 0, 0, 0, [], 0),
  (31, (.invokevirtual 124, 3), 134, 1, 0, [0, 0, 2035], 0),
  (34, (.iconst 0, 1), 0, 0, 0, [], 0),
  (35, (.istore_n 3, 1), 3, 0, 0, [], 1),
  (36, (.iload_n 3, 1), 3, 0, 0, [], 0),
  (37, (.aload_n 0, 1), 0, 0, 0, [], 0),
  (38, (.getfield 12, 3), 9, 0, 0, [1, 1054], 0),
  (41, (.getfield 117, 3), 3, 1, 0, [0, 64], 0)]),
 (88, [(44, (.if_icmp .ge 66, 3), 110, 0, 0, [], 0),
  (47, (.iconst 0, 1), 0, 0, 0, [], 0),
  (48, (.istore 4, 2), 4, 0, 0, [], 1),
  (50, (.iload 4, 2), 4, 0, 0, [], 0),
  (52, (.aload_n 0, 1), 0, 0, 0, [], 0),
  (53, (.getfield 12, 3), 9, 0, 0, [1, 1054], 0),
  (56, (.getfield 117, 3), 3, 1, 0, [0, 64], 0),
  (59, (.if_icmp .ge 45, 3), 104, 0, 0, [], 0),
  (62, (.aload_n 0, 1), 0, 0, 0, [], 0),
  (63, (.getfield 12, 3), 9, 0, 0, [1, 1054], 0),
  (66, (.getfield 141, 3), 3, 5, 0, [1, 75], 0),
  (69, (.iload_n 3, 1), 3, 0, 0, [], 0),
  (70, (.aaload, 1), 23, 0, 0, [], 0),
  (71, (.iload 4, 2), 4, 0, 0, [], 0),
  (73, (.iload_n 1, 1), 1, 0, 0, [], 0),
  (74, (.aload_n 0, 1), 0, 0, 0, [], 0),
  (75, (.getfield 12, 3), 9, 0, 0, [1, 1054], 0),
  (78, (.getfield 141, 3), 3, 5, 0, [1, 75], 0),
  (81, (.iload_n 3, 1), 3, 0, 0, [], 0),
  (82, (.aaload, 1), 23, 0, 0, [], 0),
  (83, (.iload 4, 2), 4, 0, 0, [], 0),
  (85, (.iaload, 1), 20, 0, 0, [], 0),
  (86, (.imul, 1), 0, 0, 0, [], 0),
  (87, (.aload_n 0, 1), 0, 0, 0, [], 0)]),
 (112, [(88, (.getfield 12, 3), 9, 0, 0, [1, 1054], 0),
  (91, (.getfield 192, 3), 3, 0, 0, [0, 59], 0),
  (94, (.invokestatic 195, 3), 159, 2, 0, [1, 1, 2171], 0),
  (97, (.iastore, 1), 0, 0, 0, [], 0),
  (98, (.iinc 4 1, 3), 4, 0, 1, [], 0),
  (101, (.goto (-51), 3), 50, 0, 0, [], 2),
  (104, (.iinc 3 1, 3), 3, 0, 1, [], 0),
  (107, (.goto (-71), 3), 36, 0, 0, [], 2),
  (110, (.iload_n 2, 1), 2, 0, 0, [], 0),
  (111, (.ireturn, 1), 0, 0, 0, [], 0)])]
/-- LampPresses.mirror()I -/
def lp_c94 : List (Nat × List lp_E) := [(40, [(0, (.aload_n 0, 1), 0, 0, 0, [], 0),
  (1, (.getfield 12, 3), 9, 0, 0, [1, 1054], 0),
  (4, (.getfield 117, 3), 3, 1, 0, [0, 64], 0),
  (7, (.iconst 2, 1), 0, 0, 2, [], 0),
  (8, (.if_icmp .ge 5, 3), 13, 0, 0, [], 0),
  (11, (.iconst (-1), 1), 0, 0, (-1), [], 0),
  (12, (.ireturn, 1), 0, 0, 0, [], 0),
  (13, (.aload_n 0, 1), 0, 0, 0, [], 0),
  (14, (.invokevirtual 124, 3), 134, 1, 0, [0, 0, 2035], 0),
  (17, (.aload_n 0, 1), 0, 0, 0, [], 0),
  (18, (.getfield 12, 3), 9, 0, 0, [1, 1054], 0),
  (21, (.getfield 117, 3), 3, 1, 0, [0, 64], 0),
  (24, (.iconst 1, 1), 0, 0, 1, [], 0),
  (25, (.isub, 1), 0, 0, 0, [], 0),
  (26, (.istore_n 1, 1), 1, 0, 0, [], 0),
  (27, (.iconst 0, 1), 0, 0, 0, [], 0),
  (28, (.istore_n 2, 1), 2, 0, 0, [], 1),
  (29, (.iload_n 2, 1), 2, 0, 0, [], 0),
  (30, (.iload_n 1, 1), 1, 0, 0, [], 0),
  (31, (.iload_n 2, 1), 2, 0, 0, [], 0),
  (32, (.isub, 1), 0, 0, 0, [], 0),
  (33, (.if_icmp .ge 20, 3), 53, 0, 0, [], 0),
  (36, (.aload_n 0, 1), 0, 0, 0, [], 0),
  (37, (.getfield 12, 3), 9, 0, 0, [1, 1054], 0)]),
 (61, [(40, (.iload_n 2, 1), 2, 0, 0, [], 0),
  (41, (.iload_n 1, 1), 1, 0, 0, [], 0),
  (42, (.iload_n 2, 1), 2, 0, 0, [], 0),
  (43, (.isub, 1), 0, 0, 0, [], 0),
  (44, (.invokevirtual 189, 3), 25, 3, 0, [0, 0, 2197], 0),
  (47, (.iinc 2 1, 3), 2, 0, 1, [], 0),
  (50, (.goto (-21), 3), 29, 0, 0, [], 2),
  (53, (.aload_n 0, 1), 0, 0, 0, [], 0),
  (54, (.getfield 12, 3), 9, 0, 0, [1, 1054], 0),
  (57, (.getfield 117, 3), 3, 1, 0, [0, 64], 0),
  (60, (.ireturn, 1), 0, 0, 0, [], 0)])]
/-- LampPresses.undo()I -/
def lp_c95 : List (Nat × List lp_E) := [(35, [(0, (.aload_n 0, 1), 0, 0, 0, [], 0),
  (1, (.getfield 19, 3), 9, 1, 0, [1, 1055], 0),
  (4, (.getfield 111, 3), 4, 0, 0, [0, 103], 0),
  (7, (.ifCond .ne 5, 3), 12, 0, 0, [], 0),
  (10, (.iconst (-1), 1), 0, 0, (-1), [], 0),
  (11, (.ireturn, 1), 0, 0, 0, [], 0),
  (12, (.aload_n 0, 1), 0, 0, 0, [], 0),
  (13, (.getfield 19, 3), 9, 1, 0, [1, 1055], 0),
  (16, (.aload_n 0, 1), 0, 0, 0, [], 0),
  (17, (.getfield 12, 3), 9, 0, 0, [1, 1054], 0),
  (20, (.invokevirtual 202, 3), 38, 2, 0, [0, 0, 2232], 0),
  (23, (.aload_n 0, 1), 0, 0, 0, [], 0),
  (24, (.invokevirtual 114, 3), 136, 1, 0, [0, 0, 2019], 0),
  (27, (.aload_n 0, 1), 0, 0, 0, [], 0),
  (28, (.getfield 19, 3), 9, 1, 0, [1, 1055], 0),
  (31, (.getfield 111, 3), 4, 0, 0, [0, 103], 0),
  (34, (.ireturn, 1), 0, 0, 0, [], 0)])]
/-- LampPresses.of(II)I -/
def lp_c96 : List (Nat × List lp_E) := [(75, [(0, (.aload_n 0, 1), 0, 0, 0, [], 0),
  (1, (.getfield 12, 3), 9, 0, 0, [1, 1054], 0),
  (4, (.iload_n 1, 1), 1, 0, 0, [], 0),
  (5, (.invokevirtual 131, 3), 18, 2, 0, [0, 1, 2052], 0),
  (8, (.ifCond .ne 5, 3), 13, 0, 0, [], 0),
  (11, (.iconst (-1), 1), 0, 0, (-1), [], 0),
  (12, (.ireturn, 1), 0, 0, 0, [], 0),
  (13, (.iload_n 2, 1), 2, 0, 0, [], 1),
  (14, (.tableswitch 123 0 5 #[38, 48, 60, 70, 82, 91], 38), 137, 6, 0, [52, 62, 74, 84, 96, 105], 0),
  (52, (.aload_n 0, 1), 0, 0, 0, [], 0),
  (53, (.getfield 12, 3), 9, 0, 0, [1, 1054], 0),
  (56, (.getfield 154, 3), 3, 3, 0, [1, 69], 0),
  (59, (.iload_n 1, 1), 1, 0, 0, [], 0),
  (60, (.iaload, 1), 20, 0, 0, [], 0),
  (61, (.ireturn, 1), 0, 0, 0, [], 0),
  (62, (.aload_n 0, 1), 0, 0, 0, [], 0),
  (63, (.getfield 12, 3), 9, 0, 0, [1, 1054], 0),
  (66, (.getfield 141, 3), 3, 5, 0, [1, 75], 0),
  (69, (.iload_n 1, 1), 1, 0, 0, [], 0),
  (70, (.aaload, 1), 23, 0, 0, [], 0),
  (71, (.iload_n 1, 1), 1, 0, 0, [], 0),
  (72, (.iaload, 1), 20, 0, 0, [], 0),
  (73, (.ireturn, 1), 0, 0, 0, [], 0),
  (74, (.aload_n 0, 1), 0, 0, 0, [], 0)]),
 (121, [(75, (.getfield 12, 3), 9, 0, 0, [1, 1054], 0),
  (78, (.getfield 148, 3), 3, 4, 0, [1, 71], 0),
  (81, (.iload_n 1, 1), 1, 0, 0, [], 0),
  (82, (.iaload, 1), 20, 0, 0, [], 0),
  (83, (.ireturn, 1), 0, 0, 0, [], 0),
  (84, (.aload_n 0, 1), 0, 0, 0, [], 0),
  (85, (.getfield 12, 3), 9, 0, 0, [1, 1054], 0),
  (88, (.iload_n 1, 1), 1, 0, 0, [], 0),
  (89, (.invokevirtual 205, 3), 34, 2, 0, [0, 1, 3000], 0),
  (92, (.invokestatic 209, 3), 282, 1, 0, [1, 1, 3001], 0),
  (95, (.ireturn, 1), 0, 0, 0, [], 0),
  (96, (.aload_n 0, 1), 0, 0, 0, [], 0),
  (97, (.getfield 12, 3), 9, 0, 0, [1, 1054], 0),
  (100, (.iload_n 1, 1), 1, 0, 0, [], 0),
  (101, (.invokevirtual 205, 3), 34, 2, 0, [0, 1, 3000], 0),
  (104, (.ireturn, 1), 0, 0, 0, [], 0),
  (105, (.aload_n 0, 1), 0, 0, 0, [], 0),
  (106, (.getfield 12, 3), 9, 0, 0, [1, 1054], 0),
  (109, (.getfield 141, 3), 3, 5, 0, [1, 75], 0),
  (112, (.iload_n 1, 1), 1, 0, 0, [], 0),
  (113, (.aaload, 1), 23, 0, 0, [], 0),
  (114, (.aload_n 0, 1), 0, 0, 0, [], 0),
  (115, (.getfield 12, 3), 9, 0, 0, [1, 1054], 0),
  (118, (.getfield 117, 3), 3, 1, 0, [0, 64], 0)]),
 (139, [(121, (.invokestatic 177, 3), 161, 2, 0, [1, 1, 2180], 0),
  (124, (.aload_n 0, 1), 0, 0, 0, [], 0),
  (125, (.getfield 12, 3), 9, 0, 0, [1, 1054], 0),
  (128, (.getfield 141, 3), 3, 5, 0, [1, 75], 0),
  (131, (.iload_n 1, 1), 1, 0, 0, [], 0),
  (132, (.aaload, 1), 23, 0, 0, [], 0),
  (133, (.iload_n 1, 1), 1, 0, 0, [], 0),
  (134, (.iaload, 1), 20, 0, 0, [], 0),
  (135, (.isub, 1), 0, 0, 0, [], 0),
  (136, (.ireturn, 1), 0, 0, 0, [], 0),
  (137, (.iconst (-1), 1), 0, 0, (-1), [], 0),
  (138, (.ireturn, 1), 0, 0, 0, [], 0)])]
/-- LampPresses.weight(II)I -/
def lp_c97 : List (Nat × List lp_E) := [(38, [(0, (.aload_n 0, 1), 0, 0, 0, [], 0),
  (1, (.getfield 12, 3), 9, 0, 0, [1, 1054], 0),
  (4, (.iload_n 1, 1), 1, 0, 0, [], 0),
  (5, (.invokevirtual 131, 3), 18, 2, 0, [0, 1, 2052], 0),
  (8, (.ifCond .eq 28, 3), 36, 0, 0, [], 0),
  (11, (.aload_n 0, 1), 0, 0, 0, [], 0),
  (12, (.getfield 12, 3), 9, 0, 0, [1, 1054], 0),
  (15, (.iload_n 2, 1), 2, 0, 0, [], 0),
  (16, (.invokevirtual 131, 3), 18, 2, 0, [0, 1, 2052], 0),
  (19, (.ifCond .eq 17, 3), 36, 0, 0, [], 0),
  (22, (.aload_n 0, 1), 0, 0, 0, [], 0),
  (23, (.getfield 12, 3), 9, 0, 0, [1, 1054], 0),
  (26, (.getfield 141, 3), 3, 5, 0, [1, 75], 0),
  (29, (.iload_n 1, 1), 1, 0, 0, [], 0),
  (30, (.aaload, 1), 23, 0, 0, [], 0),
  (31, (.iload_n 2, 1), 2, 0, 0, [], 0),
  (32, (.iaload, 1), 20, 0, 0, [], 0),
  (33, (.goto 4, 3), 37, 0, 0, [], 0),
  (36, (.iconst (-1), 1), 0, 0, (-1), [], 0),
  (37, (.ireturn, 1), 0, 0, 0, [], 0)])]
/-- LampPresses.rank()I -/
def lp_c98 : List (Nat × List lp_E) := [(12, [(0, (.aload_n 0, 1), 0, 0, 0, [], 0),
  (1, (.invokevirtual 214, 3), 137, 1, 0, [0, 0, 2122], 0),
  (4, (.aload_n 0, 1), 0, 0, 0, [], 0),
  (5, (.getfield 42, 3), 9, 4, 0, [1, 1058], 0),
  (8, (.getfield 217, 3), 7, 1, 0, [0, 164], 0),
  (11, (.ireturn, 1), 0, 0, 0, [], 0)])]
/-- LampPresses.quiet()I -/
def lp_c99 : List (Nat × List lp_E) := [(9, [(0, (.aload_n 0, 1), 0, 0, 0, [], 0),
  (1, (.invokevirtual 214, 3), 137, 1, 0, [0, 0, 2122], 0),
  (4, (.aload_n 0, 1), 0, 0, 0, [], 0),
  (5, (.invokevirtual 220, 3), 146, 1, 0, [0, 1, 3014], 0),
  (8, (.ireturn, 1), 0, 0, 0, [], 0)])]
/-- LampPresses.base(II)I -/
def lp_c100 : List (Nat × List lp_E) := [(46, [(0, (.aload_n 0, 1), 0, 0, 0, [], 0),
  (1, (.invokevirtual 214, 3), 137, 1, 0, [0, 0, 2122], 0),
  (4, (.iload_n 1, 1), 1, 0, 0, [], 0),
  (5, (.ifCond .lt 39, 3), 44, 0, 0, [], 0),
  (8, (.iload_n 1, 1), 1, 0, 0, [], 0),
  (9, (.aload_n 0, 1), 0, 0, 0, [], 0),
  (10, (.getfield 42, 3), 9, 4, 0, [1, 1058], 0),
  (13, (.getfield 223, 3), 7, 2, 0, [0, 167], 0),
  (16, (.if_icmp .ge 28, 3), 44, 0, 0, [], 0),
  (19, (.aload_n 0, 1), 0, 0, 0, [], 0),
  (20, (.getfield 12, 3), 9, 0, 0, [1, 1054], 0),
  (23, (.iload_n 2, 1), 2, 0, 0, [], 0),
  (24, (.invokevirtual 131, 3), 18, 2, 0, [0, 1, 2052], 0),
  (27, (.ifCond .eq 17, 3), 44, 0, 0, [], 0),
  (30, (.aload_n 0, 1), 0, 0, 0, [], 0),
  (31, (.getfield 42, 3), 9, 4, 0, [1, 1058], 0),
  (34, (.getfield 226, 3), 7, 10, 0, [1, 180], 0),
  (37, (.iload_n 1, 1), 1, 0, 0, [], 0),
  (38, (.aaload, 1), 23, 0, 0, [], 0),
  (39, (.iload_n 2, 1), 2, 0, 0, [], 0),
  (40, (.iaload, 1), 20, 0, 0, [], 0),
  (41, (.goto 4, 3), 45, 0, 0, [], 0),
  (44, (.iconst (-1), 1), 0, 0, (-1), [], 0),
  (45, (.ireturn, 1), 0, 0, 0, [], 0)])]
/-- LampPresses.plans()I -/
def lp_c101 : List (Nat × List lp_E) := [(20, [(0, (.aload_n 0, 1), 0, 0, 0, [], 0),
  (1, (.invokevirtual 170, 3), 138, 1, 0, [0, 0, 2118], 0),
  (4, (.aload_n 0, 1), 0, 0, 0, [], 0),
  (5, (.getfield 173, 3), 9, 15, 0, [0, 1069], 0),
  (8, (.ifCond .eq 10, 3), 18, 0, 0, [], 0),
  (11, (.aload_n 0, 1), 0, 0, 0, [], 0),
  (12, (.invokevirtual 220, 3), 146, 1, 0, [0, 1, 3014], 0),
  (15, (.goto 4, 3), 19, 0, 0, [], 0),
  (18, (.iconst 0, 1), 0, 0, 0, [], 0),
  (19, (.ireturn, 1), 0, 0, 0, [], 0)])]
/-- LampPresses.plan(I)I -/
def lp_c102 : List (Nat × List lp_E) := [(36, [(0, (.aload_n 0, 1), 0, 0, 0, [], 0),
  (1, (.getfield 12, 3), 9, 0, 0, [1, 1054], 0),
  (4, (.iload_n 1, 1), 1, 0, 0, [], 0),
  (5, (.invokevirtual 131, 3), 18, 2, 0, [0, 1, 2052], 0),
  (8, (.ifCond .ne 5, 3), 13, 0, 0, [], 0),
  (11, (.iconst (-1), 1), 0, 0, (-1), [], 0),
  (12, (.ireturn, 1), 0, 0, 0, [], 0),
  (13, (.aload_n 0, 1), 0, 0, 0, [], 0),
  (14, (.invokevirtual 170, 3), 138, 1, 0, [0, 0, 2118], 0),
  (17, (.aload_n 0, 1), 0, 0, 0, [], 0),
  (18, (.getfield 173, 3), 9, 15, 0, [0, 1069], 0),
  (21, (.ifCond .eq 12, 3), 33, 0, 0, [], 0),
  (24, (.aload_n 0, 1), 0, 0, 0, [], 0),
  (25, (.getfield 90, 3), 9, 14, 0, [1, 1068], 0),
  (28, (.iload_n 1, 1), 1, 0, 0, [], 0),
  (29, (.iaload, 1), 20, 0, 0, [], 0),
  (30, (.goto 5, 3), 35, 0, 0, [], 0),
  (33, (.bipush (-2), 2), 0, 0, (-2), [], 0),
  (35, (.ireturn, 1), 0, 0, 0, [], 0)])]
/-- LampPresses.fewest(I)I -/
def lp_c103 : List (Nat × List lp_E) := [(10, [(0, (.aload_n 0, 1), 0, 0, 0, [], 0),
  (1, (.aload_n 0, 1), 0, 0, 0, [], 0),
  (2, (.getfield 54, 3), 9, 6, 0, [1, 1060], 0),
  (5, (.iload_n 1, 1), 1, 0, 0, [], 0),
  (6, (.invokevirtual 229, 3), 148, 3, 0, [0, 1, 3037], 0),
  (9, (.ireturn, 1), 0, 0, 0, [], 0)])]
/-- LampPresses.fixed(I)I -/
def lp_c104 : List (Nat × List lp_E) := [(48, [(0, (.aload_n 0, 1), 0, 0, 0, [], 0),
  (1, (.getfield 12, 3), 9, 0, 0, [1, 1054], 0),
  (4, (.iload_n 1, 1), 1, 0, 0, [], 0),
  (5, (.invokevirtual 131, 3), 18, 2, 0, [0, 1, 2052], 0),
  (8, (.ifCond .ne 5, 3), 13, 0, 0, [], 0),
  (11, (.iconst (-1), 1), 0, 0, (-1), [], 0),
  (12, (.ireturn, 1), 0, 0, 0, [], 0),
  (13, (.aload_n 0, 1), 0, 0, 0, [], 0),
  (14, (.invokevirtual 170, 3), 138, 1, 0, [0, 0, 2118], 0),
  (17, (.aload_n 0, 1), 0, 0, 0, [], 0),
  (18, (.getfield 173, 3), 9, 15, 0, [0, 1069], 0),
  (21, (.ifCond .ne 6, 3), 27, 0, 0, [], 0),
  (24, (.bipush (-2), 2), 0, 0, (-2), [], 0),
  (26, (.ireturn, 1), 0, 0, 0, [], 0),
  (27, (.aload_n 0, 1), 0, 0, 0, [], 0),
  (28, (.getfield 42, 3), 9, 4, 0, [1, 1058], 0),
  (31, (.iload_n 1, 1), 1, 0, 0, [], 0),
  (32, (.invokevirtual 233, 3), 73, 2, 0, [0, 1, 3071], 0),
  (35, (.ifCond .eq 8, 3), 43, 0, 0, [], 0),
  (38, (.bipush (-3), 2), 0, 0, (-3), [], 0),
  (40, (.goto 9, 3), 49, 0, 0, [], 0),
  (43, (.aload_n 0, 1), 0, 0, 0, [], 0),
  (44, (.getfield 90, 3), 9, 14, 0, [1, 1068], 0),
  (47, (.iload_n 1, 1), 1, 0, 0, [], 0)]),
 (50, [(48, (.iaload, 1), 20, 0, 0, [], 0),
  (49, (.ireturn, 1), 0, 0, 0, [], 0)])]
/-- LampPresses.alone(I)I -/
def lp_c105 : List (Nat × List lp_E) := [(23, [(0, (.aload_n 0, 1), 0, 0, 0, [], 0),
  (1, (.getfield 12, 3), 9, 0, 0, [1, 1054], 0),
  (4, (.iload_n 1, 1), 1, 0, 0, [], 0),
  (5, (.invokevirtual 131, 3), 18, 2, 0, [0, 1, 2052], 0),
  (8, (.ifCond .ne 5, 3), 13, 0, 0, [], 0),
  (11, (.iconst (-1), 1), 0, 0, (-1), [], 0),
  (12, (.ireturn, 1), 0, 0, 0, [], 0),
  (13, (.aload_n 0, 1), 0, 0, 0, [], 0),
  (14, (.invokevirtual 214, 3), 137, 1, 0, [0, 0, 2122], 0),
  (17, (.aload_n 0, 1), 0, 0, 0, [], 0),
  (18, (.iload_n 1, 1), 1, 0, 0, [], 0),
  (19, (.invokevirtual 236, 3), 149, 2, 0, [0, 1, 3079], 0),
  (22, (.ireturn, 1), 0, 0, 0, [], 0)])]
/-- LampPresses.alones()I -/
def lp_c106 : List (Nat × List lp_E) := [(41, [(0, (.aload_n 0, 1), 0, 0, 0, [], 0),
  (1, (.invokevirtual 214, 3), 137, 1, 0, [0, 0, 2122], 0),
  (4, (.iconst 0, 1), 0, 0, 0, [], 0),
  (5, (.istore_n 1, 1), 1, 0, 0, [], 0),
  (6, (.iconst 0, 1), 0, 0, 0, [], 0),
  (7, (.istore_n 2, 1), 2, 0, 0, [], 1),
  (8, (.iload_n 2, 1), 2, 0, 0, [], 0),
  (9, (.aload_n 0, 1), 0, 0, 0, [], 0),
  (10, (.getfield 12, 3), 9, 0, 0, [1, 1054], 0),
  (13, (.getfield 117, 3), 3, 1, 0, [0, 64], 0),
  (16, (.if_icmp .ge 25, 3), 41, 0, 0, [], 0),
  (19, (.aload_n 0, 1), 0, 0, 0, [], 0),
  (20, (.iload_n 2, 1), 2, 0, 0, [], 0),
  (21, (.invokevirtual 236, 3), 149, 2, 0, [0, 1, 3079], 0),
  (24, (.bipush (-2), 2), 0, 0, (-2), [], 0),
  (26, (.if_icmp .eq 9, 3), 35, 0, 0, [], 0),
  (29, (.iload_n 1, 1), 1, 0, 0, [], 0),
  (30, (.iconst 1, 1), 0, 0, 1, [], 0),
  (31, (.iload_n 2, 1), 2, 0, 0, [], 0),
  (32, (.ishl, 1), 0, 0, 0, [], 0),
  (33, (.ior, 1), 0, 0, 0, [], 0),
  (34, (.istore_n 1, 1), 1, 0, 0, [], 0),
  (35, (.iinc 2 1, 3), 2, 0, 1, [], 0),
  (38, (.goto (-30), 3), 8, 0, 0, [], 2)]),
 (43, [(41, (.iload_n 1, 1), 1, 0, 0, [], 0),
  (42, (.ireturn, 1), 0, 0, 0, [], 0)])]
/-- LampPresses.off()I -/
def lp_c107 : List (Nat × List lp_E) := [(8, [(0, (.aload_n 0, 1), 0, 0, 0, [], 0),
  (1, (.getfield 12, 3), 9, 0, 0, [1, 1054], 0),
  (4, (.invokevirtual 161, 3), 29, 1, 0, [0, 1, 2109], 0),
  (7, (.ireturn, 1), 0, 0, 0, [], 0)])]
/-- LampPresses.parts()I -/
def lp_c108 : List (Nat × List lp_E) := [(36, [(0, (.iconst 0, 1), 0, 0, 0, [], 0),
  (1, (.istore_n 1, 1), 1, 0, 0, [], 0),
  (2, (.iconst 0, 1), 0, 0, 0, [], 0),
  (3, (.istore_n 2, 1), 2, 0, 0, [], 0),
  (4, (.iconst 0, 1), 0, 0, 0, [], 0),
  (5, (.istore_n 3, 1), 3, 0, 0, [], 1),
  (6, (.iload_n 3, 1), 3, 0, 0, [], 0),
  (7, (.aload_n 0, 1), 0, 0, 0, [], 0),
  (8, (.getfield 12, 3), 9, 0, 0, [1, 1054], 0),
  (11, (.getfield 117, 3), 3, 1, 0, [0, 64], 0),
  (14, (.if_icmp .ge 28, 3), 42, 0, 0, [], 0),
  (17, (.iload_n 1, 1), 1, 0, 0, [], 0),
  (18, (.iload_n 3, 1), 3, 0, 0, [], 0),
  (19, (.ishr, 1), 0, 0, 0, [], 0),
  (20, (.iconst 1, 1), 0, 0, 1, [], 0),
  (21, (.iand, 1), 0, 0, 0, [], 0),
  (22, (.ifCond .ne 14, 3), 36, 0, 0, [], 0),
  (25, (.iinc 2 1, 3), 2, 0, 1, [], 0),
  (28, (.iload_n 1, 1), 1, 0, 0, [], 0),
  (29, (.aload_n 0, 1), 0, 0, 0, [], 0),
  (30, (.iload_n 3, 1), 3, 0, 0, [], 0),
  (31, (.invokevirtual 239, 3), 150, 2, 0, [0, 1, 3096], 0),
  (34, (.ior, 1), 0, 0, 0, [], 0),
  (35, (.istore_n 1, 1), 1, 0, 0, [], 0)]),
 (44, [(36, (.iinc 3 1, 3), 3, 0, 1, [], 0),
  (39, (.goto (-33), 3), 6, 0, 0, [], 2),
  (42, (.iload_n 2, 1), 2, 0, 0, [], 0),
  (43, (.ireturn, 1), 0, 0, 0, [], 0)])]
/-- LampPresses.distance(II)I -/
def lp_c109 : List (Nat × List lp_E) := [(44, [(0, (.aload_n 0, 1), 0, 0, 0, [], 0),
  (1, (.getfield 12, 3), 9, 0, 0, [1, 1054], 0),
  (4, (.iload_n 1, 1), 1, 0, 0, [], 0),
  (5, (.invokevirtual 131, 3), 18, 2, 0, [0, 1, 2052], 0),
  (8, (.ifCond .eq 14, 3), 22, 0, 0, [], 0),
  (11, (.aload_n 0, 1), 0, 0, 0, [], 0),
  (12, (.getfield 12, 3), 9, 0, 0, [1, 1054], 0),
  (15, (.iload_n 2, 1), 2, 0, 0, [], 0),
  (16, (.invokevirtual 131, 3), 18, 2, 0, [0, 1, 2052], 0),
  (19, (.ifCond .ne 5, 3), 24, 0, 0, [], 0),
  (22, (.iconst (-1), 1), 0, 0, (-1), [], 0),
  (23, (.ireturn, 1), 0, 0, 0, [], 0),
  (24, (.iconst 1, 1), 0, 0, 1, [], 0),
  (25, (.iload_n 1, 1), 1, 0, 0, [], 0),
  (26, (.ishl, 1), 0, 0, 0, [], 0),
  (27, (.istore_n 3, 1), 3, 0, 0, [], 0),
  (28, (.iconst 0, 1), 0, 0, 0, [], 0),
  (29, (.istore 4, 2), 4, 0, 0, [], 1),
  (31, (.iload 4, 2), 4, 0, 0, [], 0),
  (33, (.aload_n 0, 1), 0, 0, 0, [], 0),
  (34, (.getfield 12, 3), 9, 0, 0, [1, 1054], 0),
  (37, (.getfield 117, 3), 3, 1, 0, [0, 64], 0),
  (40, (.if_icmp .ge 30, 3), 70, 0, 0, [], 0),
  (43, (.iload_n 3, 1), 3, 0, 0, [], 0)]),
 (73, [(44, (.iload_n 2, 1), 2, 0, 0, [], 0),
  (45, (.ishr, 1), 0, 0, 0, [], 0),
  (46, (.iconst 1, 1), 0, 0, 1, [], 0),
  (47, (.iand, 1), 0, 0, 0, [], 0),
  (48, (.iconst 1, 1), 0, 0, 1, [], 0),
  (49, (.if_icmp .ne 6, 3), 55, 0, 0, [], 0),
  (52, (.iload 4, 2), 4, 0, 0, [], 0),
  (54, (.ireturn, 1), 0, 0, 0, [], 0),
  (55, (.aload_n 0, 1), 0, 0, 0, [], 0),
  (56, (.getfield 12, 3), 9, 0, 0, [1, 1054], 0),
  (59, (.iload_n 3, 1), 3, 0, 0, [], 0),
  (60, (.invokevirtual 242, 3), 35, 2, 0, [0, 1, 3100], 0),
  (63, (.istore_n 3, 1), 3, 0, 0, [], 0),
  (64, (.iinc 4 1, 3), 4, 0, 1, [], 0),
  (67, (.goto (-36), 3), 31, 0, 0, [], 2),
  (70, (.bipush (-2), 2), 0, 0, (-2), [], 0),
  (72, (.ireturn, 1), 0, 0, 0, [], 0)])]
/-- LampPresses.same(II)I -/
def lp_c110 : List (Nat × List lp_E) := [(46, [(0, (.aload_n 0, 1), 0, 0, 0, [], 0),
  (1, (.getfield 12, 3), 9, 0, 0, [1, 1054], 0),
  (4, (.iload_n 1, 1), 1, 0, 0, [], 0),
  (5, (.invokevirtual 131, 3), 18, 2, 0, [0, 1, 2052], 0),
  (8, (.ifCond .eq 14, 3), 22, 0, 0, [], 0),
  (11, (.aload_n 0, 1), 0, 0, 0, [], 0),
  (12, (.getfield 12, 3), 9, 0, 0, [1, 1054], 0),
  (15, (.iload_n 2, 1), 2, 0, 0, [], 0),
  (16, (.invokevirtual 131, 3), 18, 2, 0, [0, 1, 2052], 0),
  (19, (.ifCond .ne 5, 3), 24, 0, 0, [], 0),
  (22, (.iconst (-1), 1), 0, 0, (-1), [], 0),
  (23, (.ireturn, 1), 0, 0, 0, [], 0),
  (24, (.iconst 0, 1), 0, 0, 0, [], 0),
  (25, (.istore_n 3, 1), 3, 0, 0, [], 1),
  (26, (.iload_n 3, 1), 3, 0, 0, [], 0),
  (27, (.aload_n 0, 1), 0, 0, 0, [], 0),
  (28, (.getfield 12, 3), 9, 0, 0, [1, 1054], 0),
  (31, (.getfield 117, 3), 3, 1, 0, [0, 64], 0),
  (34, (.if_icmp .ge 36, 3), 70, 0, 0, [], 0),
  (37, (.aload_n 0, 1), 0, 0, 0, [], 0),
  (38, (.getfield 12, 3), 9, 0, 0, [1, 1054], 0),
  (41, (.getfield 141, 3), 3, 5, 0, [1, 75], 0),
  (44, (.iload_n 1, 1), 1, 0, 0, [], 0),
  (45, (.aaload, 1), 23, 0, 0, [], 0)]),
 (72, [(46, (.iload_n 3, 1), 3, 0, 0, [], 0),
  (47, (.iaload, 1), 20, 0, 0, [], 0),
  (48, (.aload_n 0, 1), 0, 0, 0, [], 0),
  (49, (.getfield 12, 3), 9, 0, 0, [1, 1054], 0),
  (52, (.getfield 141, 3), 3, 5, 0, [1, 75], 0),
  (55, (.iload_n 2, 1), 2, 0, 0, [], 0),
  (56, (.aaload, 1), 23, 0, 0, [], 0),
  (57, (.iload_n 3, 1), 3, 0, 0, [], 0),
  (58, (.iaload, 1), 20, 0, 0, [], 0),
  (59, (.if_icmp .eq 5, 3), 64, 0, 0, [], 0),
  (62, (.iconst 0, 1), 0, 0, 0, [], 0),
  (63, (.ireturn, 1), 0, 0, 0, [], 0),
  (64, (.iinc 3 1, 3), 3, 0, 1, [], 0),
  (67, (.goto (-41), 3), 26, 0, 0, [], 2),
  (70, (.iconst 1, 1), 0, 0, 1, [], 0),
  (71, (.ireturn, 1), 0, 0, 0, [], 0)])]
/-- LampPresses.part(I)I -/
def lp_c111 : List (Nat × List lp_E) := [(42, [(0, (.aload_n 0, 1), 0, 0, 0, [], 0),
  (1, (.iload_n 1, 1), 1, 0, 0, [], 0),
  (2, (.invokevirtual 245, 3), 142, 2, 0, [0, 1, 3116], 0),
  (5, (.ifCond .ne 5, 3), 10, 0, 0, [], 0),
  (8, (.iconst (-1), 1), 0, 0, (-1), [], 0),
  (9, (.ireturn, 1), 0, 0, 0, [], 0),
  (10, (.aload_n 0, 1), 0, 0, 0, [], 0),
  (11, (.getfield 46, 3), 9, 5, 0, [1, 1059], 0),
  (14, (.aload_n 0, 1), 0, 0, 0, [], 0),
  (15, (.getfield 12, 3), 9, 0, 0, [1, 1054], 0),
  (18, (.invokevirtual 248, 3), 59, 2, 0, [0, 0, 2126], 0),
  (21, (.aload_n 0, 1), 0, 0, 0, [], 0),
  (22, (.invokevirtual 251, 3), 147, 1, 0, [0, 0, 2167], 0),
  (25, (.iconst 0, 1), 0, 0, 0, [], 0),
  (26, (.istore_n 2, 1), 2, 0, 0, [], 1),
  (27, (.iload_n 2, 1), 2, 0, 0, [], 0),
  (28, (.aload_n 0, 1), 0, 0, 0, [], 0),
  (29, (.getfield 12, 3), 9, 0, 0, [1, 1054], 0),
  (32, (.getfield 117, 3), 3, 1, 0, [0, 64], 0),
  (35, (.if_icmp .ge 32, 3), 67, 0, 0, [], 0),
  (38, (.iload_n 1, 1), 1, 0, 0, [], 0),
  (39, (.iload_n 2, 1), 2, 0, 0, [], 0),
  (40, (.ishr, 1), 0, 0, 0, [], 0),
  (41, (.iconst 1, 1), 0, 0, 1, [], 0)]),
 (92, [(42, (.iand, 1), 0, 0, 0, [], 0),
  (43, (.ifCond .ne 18, 3), 61, 0, 0, [], 0),
  (46, (.aload_n 0, 1), 0, 0, 0, [], 0),
  (47, (.getfield 46, 3), 9, 5, 0, [1, 1059], 0),
  (50, (.iload_n 2, 1), 2, 0, 0, [], 0),
  (51, (.invokevirtual 254, 3), 60, 2, 0, [0, 0, 3120], 0),
  (54, (.aload_n 0, 1), 0, 0, 0, [], 0),
  (55, (.getfield 83, 3), 9, 12, 0, [1, 1066], 0),
  (58, (.iload_n 2, 1), 2, 0, 0, [], 0),
  (59, (.iconst 0, 1), 0, 0, 0, [], 0),
  (60, (.iastore, 1), 0, 0, 0, [], 0),
  (61, (.iinc 2 1, 3), 2, 0, 1, [], 0),
  (64, (.goto (-37), 3), 27, 0, 0, [], 2),
  (67, (.aload_n 0, 1), 0, 0, 0, [], 0),
  (68, (.getfield 46, 3), 9, 5, 0, [1, 1059], 0),
  (71, (.invokevirtual 257, 3), 62, 1, 0, [0, 0, 2131], 0),
  (74, (.aload_n 0, 1), 0, 0, 0, [], 0),
  (75, (.getfield 46, 3), 9, 5, 0, [1, 1059], 0),
  (78, (.aload_n 0, 1), 0, 0, 0, [], 0),
  (79, (.getfield 83, 3), 9, 12, 0, [1, 1066], 0),
  (82, (.invokevirtual 260, 3), 70, 2, 0, [0, 1, 2172], 0),
  (85, (.ifCond .eq 23, 3), 108, 0, 0, [], 0),
  (88, (.aload_n 0, 1), 0, 0, 0, [], 0),
  (89, (.getfield 12, 3), 9, 0, 0, [1, 1054], 0)]),
 (110, [(92, (.getfield 192, 3), 3, 0, 0, [0, 59], 0),
  (95, (.aload_n 0, 1), 0, 0, 0, [], 0),
  (96, (.getfield 46, 3), 9, 5, 0, [1, 1059], 0),
  (99, (.getfield 223, 3), 7, 2, 0, [0, 167], 0),
  (102, (.invokestatic 264, 3), 160, 2, 0, [1, 1, 3018], 0),
  (105, (.goto 4, 3), 109, 0, 0, [], 0),
  (108, (.iconst 0, 1), 0, 0, 0, [], 0),
  (109, (.ireturn, 1), 0, 0, 0, [], 0)])]
/-- LampPresses.only(I)I -/
def lp_c112 : List (Nat × List lp_E) := [(42, [(0, (.aload_n 0, 1), 0, 0, 0, [], 0),
  (1, (.iload_n 1, 1), 1, 0, 0, [], 0),
  (2, (.invokevirtual 245, 3), 142, 2, 0, [0, 1, 3116], 0),
  (5, (.ifCond .ne 5, 3), 10, 0, 0, [], 0),
  (8, (.iconst (-1), 1), 0, 0, (-1), [], 0),
  (9, (.ireturn, 1), 0, 0, 0, [], 0),
  (10, (.aload_n 0, 1), 0, 0, 0, [], 0),
  (11, (.getfield 46, 3), 9, 5, 0, [1, 1059], 0),
  (14, (.aload_n 0, 1), 0, 0, 0, [], 0),
  (15, (.getfield 12, 3), 9, 0, 0, [1, 1054], 0),
  (18, (.invokevirtual 248, 3), 59, 2, 0, [0, 0, 2126], 0),
  (21, (.aload_n 0, 1), 0, 0, 0, [], 0),
  (22, (.invokevirtual 251, 3), 147, 1, 0, [0, 0, 2167], 0),
  (25, (.iconst 0, 1), 0, 0, 0, [], 0),
  (26, (.istore_n 2, 1), 2, 0, 0, [], 1),
  (27, (.iload_n 2, 1), 2, 0, 0, [], 0),
  (28, (.aload_n 0, 1), 0, 0, 0, [], 0),
  (29, (.getfield 12, 3), 9, 0, 0, [1, 1054], 0),
  (32, (.getfield 117, 3), 3, 1, 0, [0, 64], 0),
  (35, (.if_icmp .ge 25, 3), 60, 0, 0, [], 0),
  (38, (.iload_n 1, 1), 1, 0, 0, [], 0),
  (39, (.iload_n 2, 1), 2, 0, 0, [], 0),
  (40, (.ishr, 1), 0, 0, 0, [], 0),
  (41, (.iconst 1, 1), 0, 0, 1, [], 0)]),
 (96, [(42, (.iand, 1), 0, 0, 0, [], 0),
  (43, (.ifCond .ne 11, 3), 54, 0, 0, [], 0),
  (46, (.aload_n 0, 1), 0, 0, 0, [], 0),
  (47, (.getfield 46, 3), 9, 5, 0, [1, 1059], 0),
  (50, (.iload_n 2, 1), 2, 0, 0, [], 0),
  (51, (.invokevirtual 267, 3), 61, 2, 0, [0, 0, 3128], 0),
  (54, (.iinc 2 1, 3), 2, 0, 1, [], 0),
  (57, (.goto (-30), 3), 27, 0, 0, [], 2),
  (60, (.aload_n 0, 1), 0, 0, 0, [], 0),
  (61, (.getfield 46, 3), 9, 5, 0, [1, 1059], 0),
  (64, (.invokevirtual 257, 3), 62, 1, 0, [0, 0, 2131], 0),
  (67, (.aload_n 0, 1), 0, 0, 0, [], 0),
  (68, (.getfield 46, 3), 9, 5, 0, [1, 1059], 0),
  (71, (.aload_n 0, 1), 0, 0, 0, [], 0),
  (72, (.getfield 83, 3), 9, 12, 0, [1, 1066], 0),
  (75, (.invokevirtual 260, 3), 70, 2, 0, [0, 1, 2172], 0),
  (78, (.ifCond .eq 28, 3), 106, 0, 0, [], 0),
  (81, (.aload_n 0, 1), 0, 0, 0, [], 0),
  (82, (.getfield 12, 3), 9, 0, 0, [1, 1054], 0),
  (85, (.getfield 192, 3), 3, 0, 0, [0, 59], 0),
  (88, (.iload_n 1, 1), 1, 0, 0, [], 0),
  (89, (.invokestatic 209, 3), 282, 1, 0, [1, 1, 3001], 0),
  (92, (.aload_n 0, 1), 0, 0, 0, [], 0),
  (93, (.getfield 46, 3), 9, 5, 0, [1, 1059], 0)]),
 (108, [(96, (.getfield 217, 3), 7, 1, 0, [0, 164], 0),
  (99, (.isub, 1), 0, 0, 0, [], 0),
  (100, (.invokestatic 264, 3), 160, 2, 0, [1, 1, 3018], 0),
  (103, (.goto 4, 3), 107, 0, 0, [], 0),
  (106, (.iconst 0, 1), 0, 0, 0, [], 0),
  (107, (.ireturn, 1), 0, 0, 0, [], 0)])]
/-- LampPresses.sparest(I)I -/
def lp_c113 : List (Nat × List lp_E) := [(10, [(0, (.aload_n 0, 1), 0, 0, 0, [], 0),
  (1, (.aload_n 0, 1), 0, 0, 0, [], 0),
  (2, (.getfield 58, 3), 9, 7, 0, [1, 1061], 0),
  (5, (.iload_n 1, 1), 1, 0, 0, [], 0),
  (6, (.invokevirtual 229, 3), 148, 3, 0, [0, 1, 3037], 0),
  (9, (.ireturn, 1), 0, 0, 0, [], 0)])]
/-- LampPresses.greedy(I)I -/
def lp_c114 : List (Nat × List lp_E) := [(42, [(0, (.iload_n 1, 1), 1, 0, 0, [], 0),
  (1, (.ifCond .eq 10, 3), 11, 0, 0, [], 0),
  (4, (.iload_n 1, 1), 1, 0, 0, [], 0),
  (5, (.iconst 1, 1), 0, 0, 1, [], 0),
  (6, (.if_icmp .eq 5, 3), 11, 0, 0, [], 0),
  (9, (.iconst (-1), 1), 0, 0, (-1), [], 0),
  (10, (.ireturn, 1), 0, 0, 0, [], 0),
  (11, (.aload_n 0, 1), 0, 0, 0, [], 0),
  (12, (.getfield 12, 3), 9, 0, 0, [1, 1054], 0),
  (15, (.getfield 154, 3), 3, 3, 0, [1, 69], 0),
  (18, (.iconst 0, 1), 0, 0, 0, [], 0),
  (19, (.aload_n 0, 1), 0, 0, 0, [], 0),
  (20, (.getfield 87, 3), 9, 13, 0, [1, 1067], 0),
  (23, (.iconst 0, 1), 0, 0, 0, [], 0),
  (24, (.bipush 10, 2), 0, 0, 10, [], 0),
  (26, (.invokestatic 164, 3), 0, 5, 0, [6, 0, 2113], 0),
  (29, (.aload_n 0, 1), 0, 0, 0, [], 0),
  (30, (.getfield 12, 3), 9, 0, 0, [1, 1054], 0),
  (33, (.invokevirtual 161, 3), 29, 1, 0, [0, 1, 2109], 0),
  (36, (.istore_n 2, 1), 2, 0, 0, [], 0),
  (37, (.iconst 0, 1), 0, 0, 0, [], 0),
  (38, (.istore_n 3, 1), 3, 0, 0, [], 0),
  (39, (.iconst 0, 1), 0, 0, 0, [], 0),
  (40, (.istore 4, 2), 4, 0, 0, [], 1)]),
 (92, [(42, (.iload 4, 2), 4, 0, 0, [], 0),
  (44, (.bipush 10, 2), 0, 0, 10, [], 0),
  (46, (.if_icmp .ge 55, 3), 101, 0, 0, [], 0),
  (49, (.aload_n 0, 1), 0, 0, 0, [], 0),
  (50, (.iload_n 2, 1), 2, 0, 0, [], 0),
  (51, (.invokevirtual 270, 3), 151, 2, 0, [0, 1, 3140], 0),
  (54, (.istore 5, 2), 5, 0, 0, [], 0),
  (56, (.iload 5, 2), 5, 0, 0, [], 0),
  (58, (.iconst (-1), 1), 0, 0, (-1), [], 0),
  (59, (.if_icmp .ne 6, 3), 65, 0, 0, [], 0),
  (62, (.goto 39, 3), 101, 0, 0, [], 0),
  (65, (.aload_n 0, 1), 0, 0, 0, [], 0),
  (66, (.getfield 12, 3), 9, 0, 0, [1, 1054], 0),
  (69, (.aload_n 0, 1), 0, 0, 0, [], 0),
  (70, (.getfield 87, 3), 9, 13, 0, [1, 1067], 0),
  (73, (.iload 5, 2), 5, 0, 0, [], 0),
  (75, (.invokevirtual 273, 3), 30, 3, 0, [0, 1, 3144], 0),
  (78, (.istore_n 2, 1), 2, 0, 0, [], 0),
  (79, (.aload_n 0, 1), 0, 0, 0, [], 0),
  (80, (.getfield 12, 3), 9, 0, 0, [1, 1054], 0),
  (83, (.aload_n 0, 1), 0, 0, 0, [], 0),
  (84, (.getfield 87, 3), 9, 13, 0, [1, 1067], 0),
  (87, (.iload 5, 2), 5, 0, 0, [], 0),
  (89, (.invokevirtual 276, 3), 28, 3, 0, [0, 0, 3148], 0)]),
 (111, [(92, (.iinc 3 1, 3), 3, 0, 1, [], 0),
  (95, (.iinc 4 1, 3), 4, 0, 1, [], 0),
  (98, (.goto (-56), 3), 42, 0, 0, [], 2),
  (101, (.iload_n 1, 1), 1, 0, 0, [], 0),
  (102, (.ifCond .ne 7, 3), 109, 0, 0, [], 0),
  (105, (.iload_n 3, 1), 3, 0, 0, [], 0),
  (106, (.goto 4, 3), 110, 0, 0, [], 0),
  (109, (.iload_n 2, 1), 2, 0, 0, [], 0),
  (110, (.ireturn, 1), 0, 0, 0, [], 0)])]
/-- LampPresses.hardest()I -/
def lp_c115 : List (Nat × List lp_E) := [(41, [(0, (.aload_n 0, 1), 0, 0, 0, [], 0),
  (1, (.invokevirtual 214, 3), 137, 1, 0, [0, 0, 2122], 0),
  (4, (.bipush (-2), 2), 0, 0, (-2), [], 0),
  (6, (.istore_n 1, 1), 1, 0, 0, [], 0),
  (7, (.bipush (-2), 2), 0, 0, (-2), [], 0),
  (9, (.istore_n 2, 1), 2, 0, 0, [], 0),
  (10, (.iconst 0, 1), 0, 0, 0, [], 0),
  (11, (.istore_n 3, 1), 3, 0, 0, [], 1),
  (12, (.iload_n 3, 1), 3, 0, 0, [], 0),
  (13, (.aload_n 0, 1), 0, 0, 0, [], 0),
  (14, (.getfield 12, 3), 9, 0, 0, [1, 1054], 0),
  (17, (.getfield 117, 3), 3, 1, 0, [0, 64], 0),
  (20, (.if_icmp .ge 27, 3), 47, 0, 0, [], 0),
  (23, (.aload_n 0, 1), 0, 0, 0, [], 0),
  (24, (.iload_n 3, 1), 3, 0, 0, [], 0),
  (25, (.invokevirtual 236, 3), 149, 2, 0, [0, 1, 3079], 0),
  (28, (.istore 4, 2), 4, 0, 0, [], 0),
  (30, (.iload 4, 2), 4, 0, 0, [], 0),
  (32, (.iload_n 1, 1), 1, 0, 0, [], 0),
  (33, (.if_icmp .le 8, 3), 41, 0, 0, [], 0),
  (36, (.iload 4, 2), 4, 0, 0, [], 0),
  (38, (.istore_n 1, 1), 1, 0, 0, [], 0),
  (39, (.iload_n 3, 1), 3, 0, 0, [], 0),
  (40, (.istore_n 2, 1), 2, 0, 0, [], 0)]),
 (49, [(41, (.iinc 3 1, 3), 3, 0, 1, [], 0),
  (44, (.goto (-32), 3), 12, 0, 0, [], 2),
  (47, (.iload_n 2, 1), 2, 0, 0, [], 0),
  (48, (.ireturn, 1), 0, 0, 0, [], 0)])]
/-- LampPresses.after(II)I -/
def lp_c116 : List (Nat × List lp_E) := [(44, [(0, (.aload_n 0, 1), 0, 0, 0, [], 0),
  (1, (.getfield 12, 3), 9, 0, 0, [1, 1054], 0),
  (4, (.iload_n 1, 1), 1, 0, 0, [], 0),
  (5, (.invokevirtual 131, 3), 18, 2, 0, [0, 1, 2052], 0),
  (8, (.ifCond .eq 14, 3), 22, 0, 0, [], 0),
  (11, (.aload_n 0, 1), 0, 0, 0, [], 0),
  (12, (.getfield 12, 3), 9, 0, 0, [1, 1054], 0),
  (15, (.iload_n 2, 1), 2, 0, 0, [], 0),
  (16, (.invokevirtual 131, 3), 18, 2, 0, [0, 1, 2052], 0),
  (19, (.ifCond .ne 5, 3), 24, 0, 0, [], 0),
  (22, (.iconst (-1), 1), 0, 0, (-1), [], 0),
  (23, (.ireturn, 1), 0, 0, 0, [], 0),
  (24, (.aload_n 0, 1), 0, 0, 0, [], 0),
  (25, (.getfield 12, 3), 9, 0, 0, [1, 1054], 0),
  (28, (.getfield 154, 3), 3, 3, 0, [1, 69], 0),
  (31, (.iload_n 2, 1), 2, 0, 0, [], 0),
  (32, (.iaload, 1), 20, 0, 0, [], 0),
  (33, (.aload_n 0, 1), 0, 0, 0, [], 0),
  (34, (.getfield 12, 3), 9, 0, 0, [1, 1054], 0),
  (37, (.getfield 141, 3), 3, 5, 0, [1, 75], 0),
  (40, (.iload_n 1, 1), 1, 0, 0, [], 0),
  (41, (.aaload, 1), 23, 0, 0, [], 0),
  (42, (.iload_n 2, 1), 2, 0, 0, [], 0),
  (43, (.iaload, 1), 20, 0, 0, [], 0)]),
 (56, [(44, (.iadd, 1), 0, 0, 0, [], 0),
  (45, (.aload_n 0, 1), 0, 0, 0, [], 0),
  (46, (.getfield 12, 3), 9, 0, 0, [1, 1054], 0),
  (49, (.getfield 192, 3), 3, 0, 0, [0, 59], 0),
  (52, (.invokestatic 195, 3), 159, 2, 0, [1, 1, 2171], 0),
  (55, (.ireturn, 1), 0, 0, 0, [], 0)])]
/-- LampPresses.cycle(I)I -/
def lp_c117 : List (Nat × List lp_E) := [(47, [(0, (.aload_n 0, 1), 0, 0, 0, [], 0),
  (1, (.getfield 12, 3), 9, 0, 0, [1, 1054], 0),
  (4, (.iload_n 1, 1), 1, 0, 0, [], 0),
  (5, (.invokevirtual 131, 3), 18, 2, 0, [0, 1, 2052], 0),
  (8, (.ifCond .ne 5, 3), 13, 0, 0, [], 0),
  (11, (.iconst (-1), 1), 0, 0, (-1), [], 0),
  (12, (.ireturn, 1), 0, 0, 0, [], 0),
  (13, (.aload_n 0, 1), 0, 0, 0, [], 0),
  (14, (.getfield 12, 3), 9, 0, 0, [1, 1054], 0),
  (17, (.getfield 141, 3), 3, 5, 0, [1, 75], 0),
  (20, (.iload_n 1, 1), 1, 0, 0, [], 0),
  (21, (.aaload, 1), 23, 0, 0, [], 0),
  (22, (.aload_n 0, 1), 0, 0, 0, [], 0),
  (23, (.getfield 12, 3), 9, 0, 0, [1, 1054], 0),
  (26, (.getfield 117, 3), 3, 1, 0, [0, 64], 0),
  (29, (.invokestatic 177, 3), 161, 2, 0, [1, 1, 2180], 0),
  (32, (.ifCond .ne 7, 3), 39, 0, 0, [], 0),
  (35, (.iconst 1, 1), 0, 0, 1, [], 0),
  (36, (.goto 10, 3), 46, 0, 0, [], 0),
  (39, (.aload_n 0, 1), 0, 0, 0, [], 0),
  (40, (.getfield 12, 3), 9, 0, 0, [1, 1054], 0),
  (43, (.getfield 192, 3), 3, 0, 0, [0, 59], 0),
  (46, (.ireturn, 1), 0, 0, 0, [], 0)])]
/-- LampPresses.ways()I -/
def lp_c118 : List (Nat × List lp_E) := [(22, [(0, (.aload_n 0, 1), 0, 0, 0, [], 0),
  (1, (.invokevirtual 214, 3), 137, 1, 0, [0, 0, 2122], 0),
  (4, (.aload_n 0, 1), 0, 0, 0, [], 0),
  (5, (.getfield 12, 3), 9, 0, 0, [1, 1054], 0),
  (8, (.getfield 192, 3), 3, 0, 0, [0, 59], 0),
  (11, (.aload_n 0, 1), 0, 0, 0, [], 0),
  (12, (.getfield 42, 3), 9, 4, 0, [1, 1058], 0),
  (15, (.getfield 217, 3), 7, 1, 0, [0, 164], 0),
  (18, (.invokestatic 264, 3), 160, 2, 0, [1, 1, 3018], 0),
  (21, (.ireturn, 1), 0, 0, 0, [], 0)])]
/-- LampPresses.hub()I -/
def lp_c119 : List (Nat × List lp_E) := [(42, [(0, (.iconst (-1), 1), 0, 0, (-1), [], 0),
  (1, (.istore_n 1, 1), 1, 0, 0, [], 0),
  (2, (.bipush (-2), 2), 0, 0, (-2), [], 0),
  (4, (.istore_n 2, 1), 2, 0, 0, [], 0),
  (5, (.iconst 0, 1), 0, 0, 0, [], 0),
  (6, (.istore_n 3, 1), 3, 0, 0, [], 1),
  (7, (.iload_n 3, 1), 3, 0, 0, [], 0),
  (8, (.aload_n 0, 1), 0, 0, 0, [], 0),
  (9, (.getfield 12, 3), 9, 0, 0, [1, 1054], 0),
  (12, (.getfield 117, 3), 3, 1, 0, [0, 64], 0),
  (15, (.if_icmp .ge 33, 3), 48, 0, 0, [], 0),
  (18, (.aload_n 0, 1), 0, 0, 0, [], 0),
  (19, (.getfield 12, 3), 9, 0, 0, [1, 1054], 0),
  (22, (.iload_n 3, 1), 3, 0, 0, [], 0),
  (23, (.invokevirtual 205, 3), 34, 2, 0, [0, 1, 3000], 0),
  (26, (.invokestatic 209, 3), 282, 1, 0, [1, 1, 3001], 0),
  (29, (.istore 4, 2), 4, 0, 0, [], 0),
  (31, (.iload 4, 2), 4, 0, 0, [], 0),
  (33, (.iload_n 1, 1), 1, 0, 0, [], 0),
  (34, (.if_icmp .le 8, 3), 42, 0, 0, [], 0),
  (37, (.iload 4, 2), 4, 0, 0, [], 0),
  (39, (.istore_n 1, 1), 1, 0, 0, [], 0),
  (40, (.iload_n 3, 1), 3, 0, 0, [], 0),
  (41, (.istore_n 2, 1), 2, 0, 0, [], 0)]),
 (50, [(42, (.iinc 3 1, 3), 3, 0, 1, [], 0),
  (45, (.goto (-38), 3), 7, 0, 0, [], 2),
  (48, (.iload_n 2, 1), 2, 0, 0, [], 0),
  (49, (.ireturn, 1), 0, 0, 0, [], 0)])]
/-- LampPresses.book(II)I -/
def lp_c120 : List (Nat × List lp_E) := [(13, [(0, (.aload_n 0, 1), 0, 0, 0, [], 0),
  (1, (.getfield 12, 3), 9, 0, 0, [1, 1054], 0),
  (4, (.getfield 280, 3), 3, 6, 0, [1, 77], 0),
  (7, (.iload_n 1, 1), 1, 0, 0, [], 0),
  (8, (.iload_n 2, 1), 2, 0, 0, [], 0),
  (9, (.invokevirtual 284, 3), 2, 3, 0, [0, 1, 3176], 0),
  (12, (.ireturn, 1), 0, 0, 0, [], 0)])]
/-- LampPresses.deepest()I -/
def lp_c121 : List (Nat × List lp_E) := [(22, [(0, (.aload_n 0, 1), 0, 0, 0, [], 0),
  (1, (.invokevirtual 289, 3), 144, 1, 0, [0, 1, 3184], 0),
  (4, (.ifCond .ne 6, 3), 10, 0, 0, [], 0),
  (7, (.bipush (-3), 2), 0, 0, (-3), [], 0),
  (9, (.ireturn, 1), 0, 0, 0, [], 0),
  (10, (.aload_n 0, 1), 0, 0, 0, [], 0),
  (11, (.invokevirtual 293, 3), 140, 1, 0, [0, 0, 3192], 0),
  (14, (.aload_n 0, 1), 0, 0, 0, [], 0),
  (15, (.getfield 67, 3), 9, 9, 0, [1, 1063], 0),
  (18, (.getfield 296, 3), 1, 2, 0, [0, 1000], 0),
  (21, (.ireturn, 1), 0, 0, 0, [], 0)])]
/-- LampPresses.level(I)I -/
def lp_c122 : List (Nat × List lp_E) := [(40, [(0, (.iload_n 1, 1), 1, 0, 0, [], 0),
  (1, (.ifCond .ge 5, 3), 6, 0, 0, [], 0),
  (4, (.iconst (-1), 1), 0, 0, (-1), [], 0),
  (5, (.ireturn, 1), 0, 0, 0, [], 0),
  (6, (.aload_n 0, 1), 0, 0, 0, [], 0),
  (7, (.invokevirtual 289, 3), 144, 1, 0, [0, 1, 3184], 0),
  (10, (.ifCond .ne 6, 3), 16, 0, 0, [], 0),
  (13, (.bipush (-3), 2), 0, 0, (-3), [], 0),
  (15, (.ireturn, 1), 0, 0, 0, [], 0),
  (16, (.aload_n 0, 1), 0, 0, 0, [], 0),
  (17, (.invokevirtual 293, 3), 140, 1, 0, [0, 0, 3192], 0),
  (20, (.iload_n 1, 1), 1, 0, 0, [], 0),
  (21, (.bipush 41, 2), 0, 0, 41, [], 0),
  (23, (.if_icmp .ge 15, 3), 38, 0, 0, [], 0),
  (26, (.aload_n 0, 1), 0, 0, 0, [], 0),
  (27, (.getfield 67, 3), 9, 9, 0, [1, 1063], 0),
  (30, (.getfield 299, 3), 1, 3, 0, [1, 1002], 0),
  (33, (.iload_n 1, 1), 1, 0, 0, [], 0),
  (34, (.iaload, 1), 20, 0, 0, [], 0),
  (35, (.goto 4, 3), 39, 0, 0, [], 0),
  (38, (.iconst 0, 1), 0, 0, 0, [], 0),
  (39, (.ireturn, 1), 0, 0, 0, [], 0)])]
def lp_c123_0 : List lp_E := [(0, (.iload_n 1, 1), 1, 0, 0, [], 0),
  (1, (.ifCond .lt 11, 3), 12, 0, 0, [], 0),
  (4, (.iload_n 1, 1), 1, 0, 0, [], 0),
  (5, (.aload_n 0, 1), 0, 0, 0, [], 0),
  (6, (.invokevirtual 302, 3), 143, 1, 0, [0, 1, 3188], 0),
  (9, (.if_icmp .lt 5, 3), 14, 0, 0, [], 0),
  (12, (.iconst (-1), 1), 0, 0, (-1), [], 0),
  (13, (.ireturn, 1), 0, 0, 0, [], 0),
  (14, (.aload_n 0, 1), 0, 0, 0, [], 0),
  (15, (.invokevirtual 289, 3), 144, 1, 0, [0, 1, 3184], 0),
  (18, (.ifCond .ne 6, 3), 24, 0, 0, [], 0),
  (21, (.bipush (-3), 2), 0, 0, (-3), [], 0),
  (23, (.ireturn, 1), 0, 0, 0, [], 0),
  (24, (.aload_n 0, 1), 0, 0, 0, [], 0),
  (25, (.invokevirtual 214, 3), 137, 1, 0, [0, 0, 2122], 0),
  (28, (.iload_n 1, 1), 1, 0, 0, [], 0),
  (29, (.istore_n 2, 1), 2, 0, 0, [], 0),
  (30, (.aload_n 0, 1), 0, 0, 0, [], 0),
  (31, (.getfield 12, 3), 9, 0, 0, [1, 1054], 0),
  (34, (.getfield 117, 3), 3, 1, 0, [0, 64], 0),
  (37, (.iconst 1, 1), 0, 0, 1, [], 0),
  (38, (.isub, 1), 0, 0, 0, [], 0),
  (39, (.istore_n 3, 1), 3, 0, 0, [], 1),
  (40, (.iload_n 3, 1), 3, 0, 0, [], 0)]
def lp_c123_1 : List lp_E := [(41, (.ifCond .lt 78, 3), 119, 0, 0, [], 0),
  (44, (.aload_n 0, 1), 0, 0, 0, [], 0),
  (45, (.getfield 83, 3), 9, 12, 0, [1, 1066], 0),
  (48, (.iload_n 3, 1), 3, 0, 0, [], 0),
  (49, (.iload_n 2, 1), 2, 0, 0, [], 0),
  (50, (.aload_n 0, 1), 0, 0, 0, [], 0),
  (51, (.getfield 12, 3), 9, 0, 0, [1, 1054], 0),
  (54, (.getfield 192, 3), 3, 0, 0, [0, 59], 0),
  (57, (.invokestatic 195, 3), 159, 2, 0, [1, 1, 2171], 0),
  (60, (.aload_n 0, 1), 0, 0, 0, [], 0),
  (61, (.getfield 12, 3), 9, 0, 0, [1, 1054], 0),
  (64, (.getfield 192, 3), 3, 0, 0, [0, 59], 0),
  (67, (.iadd, 1), 0, 0, 0, [], 0),
  (68, (.aload_n 0, 1), 0, 0, 0, [], 0),
  (69, (.getfield 12, 3), 9, 0, 0, [1, 1054], 0),
  (72, (.getfield 154, 3), 3, 3, 0, [1, 69], 0),
  (75, (.iload_n 3, 1), 3, 0, 0, [], 0),
  (76, (.iaload, 1), 20, 0, 0, [], 0),
  (77, (.isub, 1), 0, 0, 0, [], 0),
  (78, (.aload_n 0, 1), 0, 0, 0, [], 0),
  (79, (.getfield 12, 3), 9, 0, 0, [1, 1054], 0),
  (82, (.getfield 192, 3), 3, 0, 0, [0, 59], 0),
  (85, (.invokestatic 195, 3), 159, 2, 0, [1, 1, 2171], 0),
  (88, (.iastore, 1), 0, 0, 0, [], 0)]
def lp_c123_2 : List lp_E := [(89, (.aload_n 0, 1), 0, 0, 0, [], 0),
  (90, (.getfield 12, 3), 9, 0, 0, [1, 1054], 0),
  (93, (.getfield 192, 3), 3, 0, 0, [0, 59], 0),
  (96, (.ifCond .le 15, 3), 111, 0, 0, [], 0),
  (99, (.iload_n 2, 1), 2, 0, 0, [], 0),
  (100, (.aload_n 0, 1), 0, 0, 0, [], 0),
  (101, (.getfield 12, 3), 9, 0, 0, [1, 1054], 0),
  (104, (.getfield 192, 3), 3, 0, 0, [0, 59], 0),
  (107, (.idiv, 1), 0, 0, 0, [], 0),
  (108, (.goto 4, 3), 112, 0, 0, [], 0),
  (111, (.iconst 0, 1), 0, 0, 0, [], 0),
  (112, (.istore_n 2, 1), 2, 0, 0, [], 0),
  (113, (.iinc 3 (-1), 3), 3, 0, (-1), [], 0),
  (116, (.goto (-76), 3), 40, 0, 0, [], 2),
  (119, (.aload_n 0, 1), 0, 0, 0, [], 0),
  (120, (.getfield 42, 3), 9, 4, 0, [1, 1058], 0),
  (123, (.aload_n 0, 1), 0, 0, 0, [], 0),
  (124, (.getfield 83, 3), 9, 12, 0, [1, 1066], 0),
  (127, (.invokevirtual 260, 3), 70, 2, 0, [0, 1, 2172], 0),
  (130, (.ifCond .ne 6, 3), 136, 0, 0, [], 0),
  (133, (.bipush (-2), 2), 0, 0, (-2), [], 0),
  (135, (.ireturn, 1), 0, 0, 0, [], 0),
  (136, (.aload_n 0, 1), 0, 0, 0, [], 0),
  (137, (.getfield 42, 3), 9, 4, 0, [1, 1058], 0)]
def lp_c123_3 : List lp_E := [(140, (.aload_n 0, 1), 0, 0, 0, [], 0),
  (141, (.getfield 87, 3), 9, 13, 0, [1, 1067], 0),
  (144, (.invokevirtual 305, 3), 71, 2, 0, [0, 0, 2176], 0),
  (147, (.aload_n 0, 1), 0, 0, 0, [], 0),
  (148, (.getfield 61, 3), 9, 8, 0, [1, 1062], 0),
  (151, (.aload_n 0, 1), 0, 0, 0, [], 0),
  (152, (.getfield 42, 3), 9, 4, 0, [1, 1058], 0),
  (155, (.aload_n 0, 1), 0, 0, 0, [], 0),
  (156, (.getfield 87, 3), 9, 13, 0, [1, 1067], 0),
  (159, (.invokevirtual 309, 3), 55, 3, 0, [0, 0, 3050], 0),
  (162, (.aload_n 0, 1), 0, 0, 0, [], 0),
  (163, (.getfield 61, 3), 9, 8, 0, [1, 1062], 0),
  (166, (.getfield 313, 3), 6, 1, 0, [0, 213], 0),
  (169, (.ireturn, 1), 0, 0, 0, [], 0)]
/-- LampPresses.levelOf(I)I -/
def lp_c123 : List (Nat × List lp_E) := [(41, lp_c123_0), (89, lp_c123_1), (140, lp_c123_2), (170, lp_c123_3)]
/-- LampPresses.far(I)I -/
def lp_c124 : List (Nat × List lp_E) := [(49, [(0, (.aload_n 0, 1), 0, 0, 0, [], 0),
  (1, (.getfield 12, 3), 9, 0, 0, [1, 1054], 0),
  (4, (.iload_n 1, 1), 1, 0, 0, [], 0),
  (5, (.invokevirtual 131, 3), 18, 2, 0, [0, 1, 2052], 0),
  (8, (.ifCond .ne 5, 3), 13, 0, 0, [], 0),
  (11, (.iconst (-1), 1), 0, 0, (-1), [], 0),
  (12, (.ireturn, 1), 0, 0, 0, [], 0),
  (13, (.aload_n 0, 1), 0, 0, 0, [], 0),
  (14, (.invokevirtual 289, 3), 144, 1, 0, [0, 1, 3184], 0),
  (17, (.ifCond .ne 6, 3), 23, 0, 0, [], 0),
  (20, (.bipush (-3), 2), 0, 0, (-3), [], 0),
  (22, (.ireturn, 1), 0, 0, 0, [], 0),
  (23, (.aload_n 0, 1), 0, 0, 0, [], 0),
  (24, (.getfield 67, 3), 9, 9, 0, [1, 1063], 0),
  (27, (.getfield 316, 3), 1, 1, 0, [0, 238], 0),
  (30, (.ifCond .ne 11, 3), 41, 0, 0, [], 0),
  (33, (.aload_n 0, 1), 0, 0, 0, [], 0),
  (34, (.getfield 67, 3), 9, 9, 0, [1, 1063], 0),
  (37, (.iconst 0, 1), 0, 0, 0, [], 0),
  (38, (.putfield 319, 3), 1, 0, 0, [2, 237, 0], 0),
  (41, (.aload_n 0, 1), 0, 0, 0, [], 0),
  (42, (.invokevirtual 293, 3), 140, 1, 0, [0, 0, 3192], 0),
  (45, (.aload_n 0, 1), 0, 0, 0, [], 0),
  (46, (.getfield 67, 3), 9, 9, 0, [1, 1063], 0)]),
 (55, [(49, (.getfield 322, 3), 1, 4, 0, [1, 1004], 0),
  (52, (.iload_n 1, 1), 1, 0, 0, [], 0),
  (53, (.iaload, 1), 20, 0, 0, [], 0),
  (54, (.ireturn, 1), 0, 0, 0, [], 0)])]
/-- LampPresses.byOwn(II)I -/
def lp_c125 : List (Nat × List lp_E) := [(32, [(0, (.aload_n 0, 1), 0, 0, 0, [], 0),
  (1, (.getfield 12, 3), 9, 0, 0, [1, 1054], 0),
  (4, (.iload_n 1, 1), 1, 0, 0, [], 0),
  (5, (.invokevirtual 131, 3), 18, 2, 0, [0, 1, 2052], 0),
  (8, (.ifCond .eq 14, 3), 22, 0, 0, [], 0),
  (11, (.aload_n 0, 1), 0, 0, 0, [], 0),
  (12, (.getfield 12, 3), 9, 0, 0, [1, 1054], 0),
  (15, (.iload_n 2, 1), 2, 0, 0, [], 0),
  (16, (.invokevirtual 120, 3), 19, 2, 0, [0, 1, 2031], 0),
  (19, (.ifCond .ne 5, 3), 24, 0, 0, [], 0),
  (22, (.iconst (-1), 1), 0, 0, (-1), [], 0),
  (23, (.ireturn, 1), 0, 0, 0, [], 0),
  (24, (.aload_n 0, 1), 0, 0, 0, [], 0),
  (25, (.iload_n 1, 1), 1, 0, 0, [], 0),
  (26, (.iload_n 1, 1), 1, 0, 0, [], 0),
  (27, (.iload_n 2, 1), 2, 0, 0, [], 0),
  (28, (.invokevirtual 325, 3), 152, 4, 0, [0, 1, 4006], 0),
  (31, (.ireturn, 1), 0, 0, 0, [], 0)])]
/-- LampPresses.byWire(III)I -/
def lp_c126 : List (Nat × List lp_E) := [(30, [(0, (.aload_n 0, 1), 0, 0, 0, [], 0),
  (1, (.iload_n 1, 1), 1, 0, 0, [], 0),
  (2, (.iload_n 2, 1), 2, 0, 0, [], 0),
  (3, (.invokevirtual 137, 3), 141, 3, 0, [0, 1, 2068], 0),
  (6, (.ifCond .eq 14, 3), 20, 0, 0, [], 0),
  (9, (.aload_n 0, 1), 0, 0, 0, [], 0),
  (10, (.getfield 12, 3), 9, 0, 0, [1, 1054], 0),
  (13, (.iload_n 3, 1), 3, 0, 0, [], 0),
  (14, (.invokevirtual 120, 3), 19, 2, 0, [0, 1, 2031], 0),
  (17, (.ifCond .ne 5, 3), 22, 0, 0, [], 0),
  (20, (.iconst (-1), 1), 0, 0, (-1), [], 0),
  (21, (.ireturn, 1), 0, 0, 0, [], 0),
  (22, (.aload_n 0, 1), 0, 0, 0, [], 0),
  (23, (.iload_n 1, 1), 1, 0, 0, [], 0),
  (24, (.iload_n 2, 1), 2, 0, 0, [], 0),
  (25, (.iload_n 3, 1), 3, 0, 0, [], 0),
  (26, (.invokevirtual 325, 3), 152, 4, 0, [0, 1, 4006], 0),
  (29, (.ireturn, 1), 0, 0, 0, [], 0)])]
/-- LampPresses.without(I)I -/
def lp_c127 : List (Nat × List lp_E) := [(48, [(0, (.aload_n 0, 1), 0, 0, 0, [], 0),
  (1, (.getfield 12, 3), 9, 0, 0, [1, 1054], 0),
  (4, (.iload_n 1, 1), 1, 0, 0, [], 0),
  (5, (.invokevirtual 131, 3), 18, 2, 0, [0, 1, 2052], 0),
  (8, (.ifCond .ne 5, 3), 13, 0, 0, [], 0),
  (11, (.iconst (-1), 1), 0, 0, (-1), [], 0),
  (12, (.ireturn, 1), 0, 0, 0, [], 0),
  (13, (.aload_n 0, 1), 0, 0, 0, [], 0),
  (14, (.getfield 46, 3), 9, 5, 0, [1, 1059], 0),
  (17, (.aload_n 0, 1), 0, 0, 0, [], 0),
  (18, (.getfield 12, 3), 9, 0, 0, [1, 1054], 0),
  (21, (.invokevirtual 248, 3), 59, 2, 0, [0, 0, 2126], 0),
  (24, (.aload_n 0, 1), 0, 0, 0, [], 0),
  (25, (.getfield 46, 3), 9, 5, 0, [1, 1059], 0),
  (28, (.iload_n 1, 1), 1, 0, 0, [], 0),
  (29, (.invokevirtual 254, 3), 60, 2, 0, [0, 0, 3120], 0),
  (32, (.aload_n 0, 1), 0, 0, 0, [], 0),
  (33, (.getfield 46, 3), 9, 5, 0, [1, 1059], 0),
  (36, (.iload_n 1, 1), 1, 0, 0, [], 0),
  (37, (.invokevirtual 267, 3), 61, 2, 0, [0, 0, 3128], 0),
  (40, (.aload_n 0, 1), 0, 0, 0, [], 0),
  (41, (.getfield 46, 3), 9, 5, 0, [1, 1059], 0),
  (44, (.invokevirtual 257, 3), 62, 1, 0, [0, 0, 2131], 0),
  (47, (.aload_n 0, 1), 0, 0, 0, [], 0)]),
 (55, [(48, (.getfield 46, 3), 9, 5, 0, [1, 1059], 0),
  (51, (.getfield 217, 3), 7, 1, 0, [0, 164], 0),
  (54, (.ireturn, 1), 0, 0, 0, [], 0)])]
/-- LampPresses.mend()I -/
def lp_c128 : List (Nat × List lp_E) := [(41, [(0, (.aload_n 0, 1), 0, 0, 0, [], 0),
  (1, (.invokevirtual 170, 3), 138, 1, 0, [0, 0, 2118], 0),
  (4, (.aload_n 0, 1), 0, 0, 0, [], 0),
  (5, (.getfield 173, 3), 9, 15, 0, [0, 1069], 0),
  (8, (.ifCond .eq 6, 3), 14, 0, 0, [], 0),
  (11, (.bipush (-2), 2), 0, 0, (-2), [], 0),
  (13, (.ireturn, 1), 0, 0, 0, [], 0),
  (14, (.aload_n 0, 1), 0, 0, 0, [], 0),
  (15, (.invokevirtual 251, 3), 147, 1, 0, [0, 0, 2167], 0),
  (18, (.iconst 0, 1), 0, 0, 0, [], 0),
  (19, (.istore_n 1, 1), 1, 0, 0, [], 1),
  (20, (.iload_n 1, 1), 1, 0, 0, [], 0),
  (21, (.aload_n 0, 1), 0, 0, 0, [], 0),
  (22, (.getfield 12, 3), 9, 0, 0, [1, 1054], 0),
  (25, (.getfield 117, 3), 3, 1, 0, [0, 64], 0),
  (28, (.if_icmp .ge 98, 3), 126, 0, 0, [], 0),
  (31, (.aload_n 0, 1), 0, 0, 0, [], 0),
  (32, (.getfield 83, 3), 9, 12, 0, [1, 1066], 0),
  (35, (.iload_n 1, 1), 1, 0, 0, [], 0),
  (36, (.iaload, 1), 20, 0, 0, [], 0),
  (37, (.istore_n 2, 1), 2, 0, 0, [], 0),
  (38, (.iconst 0, 1), 0, 0, 0, [], 0),
  (39, (.istore_n 3, 1), 3, 0, 0, [], 1),
  (40, (.iload_n 3, 1), 3, 0, 0, [], 0)]),
 (87, [(41, (.aload_n 0, 1), 0, 0, 0, [], 0),
  (42, (.getfield 12, 3), 9, 0, 0, [1, 1054], 0),
  (45, (.getfield 192, 3), 3, 0, 0, [0, 59], 0),
  (48, (.if_icmp .ge 65, 3), 113, 0, 0, [], 0),
  (51, (.aload_n 0, 1), 0, 0, 0, [], 0),
  (52, (.getfield 83, 3), 9, 12, 0, [1, 1066], 0),
  (55, (.iload_n 1, 1), 1, 0, 0, [], 0),
  (56, (.aload_n 0, 1), 0, 0, 0, [], 0),
  (57, (.getfield 12, 3), 9, 0, 0, [1, 1054], 0),
  (60, (.getfield 148, 3), 3, 4, 0, [1, 71], 0),
  (63, (.iload_n 1, 1), 1, 0, 0, [], 0),
  (64, (.iaload, 1), 20, 0, 0, [], 0),
  (65, (.aload_n 0, 1), 0, 0, 0, [], 0),
  (66, (.getfield 12, 3), 9, 0, 0, [1, 1054], 0),
  (69, (.getfield 192, 3), 3, 0, 0, [0, 59], 0),
  (72, (.iadd, 1), 0, 0, 0, [], 0),
  (73, (.iload_n 3, 1), 3, 0, 0, [], 0),
  (74, (.isub, 1), 0, 0, 0, [], 0),
  (75, (.aload_n 0, 1), 0, 0, 0, [], 0),
  (76, (.getfield 12, 3), 9, 0, 0, [1, 1054], 0),
  (79, (.getfield 192, 3), 3, 0, 0, [0, 59], 0),
  (82, (.invokestatic 195, 3), 159, 2, 0, [1, 1, 2171], 0),
  (85, (.iastore, 1), 0, 0, 0, [], 0),
  (86, (.aload_n 0, 1), 0, 0, 0, [], 0)]),
 (129, [(87, (.getfield 42, 3), 9, 4, 0, [1, 1058], 0),
  (90, (.aload_n 0, 1), 0, 0, 0, [], 0),
  (91, (.getfield 83, 3), 9, 12, 0, [1, 1066], 0),
  (94, (.invokevirtual 260, 3), 70, 2, 0, [0, 1, 2172], 0),
  (97, (.ifCond .eq 10, 3), 107, 0, 0, [], 0),
  (100, (.bipush 10, 2), 0, 0, 10, [], 0),
  (102, (.iload_n 1, 1), 1, 0, 0, [], 0),
  (103, (.imul, 1), 0, 0, 0, [], 0),
  (104, (.iload_n 3, 1), 3, 0, 0, [], 0),
  (105, (.iadd, 1), 0, 0, 0, [], 0),
  (106, (.ireturn, 1), 0, 0, 0, [], 0),
  (107, (.iinc 3 1, 3), 3, 0, 1, [], 0),
  (110, (.goto (-70), 3), 40, 0, 0, [], 2),
  (113, (.aload_n 0, 1), 0, 0, 0, [], 0),
  (114, (.getfield 83, 3), 9, 12, 0, [1, 1066], 0),
  (117, (.iload_n 1, 1), 1, 0, 0, [], 0),
  (118, (.iload_n 2, 1), 2, 0, 0, [], 0),
  (119, (.iastore, 1), 0, 0, 0, [], 0),
  (120, (.iinc 1 1, 3), 1, 0, 1, [], 0),
  (123, (.goto (-103), 3), 20, 0, 0, [], 2),
  (126, (.bipush (-2), 2), 0, 0, (-2), [], 0),
  (128, (.ireturn, 1), 0, 0, 0, [], 0)])]
/-- LampPresses.even()I -/
def lp_c129 : List (Nat × List lp_E) := [(42, [(0, (.aload_n 0, 1), 0, 0, 0, [], 0),
  (1, (.invokevirtual 214, 3), 137, 1, 0, [0, 0, 2122], 0),
  (4, (.iconst 0, 1), 0, 0, 0, [], 0),
  (5, (.istore_n 1, 1), 1, 0, 0, [], 0),
  (6, (.iconst 0, 1), 0, 0, 0, [], 0),
  (7, (.istore_n 2, 1), 2, 0, 0, [], 1),
  (8, (.iload_n 2, 1), 2, 0, 0, [], 0),
  (9, (.aload_n 0, 1), 0, 0, 0, [], 0),
  (10, (.getfield 12, 3), 9, 0, 0, [1, 1054], 0),
  (13, (.getfield 192, 3), 3, 0, 0, [0, 59], 0),
  (16, (.if_icmp .ge 83, 3), 99, 0, 0, [], 0),
  (19, (.iconst 0, 1), 0, 0, 0, [], 0),
  (20, (.istore_n 3, 1), 3, 0, 0, [], 1),
  (21, (.iload_n 3, 1), 3, 0, 0, [], 0),
  (22, (.aload_n 0, 1), 0, 0, 0, [], 0),
  (23, (.getfield 12, 3), 9, 0, 0, [1, 1054], 0),
  (26, (.getfield 117, 3), 3, 1, 0, [0, 64], 0),
  (29, (.if_icmp .ge 44, 3), 73, 0, 0, [], 0),
  (32, (.aload_n 0, 1), 0, 0, 0, [], 0),
  (33, (.getfield 83, 3), 9, 12, 0, [1, 1066], 0),
  (36, (.iload_n 3, 1), 3, 0, 0, [], 0),
  (37, (.iload_n 2, 1), 2, 0, 0, [], 0),
  (38, (.aload_n 0, 1), 0, 0, 0, [], 0),
  (39, (.getfield 12, 3), 9, 0, 0, [1, 1054], 0)]),
 (90, [(42, (.getfield 192, 3), 3, 0, 0, [0, 59], 0),
  (45, (.iadd, 1), 0, 0, 0, [], 0),
  (46, (.aload_n 0, 1), 0, 0, 0, [], 0),
  (47, (.getfield 12, 3), 9, 0, 0, [1, 1054], 0),
  (50, (.getfield 154, 3), 3, 3, 0, [1, 69], 0),
  (53, (.iload_n 3, 1), 3, 0, 0, [], 0),
  (54, (.iaload, 1), 20, 0, 0, [], 0),
  (55, (.isub, 1), 0, 0, 0, [], 0),
  (56, (.aload_n 0, 1), 0, 0, 0, [], 0),
  (57, (.getfield 12, 3), 9, 0, 0, [1, 1054], 0),
  (60, (.getfield 192, 3), 3, 0, 0, [0, 59], 0),
  (63, (.invokestatic 195, 3), 159, 2, 0, [1, 1, 2171], 0),
  (66, (.iastore, 1), 0, 0, 0, [], 0),
  (67, (.iinc 3 1, 3), 3, 0, 1, [], 0),
  (70, (.goto (-49), 3), 21, 0, 0, [], 2),
  (73, (.aload_n 0, 1), 0, 0, 0, [], 0),
  (74, (.getfield 42, 3), 9, 4, 0, [1, 1058], 0),
  (77, (.aload_n 0, 1), 0, 0, 0, [], 0),
  (78, (.getfield 83, 3), 9, 12, 0, [1, 1066], 0),
  (81, (.invokevirtual 260, 3), 70, 2, 0, [0, 1, 2172], 0),
  (84, (.ifCond .eq 9, 3), 93, 0, 0, [], 0),
  (87, (.iload_n 1, 1), 1, 0, 0, [], 0),
  (88, (.iconst 1, 1), 0, 0, 1, [], 0),
  (89, (.iload_n 2, 1), 2, 0, 0, [], 0)]),
 (101, [(90, (.ishl, 1), 0, 0, 0, [], 0),
  (91, (.ior, 1), 0, 0, 0, [], 0),
  (92, (.istore_n 1, 1), 1, 0, 0, [], 0),
  (93, (.iinc 2 1, 3), 2, 0, 1, [], 0),
  (96, (.goto (-88), 3), 8, 0, 0, [], 2),
  (99, (.iload_n 1, 1), 1, 0, 0, [], 0),
  (100, (.ireturn, 1), 0, 0, 0, [], 0)])]
/-- LampPresses.spell(I)I -/
def lp_c130 : List (Nat × List lp_E) := [(23, [(0, (.aload_n 0, 1), 0, 0, 0, [], 0),
  (1, (.getfield 76, 3), 9, 10, 0, [1, 1064], 0),
  (4, (.getfield 329, 3), 2, 0, 0, [0, 1044], 0),
  (7, (.ifCond .ne 7, 3), 14, 0, 0, [], 0),
  (10, (.aload_n 0, 1), 0, 0, 0, [], 0),
  (11, (.invokevirtual 330, 3), 153, 1, 0, [0, 0, 4030], 0),
  (14, (.aload_n 0, 1), 0, 0, 0, [], 0),
  (15, (.getfield 76, 3), 9, 10, 0, [1, 1064], 0),
  (18, (.iload_n 1, 1), 1, 0, 0, [], 0),
  (19, (.invokevirtual 333, 3), 16, 2, 0, [0, 1, 4069], 0),
  (22, (.ireturn, 1), 0, 0, 0, [], 0)])]
/-- LampPresses.report(I)I -/
def lp_c131 : List (Nat × List lp_E) := [(35, [(0, (.aload_n 0, 1), 0, 0, 0, [], 0),
  (1, (.invokevirtual 170, 3), 138, 1, 0, [0, 0, 2118], 0),
  (4, (.aload_n 0, 1), 0, 0, 0, [], 0),
  (5, (.aload_n 0, 1), 0, 0, 0, [], 0),
  (6, (.getfield 54, 3), 9, 6, 0, [1, 1060], 0),
  (9, (.invokevirtual 336, 3), 139, 2, 0, [0, 0, 3046], 0),
  (12, (.aload_n 0, 1), 0, 0, 0, [], 0),
  (13, (.getfield 80, 3), 9, 11, 0, [1, 1065], 0),
  (16, (.getfield 329, 3), 2, 0, 0, [0, 1044], 0),
  (19, (.ifCond .ne 7, 3), 26, 0, 0, [], 0),
  (22, (.aload_n 0, 1), 0, 0, 0, [], 0),
  (23, (.invokevirtual 340, 3), 156, 1, 0, [0, 0, 4077], 0),
  (26, (.aload_n 0, 1), 0, 0, 0, [], 0),
  (27, (.getfield 80, 3), 9, 11, 0, [1, 1065], 0),
  (30, (.iload_n 1, 1), 1, 0, 0, [], 0),
  (31, (.invokevirtual 333, 3), 16, 2, 0, [0, 1, 4069], 0),
  (34, (.ireturn, 1), 0, 0, 0, [], 0)])]
/-- LampPresses.count(I)I -/
def lp_c132 : List (Nat × List lp_E) := [(92, [(0, (.iload_n 1, 1), 1, 0, 0, [], 1),
  (1, (.tableswitch 114 0 7 #[47, 55, 63, 71, 79, 87, 95, 103], 47), 115, 8, 0, [48, 56, 64, 72, 80, 88, 96, 104], 0),
  (48, (.aload_n 0, 1), 0, 0, 0, [], 0),
  (49, (.getfield 12, 3), 9, 0, 0, [1, 1054], 0),
  (52, (.getfield 192, 3), 3, 0, 0, [0, 59], 0),
  (55, (.ireturn, 1), 0, 0, 0, [], 0),
  (56, (.aload_n 0, 1), 0, 0, 0, [], 0),
  (57, (.getfield 12, 3), 9, 0, 0, [1, 1054], 0),
  (60, (.getfield 117, 3), 3, 1, 0, [0, 64], 0),
  (63, (.ireturn, 1), 0, 0, 0, [], 0),
  (64, (.aload_n 0, 1), 0, 0, 0, [], 0),
  (65, (.getfield 12, 3), 9, 0, 0, [1, 1054], 0),
  (68, (.invokevirtual 343, 3), 32, 1, 0, [0, 1, 4089], 0),
  (71, (.ireturn, 1), 0, 0, 0, [], 0),
  (72, (.aload_n 0, 1), 0, 0, 0, [], 0),
  (73, (.getfield 19, 3), 9, 1, 0, [1, 1055], 0),
  (76, (.getfield 111, 3), 4, 0, 0, [0, 103], 0),
  (79, (.ireturn, 1), 0, 0, 0, [], 0),
  (80, (.aload_n 0, 1), 0, 0, 0, [], 0),
  (81, (.getfield 26, 3), 9, 2, 0, [1, 1056], 0),
  (84, (.getfield 93, 3), 8, 0, 0, [0, 119], 0),
  (87, (.ireturn, 1), 0, 0, 0, [], 0),
  (88, (.aload_n 0, 1), 0, 0, 0, [], 0),
  (89, (.getfield 12, 3), 9, 0, 0, [1, 1054], 0)]),
 (117, [(92, (.getfield 346, 3), 3, 2, 0, [0, 66], 0),
  (95, (.ireturn, 1), 0, 0, 0, [], 0),
  (96, (.aload_n 0, 1), 0, 0, 0, [], 0),
  (97, (.getfield 12, 3), 9, 0, 0, [1, 1054], 0),
  (100, (.invokevirtual 349, 3), 31, 1, 0, [0, 1, 4090], 0),
  (103, (.ireturn, 1), 0, 0, 0, [], 0),
  (104, (.aload_n 0, 1), 0, 0, 0, [], 0),
  (105, (.getfield 12, 3), 9, 0, 0, [1, 1054], 0),
  (108, (.getfield 280, 3), 3, 6, 0, [1, 77], 0),
  (111, (.getfield 352, 3), 0, 0, 0, [0, 44], 0),
  (114, (.ireturn, 1), 0, 0, 0, [], 0),
  (115, (.iconst (-1), 1), 0, 0, (-1), [], 0),
  (116, (.ireturn, 1), 0, 0, 0, [], 0)])]
/-- LampPresses.keepForStates()V -/
def lp_c133 : List (Nat × List lp_E) := [(16, [(0, (.aload_n 0, 1), 0, 0, 0, [], 0),
  (1, (.getfield 19, 3), 9, 1, 0, [1, 1055], 0),
  (4, (.aload_n 0, 1), 0, 0, 0, [], 0),
  (5, (.getfield 12, 3), 9, 0, 0, [1, 1054], 0),
  (8, (.invokevirtual 353, 3), 37, 2, 0, [0, 0, 2039], 0),
  (11, (.aload_n 0, 1), 0, 0, 0, [], 0),
  (12, (.invokevirtual 356, 3), 135, 1, 0, [0, 0, 2023], 0),
  (15, (.return_, 1), 0, 0, 0, [], 0)])]
/-- LampPresses.keepForSteps()V -/
def lp_c134 : List (Nat × List lp_E) := [(16, [(0, (.aload_n 0, 1), 0, 0, 0, [], 0),
  (1, (.getfield 19, 3), 9, 1, 0, [1, 1055], 0),
  (4, (.aload_n 0, 1), 0, 0, 0, [], 0),
  (5, (.getfield 12, 3), 9, 0, 0, [1, 1054], 0),
  (8, (.invokevirtual 353, 3), 37, 2, 0, [0, 0, 2039], 0),
  (11, (.aload_n 0, 1), 0, 0, 0, [], 0),
  (12, (.invokevirtual 114, 3), 136, 1, 0, [0, 0, 2019], 0),
  (15, (.return_, 1), 0, 0, 0, [], 0)])]
/-- LampPresses.statesChange()V -/
def lp_c135 : List (Nat × List lp_E) := [(46, [(0, (.aload_n 0, 1), 0, 0, 0, [], 0),
  (1, (.iconst 0, 1), 0, 0, 0, [], 0),
  (2, (.putfield 359, 3), 9, 16, 0, [2, 1070, 0], 0),
  (5, (.aload_n 0, 1), 0, 0, 0, [], 0),
  (6, (.getfield 54, 3), 9, 6, 0, [1, 1060], 0),
  (9, (.iconst 0, 1), 0, 0, 0, [], 0),
  (10, (.putfield 362, 3), 6, 0, 0, [2, 210, 0], 0),
  (13, (.aload_n 0, 1), 0, 0, 0, [], 0),
  (14, (.getfield 58, 3), 9, 7, 0, [1, 1061], 0),
  (17, (.iconst 0, 1), 0, 0, 0, [], 0),
  (18, (.putfield 362, 3), 6, 0, 0, [2, 210, 0], 0),
  (21, (.aload_n 0, 1), 0, 0, 0, [], 0),
  (22, (.getfield 67, 3), 9, 9, 0, [1, 1063], 0),
  (25, (.iconst 0, 1), 0, 0, 0, [], 0),
  (26, (.putfield 316, 3), 1, 1, 0, [2, 238, 0], 0),
  (29, (.aload_n 0, 1), 0, 0, 0, [], 0),
  (30, (.getfield 76, 3), 9, 10, 0, [1, 1064], 0),
  (33, (.iconst 0, 1), 0, 0, 0, [], 0),
  (34, (.putfield 329, 3), 2, 0, 0, [2, 1044, 0], 0),
  (37, (.aload_n 0, 1), 0, 0, 0, [], 0),
  (38, (.getfield 80, 3), 9, 11, 0, [1, 1065], 0),
  (41, (.iconst 0, 1), 0, 0, 0, [], 0),
  (42, (.putfield 329, 3), 2, 0, 0, [2, 1044, 0], 0),
  (45, (.return_, 1), 0, 0, 0, [], 0)])]
/-- LampPresses.stepsChange()V -/
def lp_c136 : List (Nat × List lp_E) := [(21, [(0, (.aload_n 0, 1), 0, 0, 0, [], 0),
  (1, (.invokevirtual 356, 3), 135, 1, 0, [0, 0, 2023], 0),
  (4, (.aload_n 0, 1), 0, 0, 0, [], 0),
  (5, (.getfield 42, 3), 9, 4, 0, [1, 1058], 0),
  (8, (.iconst 0, 1), 0, 0, 0, [], 0),
  (9, (.putfield 363, 3), 7, 0, 0, [2, 162, 0], 0),
  (12, (.aload_n 0, 1), 0, 0, 0, [], 0),
  (13, (.getfield 67, 3), 9, 9, 0, [1, 1063], 0),
  (16, (.iconst 0, 1), 0, 0, 0, [], 0),
  (17, (.putfield 319, 3), 1, 0, 0, [2, 237, 0], 0),
  (20, (.return_, 1), 0, 0, 0, [], 0)])]
/-- LampPresses.settle()V -/
def lp_c137 : List (Nat × List lp_E) := [(44, [(0, (.aload_n 0, 1), 0, 0, 0, [], 0),
  (1, (.getfield 42, 3), 9, 4, 0, [1, 1058], 0),
  (4, (.getfield 363, 3), 7, 0, 0, [0, 162], 0),
  (7, (.ifCond .ne 36, 3), 43, 0, 0, [], 0),
  (10, (.aload_n 0, 1), 0, 0, 0, [], 0),
  (11, (.getfield 42, 3), 9, 4, 0, [1, 1058], 0),
  (14, (.aload_n 0, 1), 0, 0, 0, [], 0),
  (15, (.getfield 12, 3), 9, 0, 0, [1, 1054], 0),
  (18, (.invokevirtual 248, 3), 59, 2, 0, [0, 0, 2126], 0),
  (21, (.aload_n 0, 1), 0, 0, 0, [], 0),
  (22, (.getfield 42, 3), 9, 4, 0, [1, 1058], 0),
  (25, (.invokevirtual 257, 3), 62, 1, 0, [0, 0, 2131], 0),
  (28, (.aload_n 0, 1), 0, 0, 0, [], 0),
  (29, (.getfield 42, 3), 9, 4, 0, [1, 1058], 0),
  (32, (.invokevirtual 364, 3), 68, 1, 0, [0, 0, 2159], 0),
  (35, (.aload_n 0, 1), 0, 0, 0, [], 0),
  (36, (.getfield 42, 3), 9, 4, 0, [1, 1058], 0),
  (39, (.iconst 1, 1), 0, 0, 1, [], 0),
  (40, (.putfield 363, 3), 7, 0, 0, [2, 162, 0], 0),
  (43, (.return_, 1), 0, 0, 0, [], 0)])]
/-- LampPresses.findPlan()V -/
def lp_c138 : List (Nat × List lp_E) := [(50, [(0, (.aload_n 0, 1), 0, 0, 0, [], 0),
  (1, (.getfield 359, 3), 9, 16, 0, [0, 1070], 0),
  (4, (.ifCond .eq 4, 3), 8, 0, 0, [], 0),
  (7, (.return_, 1), 0, 0, 0, [], 0),
  (8, (.aload_n 0, 1), 0, 0, 0, [], 0),
  (9, (.invokevirtual 214, 3), 137, 1, 0, [0, 0, 2122], 0),
  (12, (.aload_n 0, 1), 0, 0, 0, [], 0),
  (13, (.invokevirtual 251, 3), 147, 1, 0, [0, 0, 2167], 0),
  (16, (.aload_n 0, 1), 0, 0, 0, [], 0),
  (17, (.aload_n 0, 1), 0, 0, 0, [], 0),
  (18, (.getfield 42, 3), 9, 4, 0, [1, 1058], 0),
  (21, (.aload_n 0, 1), 0, 0, 0, [], 0),
  (22, (.getfield 83, 3), 9, 12, 0, [1, 1066], 0),
  (25, (.invokevirtual 260, 3), 70, 2, 0, [0, 1, 2172], 0),
  (28, (.putfield 173, 3), 9, 15, 0, [2, 1069, 0], 0),
  (31, (.aload_n 0, 1), 0, 0, 0, [], 0),
  (32, (.getfield 173, 3), 9, 15, 0, [0, 1069], 0),
  (35, (.ifCond .eq 14, 3), 49, 0, 0, [], 0),
  (38, (.aload_n 0, 1), 0, 0, 0, [], 0),
  (39, (.getfield 42, 3), 9, 4, 0, [1, 1058], 0),
  (42, (.aload_n 0, 1), 0, 0, 0, [], 0),
  (43, (.getfield 90, 3), 9, 14, 0, [1, 1068], 0),
  (46, (.invokevirtual 305, 3), 71, 2, 0, [0, 0, 2176], 0),
  (49, (.aload_n 0, 1), 0, 0, 0, [], 0)]),
 (55, [(50, (.iconst 1, 1), 0, 0, 1, [], 0),
  (51, (.putfield 359, 3), 9, 16, 0, [2, 1070, 0], 0),
  (54, (.return_, 1), 0, 0, 0, [], 0)])]
/-- LampPresses.findBest(LLampPresses$Search;)V -/
def lp_c139 : List (Nat × List lp_E) := [(39, [(0, (.aload_n 0, 1), 0, 0, 0, [], 0),
  (1, (.getfield 173, 3), 9, 15, 0, [0, 1069], 0),
  (4, (.ifCond .eq 34, 3), 38, 0, 0, [], 0),
  (7, (.aload_n 0, 1), 0, 0, 0, [], 0),
  (8, (.invokevirtual 367, 3), 145, 1, 0, [0, 1, 3041], 0),
  (11, (.ifCond .eq 27, 3), 38, 0, 0, [], 0),
  (14, (.aload_n 1, 1), 1, 0, 0, [], 0),
  (15, (.getfield 362, 3), 6, 0, 0, [0, 210], 0),
  (18, (.ifCond .ne 20, 3), 38, 0, 0, [], 0),
  (21, (.aload_n 1, 1), 1, 0, 0, [], 0),
  (22, (.aload_n 0, 1), 0, 0, 0, [], 0),
  (23, (.getfield 42, 3), 9, 4, 0, [1, 1058], 0),
  (26, (.aload_n 0, 1), 0, 0, 0, [], 0),
  (27, (.getfield 90, 3), 9, 14, 0, [1, 1068], 0),
  (30, (.invokevirtual 309, 3), 55, 3, 0, [0, 0, 3050], 0),
  (33, (.aload_n 1, 1), 1, 0, 0, [], 0),
  (34, (.iconst 1, 1), 0, 0, 1, [], 0),
  (35, (.putfield 362, 3), 6, 0, 0, [2, 210, 0], 0),
  (38, (.return_, 1), 0, 0, 0, [], 0)])]
/-- LampPresses.measureLevels()V -/
def lp_c140 : List (Nat × List lp_E) := [(46, [(0, (.aload_n 0, 1), 0, 0, 0, [], 0),
  (1, (.getfield 67, 3), 9, 9, 0, [1, 1063], 0),
  (4, (.getfield 319, 3), 1, 0, 0, [0, 237], 0),
  (7, (.ifCond .ne 38, 3), 45, 0, 0, [], 0),
  (10, (.aload_n 0, 1), 0, 0, 0, [], 0),
  (11, (.invokevirtual 214, 3), 137, 1, 0, [0, 0, 2122], 0),
  (14, (.aload_n 0, 1), 0, 0, 0, [], 0),
  (15, (.getfield 67, 3), 9, 9, 0, [1, 1063], 0),
  (18, (.aload_n 0, 1), 0, 0, 0, [], 0),
  (19, (.getfield 12, 3), 9, 0, 0, [1, 1054], 0),
  (22, (.aload_n 0, 1), 0, 0, 0, [], 0),
  (23, (.getfield 42, 3), 9, 4, 0, [1, 1058], 0),
  (26, (.invokevirtual 370, 3), 5, 3, 0, [0, 0, 3196], 0),
  (29, (.aload_n 0, 1), 0, 0, 0, [], 0),
  (30, (.getfield 67, 3), 9, 9, 0, [1, 1063], 0),
  (33, (.iconst 1, 1), 0, 0, 1, [], 0),
  (34, (.putfield 319, 3), 1, 0, 0, [2, 237, 0], 0),
  (37, (.aload_n 0, 1), 0, 0, 0, [], 0),
  (38, (.getfield 67, 3), 9, 9, 0, [1, 1063], 0),
  (41, (.iconst 1, 1), 0, 0, 1, [], 0),
  (42, (.putfield 316, 3), 1, 1, 0, [2, 238, 0], 0),
  (45, (.return_, 1), 0, 0, 0, [], 0)])]
/-- LampPresses.isPair(II)Z -/
def lp_c141 : List (Nat × List lp_E) := [(33, [(0, (.aload_n 0, 1), 0, 0, 0, [], 0),
  (1, (.getfield 12, 3), 9, 0, 0, [1, 1054], 0),
  (4, (.iload_n 1, 1), 1, 0, 0, [], 0),
  (5, (.invokevirtual 131, 3), 18, 2, 0, [0, 1, 2052], 0),
  (8, (.ifCond .eq 23, 3), 31, 0, 0, [], 0),
  (11, (.aload_n 0, 1), 0, 0, 0, [], 0),
  (12, (.getfield 12, 3), 9, 0, 0, [1, 1054], 0),
  (15, (.iload_n 2, 1), 2, 0, 0, [], 0),
  (16, (.invokevirtual 131, 3), 18, 2, 0, [0, 1, 2052], 0),
  (19, (.ifCond .eq 12, 3), 31, 0, 0, [], 0),
  (22, (.iload_n 1, 1), 1, 0, 0, [], 0),
  (23, (.iload_n 2, 1), 2, 0, 0, [], 0),
  (24, (.if_icmp .eq 7, 3), 31, 0, 0, [], 0),
  (27, (.iconst 1, 1), 0, 0, 1, [], 0),
  (28, (.goto 4, 3), 32, 0, 0, [], 0),
  (31, (.iconst 0, 1), 0, 0, 0, [], 0),
  (32, (.ireturn, 1), 1, 0, 0, [], 0)])]
/-- LampPresses.isSet(I)Z -/
def lp_c142 : List (Nat × List lp_E) := [(22, [(0, (.iload_n 1, 1), 1, 0, 0, [], 0),
  (1, (.ifCond .lt 19, 3), 20, 0, 0, [], 0),
  (4, (.iload_n 1, 1), 1, 0, 0, [], 0),
  (5, (.aload_n 0, 1), 0, 0, 0, [], 0),
  (6, (.getfield 12, 3), 9, 0, 0, [1, 1054], 0),
  (9, (.getfield 117, 3), 3, 1, 0, [0, 64], 0),
  (12, (.ishr, 1), 0, 0, 0, [], 0),
  (13, (.ifCond .ne 7, 3), 20, 0, 0, [], 0),
  (16, (.iconst 1, 1), 0, 0, 1, [], 0),
  (17, (.goto 4, 3), 21, 0, 0, [], 0),
  (20, (.iconst 0, 1), 0, 0, 0, [], 0),
  (21, (.ireturn, 1), 1, 0, 0, [], 0)])]
/-- LampPresses.allWays()I -/
def lp_c143 : List (Nat × List lp_E) := [(18, [(0, (.aload_n 0, 1), 0, 0, 0, [], 0),
  (1, (.getfield 12, 3), 9, 0, 0, [1, 1054], 0),
  (4, (.getfield 192, 3), 3, 0, 0, [0, 59], 0),
  (7, (.aload_n 0, 1), 0, 0, 0, [], 0),
  (8, (.getfield 12, 3), 9, 0, 0, [1, 1054], 0),
  (11, (.getfield 117, 3), 3, 1, 0, [0, 64], 0),
  (14, (.invokestatic 264, 3), 160, 2, 0, [1, 1, 3018], 0),
  (17, (.ireturn, 1), 0, 0, 0, [], 0)])]
/-- LampPresses.areLevelsTold()Z -/
def lp_c144 : List (Nat × List lp_E) := [(16, [(0, (.aload_n 0, 1), 0, 0, 0, [], 0),
  (1, (.invokevirtual 302, 3), 143, 1, 0, [0, 1, 3188], 0),
  (4, (.ldc_w 374, 3), 0, 0, 60000, [0, 3045], 0),
  (7, (.if_icmp .gt 7, 3), 14, 0, 0, [], 0),
  (10, (.iconst 1, 1), 0, 0, 1, [], 0),
  (11, (.goto 4, 3), 15, 0, 0, [], 0),
  (14, (.iconst 0, 1), 0, 0, 0, [], 0),
  (15, (.ireturn, 1), 1, 0, 0, [], 0)])]
/-- LampPresses.arePlansTold()Z -/
def lp_c145 : List (Nat × List lp_E) := [(16, [(0, (.aload_n 0, 1), 0, 0, 0, [], 0),
  (1, (.invokevirtual 220, 3), 146, 1, 0, [0, 1, 3014], 0),
  (4, (.ldc_w 374, 3), 0, 0, 60000, [0, 3045], 0),
  (7, (.if_icmp .gt 7, 3), 14, 0, 0, [], 0),
  (10, (.iconst 1, 1), 0, 0, 1, [], 0),
  (11, (.goto 4, 3), 15, 0, 0, [], 0),
  (14, (.iconst 0, 1), 0, 0, 0, [], 0),
  (15, (.ireturn, 1), 1, 0, 0, [], 0)])]
/-- LampPresses.quietRows()I -/
def lp_c146 : List (Nat × List lp_E) := [(18, [(0, (.aload_n 0, 1), 0, 0, 0, [], 0),
  (1, (.getfield 12, 3), 9, 0, 0, [1, 1054], 0),
  (4, (.getfield 192, 3), 3, 0, 0, [0, 59], 0),
  (7, (.aload_n 0, 1), 0, 0, 0, [], 0),
  (8, (.getfield 42, 3), 9, 4, 0, [1, 1058], 0),
  (11, (.getfield 223, 3), 7, 2, 0, [0, 167], 0),
  (14, (.invokestatic 264, 3), 160, 2, 0, [1, 1, 3018], 0),
  (17, (.ireturn, 1), 0, 0, 0, [], 0)])]
/-- LampPresses.setChangeToGoals()V -/
def lp_c147 : List (Nat × List lp_E) := [(44, [(0, (.iconst 0, 1), 0, 0, 0, [], 0),
  (1, (.istore_n 1, 1), 1, 0, 0, [], 1),
  (2, (.iload_n 1, 1), 1, 0, 0, [], 0),
  (3, (.aload_n 0, 1), 0, 0, 0, [], 0),
  (4, (.getfield 12, 3), 9, 0, 0, [1, 1054], 0),
  (7, (.getfield 117, 3), 3, 1, 0, [0, 64], 0),
  (10, (.if_icmp .ge 52, 3), 62, 0, 0, [], 0),
  (13, (.aload_n 0, 1), 0, 0, 0, [], 0),
  (14, (.getfield 83, 3), 9, 12, 0, [1, 1066], 0),
  (17, (.iload_n 1, 1), 1, 0, 0, [], 0),
  (18, (.aload_n 0, 1), 0, 0, 0, [], 0),
  (19, (.getfield 12, 3), 9, 0, 0, [1, 1054], 0),
  (22, (.getfield 148, 3), 3, 4, 0, [1, 71], 0),
  (25, (.iload_n 1, 1), 1, 0, 0, [], 0),
  (26, (.iaload, 1), 20, 0, 0, [], 0),
  (27, (.aload_n 0, 1), 0, 0, 0, [], 0),
  (28, (.getfield 12, 3), 9, 0, 0, [1, 1054], 0),
  (31, (.getfield 192, 3), 3, 0, 0, [0, 59], 0),
  (34, (.iadd, 1), 0, 0, 0, [], 0),
  (35, (.aload_n 0, 1), 0, 0, 0, [], 0),
  (36, (.getfield 12, 3), 9, 0, 0, [1, 1054], 0),
  (39, (.getfield 154, 3), 3, 3, 0, [1, 69], 0),
  (42, (.iload_n 1, 1), 1, 0, 0, [], 0),
  (43, (.iaload, 1), 20, 0, 0, [], 0)]),
 (63, [(44, (.isub, 1), 0, 0, 0, [], 0),
  (45, (.aload_n 0, 1), 0, 0, 0, [], 0),
  (46, (.getfield 12, 3), 9, 0, 0, [1, 1054], 0),
  (49, (.getfield 192, 3), 3, 0, 0, [0, 59], 0),
  (52, (.invokestatic 195, 3), 159, 2, 0, [1, 1, 2171], 0),
  (55, (.iastore, 1), 0, 0, 0, [], 0),
  (56, (.iinc 1 1, 3), 1, 0, 1, [], 0),
  (59, (.goto (-57), 3), 2, 0, 0, [], 2),
  (62, (.return_, 1), 0, 0, 0, [], 0)])]
/-- LampPresses.bestPlan(LLampPresses$Search;I)I -/
def lp_c148 : List (Nat × List lp_E) := [(44, [(0, (.iload_n 2, 1), 2, 0, 0, [], 0),
  (1, (.iconst (-1), 1), 0, 0, (-1), [], 0),
  (2, (.if_icmp .eq 16, 3), 18, 0, 0, [], 0),
  (5, (.aload_n 0, 1), 0, 0, 0, [], 0),
  (6, (.getfield 12, 3), 9, 0, 0, [1, 1054], 0),
  (9, (.iload_n 2, 1), 2, 0, 0, [], 0),
  (10, (.invokevirtual 131, 3), 18, 2, 0, [0, 1, 2052], 0),
  (13, (.ifCond .ne 5, 3), 18, 0, 0, [], 0),
  (16, (.iconst (-1), 1), 0, 0, (-1), [], 0),
  (17, (.ireturn, 1), 0, 0, 0, [], 0),
  (18, (.aload_n 0, 1), 0, 0, 0, [], 0),
  (19, (.invokevirtual 170, 3), 138, 1, 0, [0, 0, 2118], 0),
  (22, (.aload_n 0, 1), 0, 0, 0, [], 0),
  (23, (.getfield 173, 3), 9, 15, 0, [0, 1069], 0),
  (26, (.ifCond .ne 6, 3), 32, 0, 0, [], 0),
  (29, (.bipush (-2), 2), 0, 0, (-2), [], 0),
  (31, (.ireturn, 1), 0, 0, 0, [], 0),
  (32, (.aload_n 0, 1), 0, 0, 0, [], 0),
  (33, (.invokevirtual 367, 3), 145, 1, 0, [0, 1, 3041], 0),
  (36, (.ifCond .ne 6, 3), 42, 0, 0, [], 0),
  (39, (.bipush (-3), 2), 0, 0, (-3), [], 0),
  (41, (.ireturn, 1), 0, 0, 0, [], 0),
  (42, (.aload_n 0, 1), 0, 0, 0, [], 0),
  (43, (.aload_n 1, 1), 1, 0, 0, [], 0)]),
 (66, [(44, (.invokevirtual 336, 3), 139, 2, 0, [0, 0, 3046], 0),
  (47, (.iload_n 2, 1), 2, 0, 0, [], 0),
  (48, (.iconst (-1), 1), 0, 0, (-1), [], 0),
  (49, (.if_icmp .ne 10, 3), 59, 0, 0, [], 0),
  (52, (.aload_n 1, 1), 1, 0, 0, [], 0),
  (53, (.getfield 313, 3), 6, 1, 0, [0, 213], 0),
  (56, (.goto 9, 3), 65, 0, 0, [], 0),
  (59, (.aload_n 1, 1), 1, 0, 0, [], 0),
  (60, (.getfield 375, 3), 6, 2, 0, [1, 215], 0),
  (63, (.iload_n 2, 1), 2, 0, 0, [], 0),
  (64, (.iaload, 1), 20, 0, 0, [], 0),
  (65, (.ireturn, 1), 0, 0, 0, [], 0)])]
/-- LampPresses.pressesForOne(I)I -/
def lp_c149 : List (Nat × List lp_E) := [(47, [(0, (.aload_n 0, 1), 0, 0, 0, [], 0),
  (1, (.getfield 83, 3), 9, 12, 0, [1, 1066], 0),
  (4, (.iconst 0, 1), 0, 0, 0, [], 0),
  (5, (.invokestatic 378, 3), 291, 2, 0, [1, 0, 3083], 0),
  (8, (.aload_n 0, 1), 0, 0, 0, [], 0),
  (9, (.getfield 83, 3), 9, 12, 0, [1, 1066], 0),
  (12, (.iload_n 1, 1), 1, 0, 0, [], 0),
  (13, (.iconst 1, 1), 0, 0, 1, [], 0),
  (14, (.iastore, 1), 0, 0, 0, [], 0),
  (15, (.aload_n 0, 1), 0, 0, 0, [], 0),
  (16, (.getfield 42, 3), 9, 4, 0, [1, 1058], 0),
  (19, (.aload_n 0, 1), 0, 0, 0, [], 0),
  (20, (.getfield 83, 3), 9, 12, 0, [1, 1066], 0),
  (23, (.invokevirtual 260, 3), 70, 2, 0, [0, 1, 2172], 0),
  (26, (.ifCond .ne 6, 3), 32, 0, 0, [], 0),
  (29, (.bipush (-2), 2), 0, 0, (-2), [], 0),
  (31, (.ireturn, 1), 0, 0, 0, [], 0),
  (32, (.aload_n 0, 1), 0, 0, 0, [], 0),
  (33, (.getfield 42, 3), 9, 4, 0, [1, 1058], 0),
  (36, (.aload_n 0, 1), 0, 0, 0, [], 0),
  (37, (.getfield 87, 3), 9, 13, 0, [1, 1067], 0),
  (40, (.invokevirtual 305, 3), 71, 2, 0, [0, 0, 2176], 0),
  (43, (.aload_n 0, 1), 0, 0, 0, [], 0),
  (44, (.getfield 87, 3), 9, 13, 0, [1, 1067], 0)]),
 (58, [(47, (.aload_n 0, 1), 0, 0, 0, [], 0),
  (48, (.getfield 12, 3), 9, 0, 0, [1, 1054], 0),
  (51, (.getfield 117, 3), 3, 1, 0, [0, 64], 0),
  (54, (.invokestatic 177, 3), 161, 2, 0, [1, 1, 2180], 0),
  (57, (.ireturn, 1), 0, 0, 0, [], 0)])]
/-- LampPresses.reachedFrom(I)I -/
def lp_c150 : List (Nat × List lp_E) := [(34, [(0, (.iconst 1, 1), 0, 0, 1, [], 0),
  (1, (.iload_n 1, 1), 1, 0, 0, [], 0),
  (2, (.ishl, 1), 0, 0, 0, [], 0),
  (3, (.istore_n 2, 1), 2, 0, 0, [], 0),
  (4, (.iconst 0, 1), 0, 0, 0, [], 0),
  (5, (.istore_n 3, 1), 3, 0, 0, [], 1),
  (6, (.iload_n 3, 1), 3, 0, 0, [], 0),
  (7, (.aload_n 0, 1), 0, 0, 0, [], 0),
  (8, (.getfield 12, 3), 9, 0, 0, [1, 1054], 0),
  (11, (.getfield 117, 3), 3, 1, 0, [0, 64], 0),
  (14, (.if_icmp .ge 18, 3), 32, 0, 0, [], 0),
  (17, (.aload_n 0, 1), 0, 0, 0, [], 0),
  (18, (.getfield 12, 3), 9, 0, 0, [1, 1054], 0),
  (21, (.iload_n 2, 1), 2, 0, 0, [], 0),
  (22, (.invokevirtual 242, 3), 35, 2, 0, [0, 1, 3100], 0),
  (25, (.istore_n 2, 1), 2, 0, 0, [], 0),
  (26, (.iinc 3 1, 3), 3, 0, 1, [], 0),
  (29, (.goto (-23), 3), 6, 0, 0, [], 2),
  (32, (.iload_n 2, 1), 2, 0, 0, [], 0),
  (33, (.ireturn, 1), 0, 0, 0, [], 0)])]
/-- LampPresses.greediest(I)I -/
def lp_c151 : List (Nat × List lp_E) := [(45, [(0, (.iload_n 1, 1), 1, 0, 0, [], 0),
  (1, (.istore_n 2, 1), 2, 0, 0, [], 0),
  (2, (.iconst (-1), 1), 0, 0, (-1), [], 0),
  (3, (.istore_n 3, 1), 3, 0, 0, [], 0),
  (4, (.iconst 0, 1), 0, 0, 0, [], 0),
  (5, (.istore 4, 2), 4, 0, 0, [], 1),
  (7, (.iload 4, 2), 4, 0, 0, [], 0),
  (9, (.aload_n 0, 1), 0, 0, 0, [], 0),
  (10, (.getfield 12, 3), 9, 0, 0, [1, 1054], 0),
  (13, (.getfield 117, 3), 3, 1, 0, [0, 64], 0),
  (16, (.if_icmp .ge 36, 3), 52, 0, 0, [], 0),
  (19, (.aload_n 0, 1), 0, 0, 0, [], 0),
  (20, (.getfield 12, 3), 9, 0, 0, [1, 1054], 0),
  (23, (.aload_n 0, 1), 0, 0, 0, [], 0),
  (24, (.getfield 87, 3), 9, 13, 0, [1, 1067], 0),
  (27, (.iload 4, 2), 4, 0, 0, [], 0),
  (29, (.invokevirtual 273, 3), 30, 3, 0, [0, 1, 3144], 0),
  (32, (.istore 5, 2), 5, 0, 0, [], 0),
  (34, (.iload 5, 2), 5, 0, 0, [], 0),
  (36, (.iload_n 2, 1), 2, 0, 0, [], 0),
  (37, (.if_icmp .ge 9, 3), 46, 0, 0, [], 0),
  (40, (.iload 5, 2), 5, 0, 0, [], 0),
  (42, (.istore_n 2, 1), 2, 0, 0, [], 0),
  (43, (.iload 4, 2), 4, 0, 0, [], 0)]),
 (54, [(45, (.istore_n 3, 1), 3, 0, 0, [], 0),
  (46, (.iinc 4 1, 3), 4, 0, 1, [], 0),
  (49, (.goto (-42), 3), 7, 0, 0, [], 2),
  (52, (.iload_n 3, 1), 3, 0, 0, [], 0),
  (53, (.ireturn, 1), 0, 0, 0, [], 0)])]
/-- LampPresses.plansWith(III)I -/
def lp_c152 : List (Nat × List lp_E) := [(42, [(0, (.aload_n 0, 1), 0, 0, 0, [], 0),
  (1, (.getfield 46, 3), 9, 5, 0, [1, 1059], 0),
  (4, (.aload_n 0, 1), 0, 0, 0, [], 0),
  (5, (.getfield 12, 3), 9, 0, 0, [1, 1054], 0),
  (8, (.invokevirtual 248, 3), 59, 2, 0, [0, 0, 2126], 0),
  (11, (.aload_n 0, 1), 0, 0, 0, [], 0),
  (12, (.getfield 46, 3), 9, 5, 0, [1, 1059], 0),
  (15, (.getfield 383, 3), 7, 5, 0, [1, 173], 0),
  (18, (.iload_n 1, 1), 1, 0, 0, [], 0),
  (19, (.aaload, 1), 23, 0, 0, [], 0),
  (20, (.iload_n 2, 1), 2, 0, 0, [], 0),
  (21, (.iload_n 3, 1), 3, 0, 0, [], 0),
  (22, (.iastore, 1), 0, 0, 0, [], 0),
  (23, (.aload_n 0, 1), 0, 0, 0, [], 0),
  (24, (.getfield 46, 3), 9, 5, 0, [1, 1059], 0),
  (27, (.getfield 383, 3), 7, 5, 0, [1, 173], 0),
  (30, (.iload_n 2, 1), 2, 0, 0, [], 0),
  (31, (.aaload, 1), 23, 0, 0, [], 0),
  (32, (.iload_n 1, 1), 1, 0, 0, [], 0),
  (33, (.iload_n 3, 1), 3, 0, 0, [], 0),
  (34, (.iastore, 1), 0, 0, 0, [], 0),
  (35, (.aload_n 0, 1), 0, 0, 0, [], 0),
  (36, (.getfield 46, 3), 9, 5, 0, [1, 1059], 0),
  (39, (.invokevirtual 257, 3), 62, 1, 0, [0, 0, 2131], 0)]),
 (82, [(42, (.aload_n 0, 1), 0, 0, 0, [], 0),
  (43, (.invokevirtual 251, 3), 147, 1, 0, [0, 0, 2167], 0),
  (46, (.aload_n 0, 1), 0, 0, 0, [], 0),
  (47, (.getfield 46, 3), 9, 5, 0, [1, 1059], 0),
  (50, (.aload_n 0, 1), 0, 0, 0, [], 0),
  (51, (.getfield 83, 3), 9, 12, 0, [1, 1066], 0),
  (54, (.invokevirtual 260, 3), 70, 2, 0, [0, 1, 2172], 0),
  (57, (.ifCond .eq 23, 3), 80, 0, 0, [], 0),
  (60, (.aload_n 0, 1), 0, 0, 0, [], 0),
  (61, (.getfield 12, 3), 9, 0, 0, [1, 1054], 0),
  (64, (.getfield 192, 3), 3, 0, 0, [0, 59], 0),
  (67, (.aload_n 0, 1), 0, 0, 0, [], 0),
  (68, (.getfield 46, 3), 9, 5, 0, [1, 1059], 0),
  (71, (.getfield 223, 3), 7, 2, 0, [0, 167], 0),
  (74, (.invokestatic 264, 3), 160, 2, 0, [1, 1, 3018], 0),
  (77, (.goto 4, 3), 81, 0, 0, [], 0),
  (80, (.iconst 0, 1), 0, 0, 0, [], 0),
  (81, (.ireturn, 1), 0, 0, 0, [], 0)])]
/-- LampPresses.writeNet()V -/
def lp_c153 : List (Nat × List lp_E) := [(52, [(0, (.aload_n 0, 1), 0, 0, 0, [], 0),
  (1, (.getfield 76, 3), 9, 10, 0, [1, 1064], 0),
  (4, (.invokevirtual 386, 3), 12, 1, 0, [0, 0, 4034], 0),
  (7, (.aload_n 0, 1), 0, 0, 0, [], 0),
  (8, (.getfield 76, 3), 9, 10, 0, [1, 1064], 0),
  (11, (.ldc_w 389, 3), 6, 0, 0, [1, 4038], 0),
  (14, (.aload_n 0, 1), 0, 0, 0, [], 0),
  (15, (.getfield 12, 3), 9, 0, 0, [1, 1054], 0),
  (18, (.getfield 192, 3), 3, 0, 0, [0, 59], 0),
  (21, (.invokevirtual 391, 3), 14, 3, 0, [0, 0, 4039], 0),
  (24, (.aload_n 0, 1), 0, 0, 0, [], 0),
  (25, (.getfield 76, 3), 9, 10, 0, [1, 1064], 0),
  (28, (.ldc_w 394, 3), 7, 0, 0, [1, 4053], 0),
  (31, (.invokevirtual 396, 3), 13, 2, 0, [0, 0, 4054], 0),
  (34, (.iconst 0, 1), 0, 0, 0, [], 0),
  (35, (.istore_n 1, 1), 1, 0, 0, [], 1),
  (36, (.iload_n 1, 1), 1, 0, 0, [], 0),
  (37, (.aload_n 0, 1), 0, 0, 0, [], 0),
  (38, (.getfield 12, 3), 9, 0, 0, [1, 1054], 0),
  (41, (.getfield 117, 3), 3, 1, 0, [0, 64], 0),
  (44, (.if_icmp .ge 14, 3), 58, 0, 0, [], 0),
  (47, (.aload_n 0, 1), 0, 0, 0, [], 0),
  (48, (.iload_n 1, 1), 1, 0, 0, [], 0),
  (49, (.invokevirtual 399, 3), 154, 2, 0, [0, 0, 4055], 0)]),
 (96, [(52, (.iinc 1 1, 3), 1, 0, 1, [], 0),
  (55, (.goto (-19), 3), 36, 0, 0, [], 2),
  (58, (.iconst 0, 1), 0, 0, 0, [], 0),
  (59, (.istore_n 1, 1), 1, 0, 0, [], 1),
  (60, (.iload_n 1, 1), 1, 0, 0, [], 0),
  (61, (.aload_n 0, 1), 0, 0, 0, [], 0),
  (62, (.getfield 12, 3), 9, 0, 0, [1, 1054], 0),
  (65, (.getfield 117, 3), 3, 1, 0, [0, 64], 0),
  (68, (.if_icmp .ge 50, 3), 118, 0, 0, [], 0),
  (71, (.iload_n 1, 1), 1, 0, 0, [], 0),
  (72, (.iconst 1, 1), 0, 0, 1, [], 0),
  (73, (.iadd, 1), 0, 0, 0, [], 0),
  (74, (.istore_n 2, 1), 2, 0, 0, [], 1),
  (75, (.iload_n 2, 1), 2, 0, 0, [], 0),
  (76, (.aload_n 0, 1), 0, 0, 0, [], 0),
  (77, (.getfield 12, 3), 9, 0, 0, [1, 1054], 0),
  (80, (.getfield 117, 3), 3, 1, 0, [0, 64], 0),
  (83, (.if_icmp .ge 29, 3), 112, 0, 0, [], 0),
  (86, (.aload_n 0, 1), 0, 0, 0, [], 0),
  (87, (.getfield 12, 3), 9, 0, 0, [1, 1054], 0),
  (90, (.getfield 141, 3), 3, 5, 0, [1, 75], 0),
  (93, (.iload_n 1, 1), 1, 0, 0, [], 0),
  (94, (.aaload, 1), 23, 0, 0, [], 0),
  (95, (.iload_n 2, 1), 2, 0, 0, [], 0)]),
 (119, [(96, (.iaload, 1), 20, 0, 0, [], 0),
  (97, (.ifCond .eq 9, 3), 106, 0, 0, [], 0),
  (100, (.aload_n 0, 1), 0, 0, 0, [], 0),
  (101, (.iload_n 1, 1), 1, 0, 0, [], 0),
  (102, (.iload_n 2, 1), 2, 0, 0, [], 0),
  (103, (.invokevirtual 402, 3), 155, 3, 0, [0, 0, 4062], 0),
  (106, (.iinc 2 1, 3), 2, 0, 1, [], 0),
  (109, (.goto (-34), 3), 75, 0, 0, [], 2),
  (112, (.iinc 1 1, 3), 1, 0, 1, [], 0),
  (115, (.goto (-55), 3), 60, 0, 0, [], 2),
  (118, (.return_, 1), 0, 0, 0, [], 0)])]
/-- LampPresses.writeLamp(I)V -/
def lp_c154 : List (Nat × List lp_E) := [(48, [(0, (.aload_n 0, 1), 0, 0, 0, [], 0),
  (1, (.getfield 76, 3), 9, 10, 0, [1, 1064], 0),
  (4, (.ldc_w 405, 3), 8, 0, 0, [1, 4059], 0),
  (7, (.aload_n 0, 1), 0, 0, 0, [], 0),
  (8, (.getfield 12, 3), 9, 0, 0, [1, 1054], 0),
  (11, (.getfield 154, 3), 3, 3, 0, [1, 69], 0),
  (14, (.iload_n 1, 1), 1, 0, 0, [], 0),
  (15, (.iaload, 1), 20, 0, 0, [], 0),
  (16, (.invokevirtual 391, 3), 14, 3, 0, [0, 0, 4039], 0),
  (19, (.aload_n 0, 1), 0, 0, 0, [], 0),
  (20, (.getfield 12, 3), 9, 0, 0, [1, 1054], 0),
  (23, (.getfield 141, 3), 3, 5, 0, [1, 75], 0),
  (26, (.iload_n 1, 1), 1, 0, 0, [], 0),
  (27, (.aaload, 1), 23, 0, 0, [], 0),
  (28, (.iload_n 1, 1), 1, 0, 0, [], 0),
  (29, (.iaload, 1), 20, 0, 0, [], 0),
  (30, (.iconst 1, 1), 0, 0, 1, [], 0),
  (31, (.if_icmp .eq 24, 3), 55, 0, 0, [], 0),
  (34, (.aload_n 0, 1), 0, 0, 0, [], 0),
  (35, (.getfield 76, 3), 9, 10, 0, [1, 1064], 0),
  (38, (.ldc_w 407, 3), 9, 0, 0, [1, 4060], 0),
  (41, (.aload_n 0, 1), 0, 0, 0, [], 0),
  (42, (.getfield 12, 3), 9, 0, 0, [1, 1054], 0),
  (45, (.getfield 141, 3), 3, 5, 0, [1, 75], 0)]),
 (96, [(48, (.iload_n 1, 1), 1, 0, 0, [], 0),
  (49, (.aaload, 1), 23, 0, 0, [], 0),
  (50, (.iload_n 1, 1), 1, 0, 0, [], 0),
  (51, (.iaload, 1), 20, 0, 0, [], 0),
  (52, (.invokevirtual 391, 3), 14, 3, 0, [0, 0, 4039], 0),
  (55, (.aload_n 0, 1), 0, 0, 0, [], 0),
  (56, (.getfield 12, 3), 9, 0, 0, [1, 1054], 0),
  (59, (.getfield 148, 3), 3, 4, 0, [1, 71], 0),
  (62, (.iload_n 1, 1), 1, 0, 0, [], 0),
  (63, (.iaload, 1), 20, 0, 0, [], 0),
  (64, (.ifCond .eq 22, 3), 86, 0, 0, [], 0),
  (67, (.aload_n 0, 1), 0, 0, 0, [], 0),
  (68, (.getfield 76, 3), 9, 10, 0, [1, 1064], 0),
  (71, (.ldc_w 409, 3), 10, 0, 0, [1, 4061], 0),
  (74, (.aload_n 0, 1), 0, 0, 0, [], 0),
  (75, (.getfield 12, 3), 9, 0, 0, [1, 1054], 0),
  (78, (.getfield 148, 3), 3, 4, 0, [1, 71], 0),
  (81, (.iload_n 1, 1), 1, 0, 0, [], 0),
  (82, (.iaload, 1), 20, 0, 0, [], 0),
  (83, (.invokevirtual 391, 3), 14, 3, 0, [0, 0, 4039], 0),
  (86, (.aload_n 0, 1), 0, 0, 0, [], 0),
  (87, (.getfield 76, 3), 9, 10, 0, [1, 1064], 0),
  (90, (.ldc_w 394, 3), 7, 0, 0, [1, 4053], 0),
  (93, (.invokevirtual 396, 3), 13, 2, 0, [0, 0, 4054], 0)]),
 (97, [(96, (.return_, 1), 0, 0, 0, [], 0)])]
/-- LampPresses.writeWire(II)V -/
def lp_c155 : List (Nat × List lp_E) := [(48, [(0, (.aload_n 0, 1), 0, 0, 0, [], 0),
  (1, (.getfield 76, 3), 9, 10, 0, [1, 1064], 0),
  (4, (.ldc_w 411, 3), 11, 0, 0, [1, 4066], 0),
  (7, (.iload_n 1, 1), 1, 0, 0, [], 0),
  (8, (.invokevirtual 391, 3), 14, 3, 0, [0, 0, 4039], 0),
  (11, (.aload_n 0, 1), 0, 0, 0, [], 0),
  (12, (.getfield 76, 3), 9, 10, 0, [1, 1064], 0),
  (15, (.ldc_w 413, 3), 12, 0, 0, [1, 4067], 0),
  (18, (.iload_n 2, 1), 2, 0, 0, [], 0),
  (19, (.invokevirtual 391, 3), 14, 3, 0, [0, 0, 4039], 0),
  (22, (.aload_n 0, 1), 0, 0, 0, [], 0),
  (23, (.getfield 12, 3), 9, 0, 0, [1, 1054], 0),
  (26, (.getfield 141, 3), 3, 5, 0, [1, 75], 0),
  (29, (.iload_n 1, 1), 1, 0, 0, [], 0),
  (30, (.aaload, 1), 23, 0, 0, [], 0),
  (31, (.iload_n 2, 1), 2, 0, 0, [], 0),
  (32, (.iaload, 1), 20, 0, 0, [], 0),
  (33, (.iconst 1, 1), 0, 0, 1, [], 0),
  (34, (.if_icmp .eq 24, 3), 58, 0, 0, [], 0),
  (37, (.aload_n 0, 1), 0, 0, 0, [], 0),
  (38, (.getfield 76, 3), 9, 10, 0, [1, 1064], 0),
  (41, (.ldc_w 415, 3), 13, 0, 0, [1, 4068], 0),
  (44, (.aload_n 0, 1), 0, 0, 0, [], 0),
  (45, (.getfield 12, 3), 9, 0, 0, [1, 1054], 0)]),
 (69, [(48, (.getfield 141, 3), 3, 5, 0, [1, 75], 0),
  (51, (.iload_n 1, 1), 1, 0, 0, [], 0),
  (52, (.aaload, 1), 23, 0, 0, [], 0),
  (53, (.iload_n 2, 1), 2, 0, 0, [], 0),
  (54, (.iaload, 1), 20, 0, 0, [], 0),
  (55, (.invokevirtual 391, 3), 14, 3, 0, [0, 0, 4039], 0),
  (58, (.aload_n 0, 1), 0, 0, 0, [], 0),
  (59, (.getfield 76, 3), 9, 10, 0, [1, 1064], 0),
  (62, (.ldc_w 394, 3), 7, 0, 0, [1, 4053], 0),
  (65, (.invokevirtual 396, 3), 13, 2, 0, [0, 0, 4054], 0),
  (68, (.return_, 1), 0, 0, 0, [], 0)])]
/-- LampPresses.writeFewest()V -/
def lp_c156 : List (Nat × List lp_E) := [(50, [(0, (.aload_n 0, 1), 0, 0, 0, [], 0),
  (1, (.getfield 80, 3), 9, 11, 0, [1, 1065], 0),
  (4, (.invokevirtual 386, 3), 12, 1, 0, [0, 0, 4034], 0),
  (7, (.aload_n 0, 1), 0, 0, 0, [], 0),
  (8, (.getfield 173, 3), 9, 15, 0, [0, 1069], 0),
  (11, (.ifCond .ne 14, 3), 25, 0, 0, [], 0),
  (14, (.aload_n 0, 1), 0, 0, 0, [], 0),
  (15, (.getfield 80, 3), 9, 11, 0, [1, 1065], 0),
  (18, (.ldc_w 417, 3), 14, 0, 0, [1, 4081], 0),
  (21, (.invokevirtual 396, 3), 13, 2, 0, [0, 0, 4054], 0),
  (24, (.return_, 1), 0, 0, 0, [], 0),
  (25, (.aload_n 0, 1), 0, 0, 0, [], 0),
  (26, (.invokevirtual 367, 3), 145, 1, 0, [0, 1, 3041], 0),
  (29, (.ifCond .ne 14, 3), 43, 0, 0, [], 0),
  (32, (.aload_n 0, 1), 0, 0, 0, [], 0),
  (33, (.getfield 80, 3), 9, 11, 0, [1, 1065], 0),
  (36, (.ldc_w 419, 3), 15, 0, 0, [1, 4082], 0),
  (39, (.invokevirtual 396, 3), 13, 2, 0, [0, 0, 4054], 0),
  (42, (.return_, 1), 0, 0, 0, [], 0),
  (43, (.iconst 0, 1), 0, 0, 0, [], 0),
  (44, (.istore_n 1, 1), 1, 0, 0, [], 1),
  (45, (.iload_n 1, 1), 1, 0, 0, [], 0),
  (46, (.aload_n 0, 1), 0, 0, 0, [], 0),
  (47, (.getfield 12, 3), 9, 0, 0, [1, 1054], 0)]),
 (102, [(50, (.getfield 117, 3), 3, 1, 0, [0, 64], 0),
  (53, (.if_icmp .ge 61, 3), 114, 0, 0, [], 0),
  (56, (.aload_n 0, 1), 0, 0, 0, [], 0),
  (57, (.getfield 54, 3), 9, 6, 0, [1, 1060], 0),
  (60, (.getfield 375, 3), 6, 2, 0, [1, 215], 0),
  (63, (.iload_n 1, 1), 1, 0, 0, [], 0),
  (64, (.iaload, 1), 20, 0, 0, [], 0),
  (65, (.ifCond .le 43, 3), 108, 0, 0, [], 0),
  (68, (.aload_n 0, 1), 0, 0, 0, [], 0),
  (69, (.getfield 80, 3), 9, 11, 0, [1, 1065], 0),
  (72, (.ldc_w 421, 3), 16, 0, 0, [1, 4083], 0),
  (75, (.iload_n 1, 1), 1, 0, 0, [], 0),
  (76, (.invokevirtual 391, 3), 14, 3, 0, [0, 0, 4039], 0),
  (79, (.aload_n 0, 1), 0, 0, 0, [], 0),
  (80, (.getfield 80, 3), 9, 11, 0, [1, 1065], 0),
  (83, (.ldc_w 413, 3), 12, 0, 0, [1, 4067], 0),
  (86, (.aload_n 0, 1), 0, 0, 0, [], 0),
  (87, (.getfield 54, 3), 9, 6, 0, [1, 1060], 0),
  (90, (.getfield 375, 3), 6, 2, 0, [1, 215], 0),
  (93, (.iload_n 1, 1), 1, 0, 0, [], 0),
  (94, (.iaload, 1), 20, 0, 0, [], 0),
  (95, (.invokevirtual 391, 3), 14, 3, 0, [0, 0, 4039], 0),
  (98, (.aload_n 0, 1), 0, 0, 0, [], 0),
  (99, (.getfield 80, 3), 9, 11, 0, [1, 1065], 0)]),
 (142, [(102, (.ldc_w 394, 3), 7, 0, 0, [1, 4053], 0),
  (105, (.invokevirtual 396, 3), 13, 2, 0, [0, 0, 4054], 0),
  (108, (.iinc 1 1, 3), 1, 0, 1, [], 0),
  (111, (.goto (-66), 3), 45, 0, 0, [], 2),
  (114, (.aload_n 0, 1), 0, 0, 0, [], 0),
  (115, (.getfield 80, 3), 9, 11, 0, [1, 1065], 0),
  (118, (.ldc_w 423, 3), 17, 0, 0, [1, 4084], 0),
  (121, (.aload_n 0, 1), 0, 0, 0, [], 0),
  (122, (.getfield 54, 3), 9, 6, 0, [1, 1060], 0),
  (125, (.getfield 313, 3), 6, 1, 0, [0, 213], 0),
  (128, (.invokevirtual 391, 3), 14, 3, 0, [0, 0, 4039], 0),
  (131, (.aload_n 0, 1), 0, 0, 0, [], 0),
  (132, (.getfield 80, 3), 9, 11, 0, [1, 1065], 0),
  (135, (.ldc_w 394, 3), 7, 0, 0, [1, 4053], 0),
  (138, (.invokevirtual 396, 3), 13, 2, 0, [0, 0, 4054], 0),
  (141, (.return_, 1), 0, 0, 0, [], 0)])]
/-- LampPresses.isLayout(III)Z -/
def lp_c157 : List (Nat × List lp_E) := [(40, [(0, (.iload_n 0, 1), 0, 0, 0, [], 0),
  (1, (.ifCond .lt 30, 3), 31, 0, 0, [], 0),
  (4, (.iload_n 0, 1), 0, 0, 0, [], 0),
  (5, (.iconst 4, 1), 0, 0, 4, [], 0),
  (6, (.if_icmp .gt 25, 3), 31, 0, 0, [], 0),
  (9, (.iload_n 1, 1), 1, 0, 0, [], 0),
  (10, (.iconst 1, 1), 0, 0, 1, [], 0),
  (11, (.if_icmp .lt 20, 3), 31, 0, 0, [], 0),
  (14, (.iload_n 1, 1), 1, 0, 0, [], 0),
  (15, (.bipush 10, 2), 0, 0, 10, [], 0),
  (17, (.if_icmp .gt 14, 3), 31, 0, 0, [], 0),
  (20, (.iload_n 2, 1), 2, 0, 0, [], 0),
  (21, (.iconst 1, 1), 0, 0, 1, [], 0),
  (22, (.if_icmp .lt 9, 3), 31, 0, 0, [], 0),
  (25, (.iload_n 2, 1), 2, 0, 0, [], 0),
  (26, (.bipush 10, 2), 0, 0, 10, [], 0),
  (28, (.if_icmp .le 5, 3), 33, 0, 0, [], 0),
  (31, (.iconst 0, 1), 0, 0, 0, [], 0),
  (32, (.ireturn, 1), 1, 0, 0, [], 0),
  (33, (.iload_n 0, 1), 0, 0, 0, [], 0),
  (34, (.iconst 2, 1), 0, 0, 2, [], 0),
  (35, (.if_icmp .eq 8, 3), 43, 0, 0, [], 0),
  (38, (.iload_n 2, 1), 2, 0, 0, [], 0),
  (39, (.iconst 1, 1), 0, 0, 1, [], 0)]),
 (69, [(40, (.if_icmp .ne 13, 3), 53, 0, 0, [], 0),
  (43, (.iload_n 0, 1), 0, 0, 0, [], 0),
  (44, (.iconst 1, 1), 0, 0, 1, [], 0),
  (45, (.if_icmp .ne 10, 3), 55, 0, 0, [], 0),
  (48, (.iload_n 1, 1), 1, 0, 0, [], 0),
  (49, (.iconst 3, 1), 0, 0, 3, [], 0),
  (50, (.if_icmp .ge 5, 3), 55, 0, 0, [], 0),
  (53, (.iconst 0, 1), 0, 0, 0, [], 0),
  (54, (.ireturn, 1), 1, 0, 0, [], 0),
  (55, (.iload_n 1, 1), 1, 0, 0, [], 0),
  (56, (.iload_n 2, 1), 2, 0, 0, [], 0),
  (57, (.imul, 1), 0, 0, 0, [], 0),
  (58, (.bipush 10, 2), 0, 0, 10, [], 0),
  (60, (.if_icmp .gt 7, 3), 67, 0, 0, [], 0),
  (63, (.iconst 1, 1), 0, 0, 1, [], 0),
  (64, (.goto 4, 3), 68, 0, 0, [], 0),
  (67, (.iconst 0, 1), 0, 0, 0, [], 0),
  (68, (.ireturn, 1), 1, 0, 0, [], 0)])]
/-- LampPresses.areJoined(IIIII)Z -/
def lp_c158 : List (Nat × List lp_E) := [(67, [(0, (.iload_n 0, 1), 0, 0, 0, [], 1),
  (1, (.tableswitch 104 0 3 #[31, 45, 71, 102], 31), 105, 4, 0, [32, 46, 72, 103], 0),
  (32, (.iload 4, 2), 4, 0, 0, [], 0),
  (34, (.iload_n 3, 1), 3, 0, 0, [], 0),
  (35, (.iconst 1, 1), 0, 0, 1, [], 0),
  (36, (.iadd, 1), 0, 0, 0, [], 0),
  (37, (.if_icmp .ne 7, 3), 44, 0, 0, [], 0),
  (40, (.iconst 1, 1), 0, 0, 1, [], 0),
  (41, (.goto 4, 3), 45, 0, 0, [], 0),
  (44, (.iconst 0, 1), 0, 0, 0, [], 0),
  (45, (.ireturn, 1), 1, 0, 0, [], 0),
  (46, (.iload 4, 2), 4, 0, 0, [], 0),
  (48, (.iload_n 3, 1), 3, 0, 0, [], 0),
  (49, (.iconst 1, 1), 0, 0, 1, [], 0),
  (50, (.iadd, 1), 0, 0, 0, [], 0),
  (51, (.if_icmp .eq 15, 3), 66, 0, 0, [], 0),
  (54, (.iload_n 3, 1), 3, 0, 0, [], 0),
  (55, (.ifCond .ne 15, 3), 70, 0, 0, [], 0),
  (58, (.iload 4, 2), 4, 0, 0, [], 0),
  (60, (.iload_n 1, 1), 1, 0, 0, [], 0),
  (61, (.iconst 1, 1), 0, 0, 1, [], 0),
  (62, (.isub, 1), 0, 0, 0, [], 0),
  (63, (.if_icmp .ne 7, 3), 70, 0, 0, [], 0),
  (66, (.iconst 1, 1), 0, 0, 1, [], 0)]),
 (106, [(67, (.goto 4, 3), 71, 0, 0, [], 0),
  (70, (.iconst 0, 1), 0, 0, 0, [], 0),
  (71, (.ireturn, 1), 1, 0, 0, [], 0),
  (72, (.iload 4, 2), 4, 0, 0, [], 0),
  (74, (.iload_n 3, 1), 3, 0, 0, [], 0),
  (75, (.iload_n 2, 1), 2, 0, 0, [], 0),
  (76, (.iadd, 1), 0, 0, 0, [], 0),
  (77, (.if_icmp .eq 20, 3), 97, 0, 0, [], 0),
  (80, (.iload 4, 2), 4, 0, 0, [], 0),
  (82, (.iload_n 3, 1), 3, 0, 0, [], 0),
  (83, (.iconst 1, 1), 0, 0, 1, [], 0),
  (84, (.iadd, 1), 0, 0, 0, [], 0),
  (85, (.if_icmp .ne 16, 3), 101, 0, 0, [], 0),
  (88, (.iload 4, 2), 4, 0, 0, [], 0),
  (90, (.iload_n 2, 1), 2, 0, 0, [], 0),
  (91, (.invokestatic 195, 3), 159, 2, 0, [1, 1, 2171], 0),
  (94, (.ifCond .eq 7, 3), 101, 0, 0, [], 0),
  (97, (.iconst 1, 1), 0, 0, 1, [], 0),
  (98, (.goto 4, 3), 102, 0, 0, [], 0),
  (101, (.iconst 0, 1), 0, 0, 0, [], 0),
  (102, (.ireturn, 1), 1, 0, 0, [], 0),
  (103, (.iconst 1, 1), 0, 0, 1, [], 0),
  (104, (.ireturn, 1), 1, 0, 0, [], 0),
  (105, (.iload_n 3, 1), 3, 0, 0, [], 0)]),
 (115, [(106, (.ifCond .ne 7, 3), 113, 0, 0, [], 0),
  (109, (.iconst 1, 1), 0, 0, 1, [], 0),
  (110, (.goto 4, 3), 114, 0, 0, [], 0),
  (113, (.iconst 0, 1), 0, 0, 0, [], 0),
  (114, (.ireturn, 1), 1, 0, 0, [], 0)])]
/-- LampPresses.mod(II)I -/
def lp_c159 : List (Nat × List lp_E) := [(12, [(0, (.iload_n 1, 1), 1, 0, 0, [], 0),
  (1, (.ifCond .le 9, 3), 10, 0, 0, [], 0),
  (4, (.iload_n 0, 1), 0, 0, 0, [], 0),
  (5, (.iload_n 1, 1), 1, 0, 0, [], 0),
  (6, (.irem, 1), 0, 0, 0, [], 0),
  (7, (.goto 4, 3), 11, 0, 0, [], 0),
  (10, (.iconst 0, 1), 0, 0, 0, [], 0),
  (11, (.ireturn, 1), 0, 0, 0, [], 0)])]
/-- LampPresses.power(II)I -/
def lp_c160 : List (Nat × List lp_E) := [(21, [(0, (.iconst 1, 1), 0, 0, 1, [], 0),
  (1, (.istore_n 2, 1), 2, 0, 0, [], 0),
  (2, (.iconst 0, 1), 0, 0, 0, [], 0),
  (3, (.istore_n 3, 1), 3, 0, 0, [], 1),
  (4, (.iload_n 3, 1), 3, 0, 0, [], 0),
  (5, (.iload_n 1, 1), 1, 0, 0, [], 0),
  (6, (.if_icmp .ge 13, 3), 19, 0, 0, [], 0),
  (9, (.iload_n 2, 1), 2, 0, 0, [], 0),
  (10, (.iload_n 0, 1), 0, 0, 0, [], 0),
  (11, (.imul, 1), 0, 0, 0, [], 0),
  (12, (.istore_n 2, 1), 2, 0, 0, [], 0),
  (13, (.iinc 3 1, 3), 3, 0, 1, [], 0),
  (16, (.goto (-12), 3), 4, 0, 0, [], 2),
  (19, (.iload_n 2, 1), 2, 0, 0, [], 0),
  (20, (.ireturn, 1), 0, 0, 0, [], 0)])]
/-- LampPresses.sum([II)I -/
def lp_c161 : List (Nat × List lp_E) := [(29, [(0, (.iconst 0, 1), 0, 0, 0, [], 0),
  (1, (.istore_n 2, 1), 2, 0, 0, [], 0),
  (2, (.iconst 0, 1), 0, 0, 0, [], 0),
  (3, (.istore_n 3, 1), 3, 0, 0, [], 1),
  (4, (.iload_n 3, 1), 3, 0, 0, [], 0),
  (5, (.iload_n 1, 1), 1, 0, 0, [], 0),
  (6, (.if_icmp .ge 21, 3), 27, 0, 0, [], 0),
  (9, (.iload_n 3, 1), 3, 0, 0, [], 0),
  (10, (.aload_n 0, 1), 0, 0, 0, [], 0),
  (11, (.arraylength, 1), 20, 0, 0, [], 0),
  (12, (.if_icmp .ge 15, 3), 27, 0, 0, [], 0),
  (15, (.iload_n 2, 1), 2, 0, 0, [], 0),
  (16, (.aload_n 0, 1), 0, 0, 0, [], 0),
  (17, (.iload_n 3, 1), 3, 0, 0, [], 0),
  (18, (.iaload, 1), 20, 0, 0, [], 0),
  (19, (.iadd, 1), 0, 0, 0, [], 0),
  (20, (.istore_n 2, 1), 2, 0, 0, [], 0),
  (21, (.iinc 3 1, 3), 3, 0, 1, [], 0),
  (24, (.goto (-20), 3), 4, 0, 0, [], 2),
  (27, (.iload_n 2, 1), 2, 0, 0, [], 0),
  (28, (.ireturn, 1), 0, 0, 0, [], 0)])]
def lp_c162_0 : List lp_E := [(0, (.aload_n 0, 1), 0, 0, 0, [], 0),
  (1, (.invokespecial 7, 3), 0, 1, 0, [5, 0, 4099], 0),
  (4, (.aload_n 0, 1), 0, 0, 0, [], 0),
  (5, (.sipush 174, 3), 0, 0, 174, [], 0),
  (8, (.newarray .int, 2), 20, 0, 0, [], 0),
  (10, (.putfield 13, 3), 10, 1, 0, [1, 4104, 1], 0),
  (13, (.aload_n 0, 1), 0, 0, 0, [], 0),
  (14, (.sipush 174, 3), 0, 0, 174, [], 0),
  (17, (.newarray .int, 2), 20, 0, 0, [], 0),
  (19, (.putfield 17, 3), 10, 2, 0, [1, 4105, 1], 0),
  (22, (.aload_n 0, 1), 0, 0, 0, [], 0),
  (23, (.sipush 174, 3), 0, 0, 174, [], 0),
  (26, (.newarray .int, 2), 20, 0, 0, [], 0),
  (28, (.putfield 20, 3), 10, 3, 0, [1, 4106, 1], 0),
  (31, (.aload_n 0, 1), 0, 0, 0, [], 0),
  (32, (.sipush 2088, 3), 0, 0, 2088, [], 0),
  (35, (.newarray .int, 2), 20, 0, 0, [], 0),
  (37, (.putfield 23, 3), 10, 4, 0, [1, 4107, 1], 0),
  (40, (.aload_n 0, 1), 0, 0, 0, [], 0),
  (41, (.bipush 10, 2), 0, 0, 10, [], 0),
  (43, (.newarray .int, 2), 20, 0, 0, [], 0),
  (45, (.putfield 26, 3), 10, 6, 0, [1, 4109, 1], 0),
  (48, (.aload_n 0, 1), 0, 0, 0, [], 0),
  (49, (.sipush 1100, 3), 0, 0, 1100, [], 0)]
def lp_c162_1 : List lp_E := [(52, (.newarray .int, 2), 20, 0, 0, [], 0),
  (54, (.putfield 29, 3), 10, 7, 0, [1, 4110, 1], 0),
  (57, (.aload_n 0, 1), 0, 0, 0, [], 0),
  (58, (.bipush 110, 2), 0, 0, 110, [], 0),
  (60, (.newarray .boolean, 2), 22, 0, 0, [], 0),
  (62, (.putfield 32, 3), 10, 8, 0, [1, 4111, 1], 0),
  (65, (.aload_n 0, 1), 0, 0, 0, [], 0),
  (66, (.bipush 11, 2), 0, 0, 11, [], 0),
  (68, (.newarray .int, 2), 20, 0, 0, [], 0),
  (70, (.putfield 36, 3), 10, 9, 0, [1, 4112, 1], 0),
  (73, (.aload_n 0, 1), 0, 0, 0, [], 0),
  (74, (.bipush 10, 2), 0, 0, 10, [], 0),
  (76, (.newarray .int, 2), 20, 0, 0, [], 0),
  (78, (.putfield 39, 3), 10, 10, 0, [1, 4113, 1], 0),
  (81, (.aload_n 0, 1), 0, 0, 0, [], 0),
  (82, (.bipush 10, 2), 0, 0, 10, [], 0),
  (84, (.newarray .int, 2), 20, 0, 0, [], 0),
  (86, (.putfield 42, 3), 10, 11, 0, [1, 4114, 1], 0),
  (89, (.aload_n 0, 1), 0, 0, 0, [], 0),
  (90, (.bipush 10, 2), 0, 0, 10, [], 0),
  (92, (.newarray .int, 2), 20, 0, 0, [], 0),
  (94, (.putfield 45, 3), 10, 12, 0, [1, 4115, 1], 0),
  (97, (.aload_n 0, 1), 0, 0, 0, [], 0),
  (98, (.bipush 100, 2), 0, 0, 100, [], 0)]
def lp_c162_2 : List lp_E := [(100, (.newarray .int, 2), 20, 0, 0, [], 0),
  (102, (.putfield 48, 3), 10, 13, 0, [1, 4116, 1], 0),
  (105, (.aload_n 0, 1), 0, 0, 0, [], 0),
  (106, (.bipush 10, 2), 0, 0, 10, [], 0),
  (108, (.newarray .int, 2), 20, 0, 0, [], 0),
  (110, (.putfield 51, 3), 10, 14, 0, [1, 4117, 1], 0),
  (113, (.aload_n 0, 1), 0, 0, 0, [], 0),
  (114, (.bipush 10, 2), 0, 0, 10, [], 0),
  (116, (.newarray .int, 2), 20, 0, 0, [], 0),
  (118, (.putfield 54, 3), 10, 15, 0, [1, 4118, 1], 0),
  (121, (.aload_n 0, 1), 0, 0, 0, [], 0),
  (122, (.bipush 10, 2), 0, 0, 10, [], 0),
  (124, (.newarray .int, 2), 20, 0, 0, [], 0),
  (126, (.putfield 57, 3), 10, 17, 0, [1, 4120, 1], 0),
  (129, (.aload_n 0, 1), 0, 0, 0, [], 0),
  (130, (.bipush 10, 2), 0, 0, 10, [], 0),
  (132, (.newarray .int, 2), 20, 0, 0, [], 0),
  (134, (.putfield 60, 3), 10, 18, 0, [1, 4121, 1], 0),
  (137, (.aload_n 0, 1), 0, 0, 0, [], 0),
  (138, (.bipush 10, 2), 0, 0, 10, [], 0),
  (140, (.newarray .int, 2), 20, 0, 0, [], 0),
  (142, (.putfield 63, 3), 10, 19, 0, [1, 4122, 1], 0),
  (145, (.aload_n 0, 1), 0, 0, 0, [], 0),
  (146, (.bipush 10, 2), 0, 0, 10, [], 0)]
def lp_c162_3 : List lp_E := [(148, (.newarray .int, 2), 20, 0, 0, [], 0),
  (150, (.putfield 66, 3), 10, 21, 0, [1, 4124, 1], 0),
  (153, (.aload_n 0, 1), 0, 0, 0, [], 0),
  (154, (.bipush 10, 2), 0, 0, 10, [], 0),
  (156, (.newarray .int, 2), 20, 0, 0, [], 0),
  (158, (.putfield 69, 3), 10, 22, 0, [1, 4125, 1], 0),
  (161, (.aload_n 0, 1), 0, 0, 0, [], 0),
  (162, (.ldc 72, 2), 0, 0, 60000, [0, 4100], 0),
  (164, (.newarray .int, 2), 20, 0, 0, [], 0),
  (166, (.putfield 73, 3), 10, 23, 0, [1, 4126, 1], 0),
  (169, (.aload_n 0, 1), 0, 0, 0, [], 0),
  (170, (.ldc 72, 2), 0, 0, 60000, [0, 4100], 0),
  (172, (.newarray .int, 2), 20, 0, 0, [], 0),
  (174, (.putfield 76, 3), 10, 24, 0, [1, 4127, 1], 0),
  (177, (.aload_n 0, 1), 0, 0, 0, [], 0),
  (178, (.sipush 174, 3), 0, 0, 174, [], 0),
  (181, (.newarray .int, 2), 20, 0, 0, [], 0),
  (183, (.putfield 79, 3), 10, 26, 0, [1, 4129, 1], 0),
  (186, (.aload_n 0, 1), 0, 0, 0, [], 0),
  (187, (.sipush 900, 3), 0, 0, 900, [], 0),
  (190, (.newarray .int, 2), 20, 0, 0, [], 0),
  (192, (.putfield 82, 3), 10, 27, 0, [1, 4130, 1], 0),
  (195, (.aload_n 0, 1), 0, 0, 0, [], 0),
  (196, (.sipush 500, 3), 0, 0, 500, [], 0)]
def lp_c162_4 : List lp_E := [(199, (.newarray .int, 2), 20, 0, 0, [], 0),
  (201, (.putfield 85, 3), 10, 29, 0, [1, 4132, 1], 0),
  (204, (.aload_n 0, 1), 0, 0, 0, [], 0),
  (205, (.bipush 50, 2), 0, 0, 50, [], 0),
  (207, (.newarray .byte, 2), 21, 0, 0, [], 0),
  (209, (.dup, 1), 0, 0, 0, [], 0),
  (210, (.iconst 0, 1), 0, 0, 0, [], 0),
  (211, (.bipush 115, 2), 0, 0, 115, [], 0),
  (213, (.bastore, 1), 21, 0, 0, [], 0),
  (214, (.dup, 1), 0, 0, 0, [], 0),
  (215, (.iconst 1, 1), 0, 0, 1, [], 0),
  (216, (.bipush 116, 2), 0, 0, 116, [], 0),
  (218, (.bastore, 1), 21, 0, 0, [], 0),
  (219, (.dup, 1), 0, 0, 0, [], 0),
  (220, (.iconst 2, 1), 0, 0, 2, [], 0),
  (221, (.bipush 97, 2), 0, 0, 97, [], 0),
  (223, (.bastore, 1), 21, 0, 0, [], 0),
  (224, (.dup, 1), 0, 0, 0, [], 0),
  (225, (.iconst 3, 1), 0, 0, 3, [], 0),
  (226, (.bipush 116, 2), 0, 0, 116, [], 0),
  (228, (.bastore, 1), 21, 0, 0, [], 0),
  (229, (.dup, 1), 0, 0, 0, [], 0),
  (230, (.iconst 4, 1), 0, 0, 4, [], 0),
  (231, (.bipush 101, 2), 0, 0, 101, [], 0)]
def lp_c162_5 : List lp_E := [(233, (.bastore, 1), 21, 0, 0, [], 0),
  (234, (.dup, 1), 0, 0, 0, [], 0),
  (235, (.iconst 5, 1), 0, 0, 5, [], 0),
  (236, (.bipush 115, 2), 0, 0, 115, [], 0),
  (238, (.bastore, 1), 21, 0, 0, [], 0),
  (239, (.dup, 1), 0, 0, 0, [], 0),
  (240, (.bipush 6, 2), 0, 0, 6, [], 0),
  (242, (.iconst 0, 1), 0, 0, 0, [], 0),
  (243, (.bastore, 1), 21, 0, 0, [], 0),
  (244, (.dup, 1), 0, 0, 0, [], 0),
  (245, (.bipush 7, 2), 0, 0, 7, [], 0),
  (247, (.bipush 108, 2), 0, 0, 108, [], 0),
  (249, (.bastore, 1), 21, 0, 0, [], 0),
  (250, (.dup, 1), 0, 0, 0, [], 0),
  (251, (.bipush 8, 2), 0, 0, 8, [], 0),
  (253, (.bipush 97, 2), 0, 0, 97, [], 0),
  (255, (.bastore, 1), 21, 0, 0, [], 0),
  (256, (.dup, 1), 0, 0, 0, [], 0),
  (257, (.bipush 9, 2), 0, 0, 9, [], 0),
  (259, (.bipush 109, 2), 0, 0, 109, [], 0),
  (261, (.bastore, 1), 21, 0, 0, [], 0),
  (262, (.dup, 1), 0, 0, 0, [], 0),
  (263, (.bipush 10, 2), 0, 0, 10, [], 0),
  (265, (.bipush 112, 2), 0, 0, 112, [], 0)]
def lp_c162_6 : List lp_E := [(267, (.bastore, 1), 21, 0, 0, [], 0),
  (268, (.dup, 1), 0, 0, 0, [], 0),
  (269, (.bipush 11, 2), 0, 0, 11, [], 0),
  (271, (.iconst 0, 1), 0, 0, 0, [], 0),
  (272, (.bastore, 1), 21, 0, 0, [], 0),
  (273, (.dup, 1), 0, 0, 0, [], 0),
  (274, (.bipush 12, 2), 0, 0, 12, [], 0),
  (276, (.bipush 111, 2), 0, 0, 111, [], 0),
  (278, (.bastore, 1), 21, 0, 0, [], 0),
  (279, (.dup, 1), 0, 0, 0, [], 0),
  (280, (.bipush 13, 2), 0, 0, 13, [], 0),
  (282, (.bipush 119, 2), 0, 0, 119, [], 0),
  (284, (.bastore, 1), 21, 0, 0, [], 0),
  (285, (.dup, 1), 0, 0, 0, [], 0),
  (286, (.bipush 14, 2), 0, 0, 14, [], 0),
  (288, (.bipush 110, 2), 0, 0, 110, [], 0),
  (290, (.bastore, 1), 21, 0, 0, [], 0),
  (291, (.dup, 1), 0, 0, 0, [], 0),
  (292, (.bipush 15, 2), 0, 0, 15, [], 0),
  (294, (.iconst 0, 1), 0, 0, 0, [], 0),
  (295, (.bastore, 1), 21, 0, 0, [], 0),
  (296, (.dup, 1), 0, 0, 0, [], 0),
  (297, (.bipush 16, 2), 0, 0, 16, [], 0),
  (299, (.bipush 103, 2), 0, 0, 103, [], 0)]
def lp_c162_7 : List lp_E := [(301, (.bastore, 1), 21, 0, 0, [], 0),
  (302, (.dup, 1), 0, 0, 0, [], 0),
  (303, (.bipush 17, 2), 0, 0, 17, [], 0),
  (305, (.bipush 111, 2), 0, 0, 111, [], 0),
  (307, (.bastore, 1), 21, 0, 0, [], 0),
  (308, (.dup, 1), 0, 0, 0, [], 0),
  (309, (.bipush 18, 2), 0, 0, 18, [], 0),
  (311, (.bipush 97, 2), 0, 0, 97, [], 0),
  (313, (.bastore, 1), 21, 0, 0, [], 0),
  (314, (.dup, 1), 0, 0, 0, [], 0),
  (315, (.bipush 19, 2), 0, 0, 19, [], 0),
  (317, (.bipush 108, 2), 0, 0, 108, [], 0),
  (319, (.bastore, 1), 21, 0, 0, [], 0),
  (320, (.dup, 1), 0, 0, 0, [], 0),
  (321, (.bipush 20, 2), 0, 0, 20, [], 0),
  (323, (.iconst 0, 1), 0, 0, 0, [], 0),
  (324, (.bastore, 1), 21, 0, 0, [], 0),
  (325, (.dup, 1), 0, 0, 0, [], 0),
  (326, (.bipush 21, 2), 0, 0, 21, [], 0),
  (328, (.bipush 119, 2), 0, 0, 119, [], 0),
  (330, (.bastore, 1), 21, 0, 0, [], 0),
  (331, (.dup, 1), 0, 0, 0, [], 0),
  (332, (.bipush 22, 2), 0, 0, 22, [], 0),
  (334, (.bipush 105, 2), 0, 0, 105, [], 0)]
def lp_c162_8 : List lp_E := [(336, (.bastore, 1), 21, 0, 0, [], 0),
  (337, (.dup, 1), 0, 0, 0, [], 0),
  (338, (.bipush 23, 2), 0, 0, 23, [], 0),
  (340, (.bipush 114, 2), 0, 0, 114, [], 0),
  (342, (.bastore, 1), 21, 0, 0, [], 0),
  (343, (.dup, 1), 0, 0, 0, [], 0),
  (344, (.bipush 24, 2), 0, 0, 24, [], 0),
  (346, (.bipush 101, 2), 0, 0, 101, [], 0),
  (348, (.bastore, 1), 21, 0, 0, [], 0),
  (349, (.dup, 1), 0, 0, 0, [], 0),
  (350, (.bipush 25, 2), 0, 0, 25, [], 0),
  (352, (.iconst 0, 1), 0, 0, 0, [], 0),
  (353, (.bastore, 1), 21, 0, 0, [], 0),
  (354, (.dup, 1), 0, 0, 0, [], 0),
  (355, (.bipush 26, 2), 0, 0, 26, [], 0),
  (357, (.bipush 98, 2), 0, 0, 98, [], 0),
  (359, (.bastore, 1), 21, 0, 0, [], 0),
  (360, (.dup, 1), 0, 0, 0, [], 0),
  (361, (.bipush 27, 2), 0, 0, 27, [], 0),
  (363, (.bipush 121, 2), 0, 0, 121, [], 0),
  (365, (.bastore, 1), 21, 0, 0, [], 0),
  (366, (.dup, 1), 0, 0, 0, [], 0),
  (367, (.bipush 28, 2), 0, 0, 28, [], 0),
  (369, (.iconst 0, 1), 0, 0, 0, [], 0)]
def lp_c162_9 : List lp_E := [(370, (.bastore, 1), 21, 0, 0, [], 0),
  (371, (.dup, 1), 0, 0, 0, [], 0),
  (372, (.bipush 29, 2), 0, 0, 29, [], 0),
  (374, (.bipush 112, 2), 0, 0, 112, [], 0),
  (376, (.bastore, 1), 21, 0, 0, [], 0),
  (377, (.dup, 1), 0, 0, 0, [], 0),
  (378, (.bipush 30, 2), 0, 0, 30, [], 0),
  (380, (.bipush 114, 2), 0, 0, 114, [], 0),
  (382, (.bastore, 1), 21, 0, 0, [], 0),
  (383, (.dup, 1), 0, 0, 0, [], 0),
  (384, (.bipush 31, 2), 0, 0, 31, [], 0),
  (386, (.bipush 101, 2), 0, 0, 101, [], 0),
  (388, (.bastore, 1), 21, 0, 0, [], 0),
  (389, (.dup, 1), 0, 0, 0, [], 0),
  (390, (.bipush 32, 2), 0, 0, 32, [], 0),
  (392, (.bipush 115, 2), 0, 0, 115, [], 0),
  (394, (.bastore, 1), 21, 0, 0, [], 0),
  (395, (.dup, 1), 0, 0, 0, [], 0),
  (396, (.bipush 33, 2), 0, 0, 33, [], 0),
  (398, (.bipush 115, 2), 0, 0, 115, [], 0),
  (400, (.bastore, 1), 21, 0, 0, [], 0),
  (401, (.dup, 1), 0, 0, 0, [], 0),
  (402, (.bipush 34, 2), 0, 0, 34, [], 0),
  (404, (.iconst 0, 1), 0, 0, 0, [], 0)]
def lp_c162_10 : List lp_E := [(405, (.bastore, 1), 21, 0, 0, [], 0),
  (406, (.dup, 1), 0, 0, 0, [], 0),
  (407, (.bipush 35, 2), 0, 0, 35, [], 0),
  (409, (.bipush 100, 2), 0, 0, 100, [], 0),
  (411, (.bastore, 1), 21, 0, 0, [], 0),
  (412, (.dup, 1), 0, 0, 0, [], 0),
  (413, (.bipush 36, 2), 0, 0, 36, [], 0),
  (415, (.bipush 111, 2), 0, 0, 111, [], 0),
  (417, (.bastore, 1), 21, 0, 0, [], 0),
  (418, (.dup, 1), 0, 0, 0, [], 0),
  (419, (.bipush 37, 2), 0, 0, 37, [], 0),
  (421, (.bipush 110, 2), 0, 0, 110, [], 0),
  (423, (.bastore, 1), 21, 0, 0, [], 0),
  (424, (.dup, 1), 0, 0, 0, [], 0),
  (425, (.bipush 38, 2), 0, 0, 38, [], 0),
  (427, (.bipush 101, 2), 0, 0, 101, [], 0),
  (429, (.bastore, 1), 21, 0, 0, [], 0),
  (430, (.dup, 1), 0, 0, 0, [], 0),
  (431, (.bipush 39, 2), 0, 0, 39, [], 0),
  (433, (.iconst 0, 1), 0, 0, 0, [], 0),
  (434, (.bastore, 1), 21, 0, 0, [], 0),
  (435, (.dup, 1), 0, 0, 0, [], 0),
  (436, (.bipush 40, 2), 0, 0, 40, [], 0),
  (438, (.bipush 110, 2), 0, 0, 110, [], 0)]
def lp_c162_11 : List lp_E := [(440, (.bastore, 1), 21, 0, 0, [], 0),
  (441, (.dup, 1), 0, 0, 0, [], 0),
  (442, (.bipush 41, 2), 0, 0, 41, [], 0),
  (444, (.bipush 111, 2), 0, 0, 111, [], 0),
  (446, (.bastore, 1), 21, 0, 0, [], 0),
  (447, (.dup, 1), 0, 0, 0, [], 0),
  (448, (.bipush 42, 2), 0, 0, 42, [], 0),
  (450, (.bipush 110, 2), 0, 0, 110, [], 0),
  (452, (.bastore, 1), 21, 0, 0, [], 0),
  (453, (.dup, 1), 0, 0, 0, [], 0),
  (454, (.bipush 43, 2), 0, 0, 43, [], 0),
  (456, (.bipush 101, 2), 0, 0, 101, [], 0),
  (458, (.bastore, 1), 21, 0, 0, [], 0),
  (459, (.dup, 1), 0, 0, 0, [], 0),
  (460, (.bipush 44, 2), 0, 0, 44, [], 0),
  (462, (.iconst 0, 1), 0, 0, 0, [], 0),
  (463, (.bastore, 1), 21, 0, 0, [], 0),
  (464, (.dup, 1), 0, 0, 0, [], 0),
  (465, (.bipush 45, 2), 0, 0, 45, [], 0),
  (467, (.bipush 109, 2), 0, 0, 109, [], 0),
  (469, (.bastore, 1), 21, 0, 0, [], 0),
  (470, (.dup, 1), 0, 0, 0, [], 0),
  (471, (.bipush 46, 2), 0, 0, 46, [], 0),
  (473, (.bipush 97, 2), 0, 0, 97, [], 0)]
def lp_c162_12 : List lp_E := [(475, (.bastore, 1), 21, 0, 0, [], 0),
  (476, (.dup, 1), 0, 0, 0, [], 0),
  (477, (.bipush 47, 2), 0, 0, 47, [], 0),
  (479, (.bipush 110, 2), 0, 0, 110, [], 0),
  (481, (.bastore, 1), 21, 0, 0, [], 0),
  (482, (.dup, 1), 0, 0, 0, [], 0),
  (483, (.bipush 48, 2), 0, 0, 48, [], 0),
  (485, (.bipush 121, 2), 0, 0, 121, [], 0),
  (487, (.bastore, 1), 21, 0, 0, [], 0),
  (488, (.dup, 1), 0, 0, 0, [], 0),
  (489, (.bipush 49, 2), 0, 0, 49, [], 0),
  (491, (.iconst 0, 1), 0, 0, 0, [], 0),
  (492, (.bastore, 1), 21, 0, 0, [], 0),
  (493, (.putfield 88, 3), 10, 31, 0, [1, 4134, 1], 0),
  (496, (.aload_n 0, 1), 0, 0, 0, [], 0),
  (497, (.getfield 13, 3), 10, 1, 0, [1, 4104], 0),
  (500, (.invokestatic 92, 3), 165, 1, 0, [1, 0, 4101], 0),
  (503, (.return_, 1), 0, 0, 0, [], 0)]
/-- LampPressesModel.<init>()V -/
def lp_c162 : List (Nat × List lp_E) := [(52, lp_c162_0), (100, lp_c162_1), (148, lp_c162_2), (199, lp_c162_3), (233, lp_c162_4), (267, lp_c162_5), (301, lp_c162_6), (336, lp_c162_7), (370, lp_c162_8), (405, lp_c162_9), (440, lp_c162_10), (475, lp_c162_11), (504, lp_c162_12)]
/-- LampPressesModel.in(III)Z -/
def lp_c163 : List (Nat × List lp_E) := [(16, [(0, (.iload_n 0, 1), 0, 0, 0, [], 0),
  (1, (.iload_n 1, 1), 1, 0, 0, [], 0),
  (2, (.if_icmp .lt 12, 3), 14, 0, 0, [], 0),
  (5, (.iload_n 0, 1), 0, 0, 0, [], 0),
  (6, (.iload_n 2, 1), 2, 0, 0, [], 0),
  (7, (.if_icmp .gt 7, 3), 14, 0, 0, [], 0),
  (10, (.iconst 1, 1), 0, 0, 1, [], 0),
  (11, (.goto 4, 3), 15, 0, 0, [], 0),
  (14, (.iconst 0, 1), 0, 0, 0, [], 0),
  (15, (.ireturn, 1), 1, 0, 0, [], 0)])]
/-- LampPressesModel.has(II)Z -/
def lp_c164 : List (Nat × List lp_E) := [(15, [(0, (.iload_n 0, 1), 0, 0, 0, [], 0),
  (1, (.iload_n 1, 1), 1, 0, 0, [], 0),
  (2, (.ishr, 1), 0, 0, 0, [], 0),
  (3, (.iconst 1, 1), 0, 0, 1, [], 0),
  (4, (.iand, 1), 0, 0, 0, [], 0),
  (5, (.iconst 1, 1), 0, 0, 1, [], 0),
  (6, (.if_icmp .ne 7, 3), 13, 0, 0, [], 0),
  (9, (.iconst 1, 1), 0, 0, 1, [], 0),
  (10, (.goto 4, 3), 14, 0, 0, [], 0),
  (13, (.iconst 0, 1), 0, 0, 0, [], 0),
  (14, (.ireturn, 1), 1, 0, 0, [], 0)])]
/-- LampPressesModel.starts([I)V -/
def lp_c165 : List (Nat × List lp_E) := [(24, [(0, (.iconst 0, 1), 0, 0, 0, [], 0),
  (1, (.istore_n 1, 1), 1, 0, 0, [], 1),
  (2, (.iload_n 1, 1), 1, 0, 0, [], 0),
  (3, (.sipush 174, 3), 0, 0, 174, [], 0),
  (6, (.if_icmp .ge 13, 3), 19, 0, 0, [], 0),
  (9, (.aload_n 0, 1), 0, 0, 0, [], 0),
  (10, (.iload_n 1, 1), 1, 0, 0, [], 0),
  (11, (.iconst 0, 1), 0, 0, 0, [], 0),
  (12, (.iastore, 1), 0, 0, 0, [], 0),
  (13, (.iinc 1 1, 3), 1, 0, 1, [], 0),
  (16, (.goto (-14), 3), 2, 0, 0, [], 2),
  (19, (.aload_n 0, 1), 0, 0, 0, [], 0),
  (20, (.iconst 0, 1), 0, 0, 0, [], 0),
  (21, (.iconst 2, 1), 0, 0, 2, [], 0),
  (22, (.iastore, 1), 0, 0, 0, [], 0),
  (23, (.return_, 1), 0, 0, 0, [], 0)])]
/-- LampPressesModel.copies([I[I)V -/
def lp_c166 : List (Nat × List lp_E) := [(22, [(0, (.iconst 0, 1), 0, 0, 0, [], 0),
  (1, (.istore_n 2, 1), 2, 0, 0, [], 1),
  (2, (.iload_n 2, 1), 2, 0, 0, [], 0),
  (3, (.sipush 174, 3), 0, 0, 174, [], 0),
  (6, (.if_icmp .ge 15, 3), 21, 0, 0, [], 0),
  (9, (.aload_n 1, 1), 1, 0, 0, [], 0),
  (10, (.iload_n 2, 1), 2, 0, 0, [], 0),
  (11, (.aload_n 0, 1), 0, 0, 0, [], 0),
  (12, (.iload_n 2, 1), 2, 0, 0, [], 0),
  (13, (.iaload, 1), 20, 0, 0, [], 0),
  (14, (.iastore, 1), 0, 0, 0, [], 0),
  (15, (.iinc 2 1, 3), 2, 0, 1, [], 0),
  (18, (.goto (-16), 3), 2, 0, 0, [], 2),
  (21, (.return_, 1), 0, 0, 0, [], 0)])]
/-- LampPressesModel.keeps()V -/
def lp_c167 : List (Nat × List lp_E) := [(47, [(0, (.aload_n 0, 1), 0, 0, 0, [], 0),
  (1, (.getfield 96, 3), 10, 5, 0, [0, 4108], 0),
  (4, (.bipush 12, 2), 0, 0, 12, [], 0),
  (6, (.if_icmp .ne 46, 3), 52, 0, 0, [], 0),
  (9, (.sipush 174, 3), 0, 0, 174, [], 0),
  (12, (.istore_n 1, 1), 1, 0, 0, [], 1),
  (13, (.iload_n 1, 1), 1, 0, 0, [], 0),
  (14, (.sipush 2088, 3), 0, 0, 2088, [], 0),
  (17, (.if_icmp .ge 25, 3), 42, 0, 0, [], 0),
  (20, (.aload_n 0, 1), 0, 0, 0, [], 0),
  (21, (.getfield 23, 3), 10, 4, 0, [1, 4107], 0),
  (24, (.iload_n 1, 1), 1, 0, 0, [], 0),
  (25, (.sipush 174, 3), 0, 0, 174, [], 0),
  (28, (.isub, 1), 0, 0, 0, [], 0),
  (29, (.aload_n 0, 1), 0, 0, 0, [], 0),
  (30, (.getfield 23, 3), 10, 4, 0, [1, 4107], 0),
  (33, (.iload_n 1, 1), 1, 0, 0, [], 0),
  (34, (.iaload, 1), 20, 0, 0, [], 0),
  (35, (.iastore, 1), 0, 0, 0, [], 0),
  (36, (.iinc 1 1, 3), 1, 0, 1, [], 0),
  (39, (.goto (-26), 3), 13, 0, 0, [], 2),
  (42, (.aload_n 0, 1), 0, 0, 0, [], 0),
  (43, (.dup, 1), 0, 0, 0, [], 0),
  (44, (.getfield 96, 3), 10, 5, 0, [0, 4108], 0)]),
 (89, [(47, (.iconst 1, 1), 0, 0, 1, [], 0),
  (48, (.isub, 1), 0, 0, 0, [], 0),
  (49, (.putfield 96, 3), 10, 5, 0, [0, 4108, 0], 0),
  (52, (.iconst 0, 1), 0, 0, 0, [], 0),
  (53, (.istore_n 1, 1), 1, 0, 0, [], 1),
  (54, (.iload_n 1, 1), 1, 0, 0, [], 0),
  (55, (.sipush 174, 3), 0, 0, 174, [], 0),
  (58, (.if_icmp .ge 30, 3), 88, 0, 0, [], 0),
  (61, (.aload_n 0, 1), 0, 0, 0, [], 0),
  (62, (.getfield 23, 3), 10, 4, 0, [1, 4107], 0),
  (65, (.sipush 174, 3), 0, 0, 174, [], 0),
  (68, (.aload_n 0, 1), 0, 0, 0, [], 0),
  (69, (.getfield 96, 3), 10, 5, 0, [0, 4108], 0),
  (72, (.imul, 1), 0, 0, 0, [], 0),
  (73, (.iload_n 1, 1), 1, 0, 0, [], 0),
  (74, (.iadd, 1), 0, 0, 0, [], 0),
  (75, (.aload_n 0, 1), 0, 0, 0, [], 0),
  (76, (.getfield 13, 3), 10, 1, 0, [1, 4104], 0),
  (79, (.iload_n 1, 1), 1, 0, 0, [], 0),
  (80, (.iaload, 1), 20, 0, 0, [], 0),
  (81, (.iastore, 1), 0, 0, 0, [], 0),
  (82, (.iinc 1 1, 3), 1, 0, 1, [], 0),
  (85, (.goto (-31), 3), 54, 0, 0, [], 2),
  (88, (.aload_n 0, 1), 0, 0, 0, [], 0)]),
 (99, [(89, (.dup, 1), 0, 0, 0, [], 0),
  (90, (.getfield 96, 3), 10, 5, 0, [0, 4108], 0),
  (93, (.iconst 1, 1), 0, 0, 1, [], 0),
  (94, (.iadd, 1), 0, 0, 0, [], 0),
  (95, (.putfield 96, 3), 10, 5, 0, [0, 4108, 0], 0),
  (98, (.return_, 1), 0, 0, 0, [], 0)])]
/-- LampPressesModel.m()I -/
def lp_c168 : List (Nat × List lp_E) := [(7, [(0, (.aload_n 0, 1), 0, 0, 0, [], 0),
  (1, (.getfield 13, 3), 10, 1, 0, [1, 4104], 0),
  (4, (.iconst 0, 1), 0, 0, 0, [], 0),
  (5, (.iaload, 1), 20, 0, 0, [], 0),
  (6, (.ireturn, 1), 0, 0, 0, [], 0)])]
/-- LampPressesModel.many()I -/
def lp_c169 : List (Nat × List lp_E) := [(7, [(0, (.aload_n 0, 1), 0, 0, 0, [], 0),
  (1, (.getfield 13, 3), 10, 1, 0, [1, 4104], 0),
  (4, (.iconst 1, 1), 0, 0, 1, [], 0),
  (5, (.iaload, 1), 20, 0, 0, [], 0),
  (6, (.ireturn, 1), 0, 0, 0, [], 0)])]
/-- LampPressesModel.isLamp(I)Z -/
def lp_c170 : List (Nat × List lp_E) := [(12, [(0, (.iload_n 1, 1), 1, 0, 0, [], 0),
  (1, (.iconst 0, 1), 0, 0, 0, [], 0),
  (2, (.aload_n 0, 1), 0, 0, 0, [], 0),
  (3, (.invokevirtual 99, 3), 169, 1, 0, [0, 1, 4231], 0),
  (6, (.iconst 1, 1), 0, 0, 1, [], 0),
  (7, (.isub, 1), 0, 0, 0, [], 0),
  (8, (.invokestatic 103, 3), 163, 3, 0, [1, 1, 4228], 0),
  (11, (.ireturn, 1), 1, 0, 0, [], 0)])]
/-- LampPressesModel.isState(I)Z -/
def lp_c171 : List (Nat × List lp_E) := [(12, [(0, (.iload_n 1, 1), 1, 0, 0, [], 0),
  (1, (.iconst 0, 1), 0, 0, 0, [], 0),
  (2, (.aload_n 0, 1), 0, 0, 0, [], 0),
  (3, (.invokevirtual 107, 3), 168, 1, 0, [0, 1, 4224], 0),
  (6, (.iconst 1, 1), 0, 0, 1, [], 0),
  (7, (.isub, 1), 0, 0, 0, [], 0),
  (8, (.invokestatic 103, 3), 163, 3, 0, [1, 1, 4228], 0),
  (11, (.ireturn, 1), 1, 0, 0, [], 0)])]
/-- LampPressesModel.wireAt(II)I -/
def lp_c172 : List (Nat × List lp_E) := [(10, [(0, (.bipush 34, 2), 0, 0, 34, [], 0),
  (2, (.bipush 10, 2), 0, 0, 10, [], 0),
  (4, (.iload_n 0, 1), 0, 0, 0, [], 0),
  (5, (.imul, 1), 0, 0, 0, [], 0),
  (6, (.iadd, 1), 0, 0, 0, [], 0),
  (7, (.iload_n 1, 1), 1, 0, 0, [], 0),
  (8, (.iadd, 1), 0, 0, 0, [], 0),
  (9, (.ireturn, 1), 0, 0, 0, [], 0)])]
/-- LampPressesModel.adds([II)V -/
def lp_c173 : List (Nat × List lp_E) := [(26, [(0, (.aload_n 0, 1), 0, 0, 0, [], 0),
  (1, (.iconst 1, 1), 0, 0, 1, [], 0),
  (2, (.iaload, 1), 20, 0, 0, [], 0),
  (3, (.istore_n 2, 1), 2, 0, 0, [], 0),
  (4, (.aload_n 0, 1), 0, 0, 0, [], 0),
  (5, (.iconst 4, 1), 0, 0, 4, [], 0),
  (6, (.iload_n 2, 1), 2, 0, 0, [], 0),
  (7, (.iadd, 1), 0, 0, 0, [], 0),
  (8, (.iload_n 1, 1), 1, 0, 0, [], 0),
  (9, (.iastore, 1), 0, 0, 0, [], 0),
  (10, (.aload_n 0, 1), 0, 0, 0, [], 0),
  (11, (.bipush 14, 2), 0, 0, 14, [], 0),
  (13, (.iload_n 2, 1), 2, 0, 0, [], 0),
  (14, (.iadd, 1), 0, 0, 0, [], 0),
  (15, (.iconst 1, 1), 0, 0, 1, [], 0),
  (16, (.iastore, 1), 0, 0, 0, [], 0),
  (17, (.aload_n 0, 1), 0, 0, 0, [], 0),
  (18, (.bipush 24, 2), 0, 0, 24, [], 0),
  (20, (.iload_n 2, 1), 2, 0, 0, [], 0),
  (21, (.iadd, 1), 0, 0, 0, [], 0),
  (22, (.iconst 0, 1), 0, 0, 0, [], 0),
  (23, (.iastore, 1), 0, 0, 0, [], 0),
  (24, (.iconst 0, 1), 0, 0, 0, [], 0),
  (25, (.istore_n 3, 1), 3, 0, 0, [], 1)]),
 (61, [(26, (.iload_n 3, 1), 3, 0, 0, [], 0),
  (27, (.bipush 10, 2), 0, 0, 10, [], 0),
  (29, (.if_icmp .ge 25, 3), 54, 0, 0, [], 0),
  (32, (.aload_n 0, 1), 0, 0, 0, [], 0),
  (33, (.iload_n 2, 1), 2, 0, 0, [], 0),
  (34, (.iload_n 3, 1), 3, 0, 0, [], 0),
  (35, (.invokestatic 110, 3), 172, 2, 0, [1, 1, 5002], 0),
  (38, (.iconst 0, 1), 0, 0, 0, [], 0),
  (39, (.iastore, 1), 0, 0, 0, [], 0),
  (40, (.aload_n 0, 1), 0, 0, 0, [], 0),
  (41, (.iload_n 3, 1), 3, 0, 0, [], 0),
  (42, (.iload_n 2, 1), 2, 0, 0, [], 0),
  (43, (.invokestatic 110, 3), 172, 2, 0, [1, 1, 5002], 0),
  (46, (.iconst 0, 1), 0, 0, 0, [], 0),
  (47, (.iastore, 1), 0, 0, 0, [], 0),
  (48, (.iinc 3 1, 3), 3, 0, 1, [], 0),
  (51, (.goto (-25), 3), 26, 0, 0, [], 2),
  (54, (.aload_n 0, 1), 0, 0, 0, [], 0),
  (55, (.iconst 1, 1), 0, 0, 1, [], 0),
  (56, (.dup2, 1), 0, 0, 0, [], 0),
  (57, (.iaload, 1), 20, 0, 0, [], 0),
  (58, (.iconst 1, 1), 0, 0, 1, [], 0),
  (59, (.iadd, 1), 0, 0, 0, [], 0),
  (60, (.iastore, 1), 0, 0, 0, [], 0)]),
 (62, [(61, (.return_, 1), 0, 0, 0, [], 0)])]
/-- LampPressesModel.lamp(I)I -/
def lp_c174 : List (Nat × List lp_E) := [(38, [(0, (.aload_n 0, 1), 0, 0, 0, [], 0),
  (1, (.iload_n 1, 1), 1, 0, 0, [], 0),
  (2, (.invokevirtual 114, 3), 171, 2, 0, [0, 1, 4220], 0),
  (5, (.ifCond .eq 12, 3), 17, 0, 0, [], 0),
  (8, (.aload_n 0, 1), 0, 0, 0, [], 0),
  (9, (.invokevirtual 99, 3), 169, 1, 0, [0, 1, 4231], 0),
  (12, (.bipush 10, 2), 0, 0, 10, [], 0),
  (14, (.if_icmp .ne 5, 3), 19, 0, 0, [], 0),
  (17, (.iconst (-1), 1), 0, 0, (-1), [], 0),
  (18, (.ireturn, 1), 0, 0, 0, [], 0),
  (19, (.aload_n 0, 1), 0, 0, 0, [], 0),
  (20, (.invokevirtual 118, 3), 167, 1, 0, [0, 0, 4235], 0),
  (23, (.aload_n 0, 1), 0, 0, 0, [], 0),
  (24, (.getfield 13, 3), 10, 1, 0, [1, 4104], 0),
  (27, (.iload_n 1, 1), 1, 0, 0, [], 0),
  (28, (.invokestatic 121, 3), 173, 2, 0, [1, 0, 4239], 0),
  (31, (.aload_n 0, 1), 0, 0, 0, [], 0),
  (32, (.invokevirtual 99, 3), 169, 1, 0, [0, 1, 4231], 0),
  (35, (.iconst 1, 1), 0, 0, 1, [], 0),
  (36, (.isub, 1), 0, 0, 0, [], 0),
  (37, (.ireturn, 1), 0, 0, 0, [], 0)])]
def lp_c175_0 : List lp_E := [(0, (.aload_n 0, 1), 0, 0, 0, [], 0),
  (1, (.getfield 13, 3), 10, 1, 0, [1, 4104], 0),
  (4, (.aload_n 0, 1), 0, 0, 0, [], 0),
  (5, (.getfield 20, 3), 10, 3, 0, [1, 4106], 0),
  (8, (.invokestatic 125, 3), 166, 2, 0, [1, 0, 5017], 0),
  (11, (.iconst 0, 1), 0, 0, 0, [], 0),
  (12, (.istore_n 3, 1), 3, 0, 0, [], 1),
  (13, (.iload_n 3, 1), 3, 0, 0, [], 0),
  (14, (.iload_n 2, 1), 2, 0, 0, [], 0),
  (15, (.if_icmp .ge 108, 3), 123, 0, 0, [], 0),
  (18, (.aload_n 0, 1), 0, 0, 0, [], 0),
  (19, (.getfield 13, 3), 10, 1, 0, [1, 4104], 0),
  (22, (.iconst 4, 1), 0, 0, 4, [], 0),
  (23, (.iload_n 3, 1), 3, 0, 0, [], 0),
  (24, (.iadd, 1), 0, 0, 0, [], 0),
  (25, (.aload_n 0, 1), 0, 0, 0, [], 0),
  (26, (.getfield 20, 3), 10, 3, 0, [1, 4106], 0),
  (29, (.iconst 4, 1), 0, 0, 4, [], 0),
  (30, (.aload_n 1, 1), 1, 0, 0, [], 0),
  (31, (.iload_n 3, 1), 3, 0, 0, [], 0),
  (32, (.iaload, 1), 20, 0, 0, [], 0),
  (33, (.iadd, 1), 0, 0, 0, [], 0),
  (34, (.iaload, 1), 20, 0, 0, [], 0),
  (35, (.iastore, 1), 0, 0, 0, [], 0)]
def lp_c175_1 : List lp_E := [(36, (.aload_n 0, 1), 0, 0, 0, [], 0),
  (37, (.getfield 13, 3), 10, 1, 0, [1, 4104], 0),
  (40, (.bipush 14, 2), 0, 0, 14, [], 0),
  (42, (.iload_n 3, 1), 3, 0, 0, [], 0),
  (43, (.iadd, 1), 0, 0, 0, [], 0),
  (44, (.aload_n 0, 1), 0, 0, 0, [], 0),
  (45, (.getfield 20, 3), 10, 3, 0, [1, 4106], 0),
  (48, (.bipush 14, 2), 0, 0, 14, [], 0),
  (50, (.aload_n 1, 1), 1, 0, 0, [], 0),
  (51, (.iload_n 3, 1), 3, 0, 0, [], 0),
  (52, (.iaload, 1), 20, 0, 0, [], 0),
  (53, (.iadd, 1), 0, 0, 0, [], 0),
  (54, (.iaload, 1), 20, 0, 0, [], 0),
  (55, (.iastore, 1), 0, 0, 0, [], 0),
  (56, (.aload_n 0, 1), 0, 0, 0, [], 0),
  (57, (.getfield 13, 3), 10, 1, 0, [1, 4104], 0),
  (60, (.bipush 24, 2), 0, 0, 24, [], 0),
  (62, (.iload_n 3, 1), 3, 0, 0, [], 0),
  (63, (.iadd, 1), 0, 0, 0, [], 0),
  (64, (.aload_n 0, 1), 0, 0, 0, [], 0),
  (65, (.getfield 20, 3), 10, 3, 0, [1, 4106], 0),
  (68, (.bipush 24, 2), 0, 0, 24, [], 0),
  (70, (.aload_n 1, 1), 1, 0, 0, [], 0),
  (71, (.iload_n 3, 1), 3, 0, 0, [], 0)]
def lp_c175_2 : List lp_E := [(72, (.iaload, 1), 20, 0, 0, [], 0),
  (73, (.iadd, 1), 0, 0, 0, [], 0),
  (74, (.iaload, 1), 20, 0, 0, [], 0),
  (75, (.iastore, 1), 0, 0, 0, [], 0),
  (76, (.iconst 0, 1), 0, 0, 0, [], 0),
  (77, (.istore 4, 2), 4, 0, 0, [], 1),
  (79, (.iload 4, 2), 4, 0, 0, [], 0),
  (81, (.iload_n 2, 1), 2, 0, 0, [], 0),
  (82, (.if_icmp .ge 35, 3), 117, 0, 0, [], 0),
  (85, (.aload_n 0, 1), 0, 0, 0, [], 0),
  (86, (.getfield 13, 3), 10, 1, 0, [1, 4104], 0),
  (89, (.iload_n 3, 1), 3, 0, 0, [], 0),
  (90, (.iload 4, 2), 4, 0, 0, [], 0),
  (92, (.invokestatic 110, 3), 172, 2, 0, [1, 1, 5002], 0),
  (95, (.aload_n 0, 1), 0, 0, 0, [], 0),
  (96, (.getfield 20, 3), 10, 3, 0, [1, 4106], 0),
  (99, (.aload_n 1, 1), 1, 0, 0, [], 0),
  (100, (.iload_n 3, 1), 3, 0, 0, [], 0),
  (101, (.iaload, 1), 20, 0, 0, [], 0),
  (102, (.aload_n 1, 1), 1, 0, 0, [], 0),
  (103, (.iload 4, 2), 4, 0, 0, [], 0),
  (105, (.iaload, 1), 20, 0, 0, [], 0),
  (106, (.invokestatic 110, 3), 172, 2, 0, [1, 1, 5002], 0),
  (109, (.iaload, 1), 20, 0, 0, [], 0)]
def lp_c175_3 : List lp_E := [(110, (.iastore, 1), 0, 0, 0, [], 0),
  (111, (.iinc 4 1, 3), 4, 0, 1, [], 0),
  (114, (.goto (-35), 3), 79, 0, 0, [], 2),
  (117, (.iinc 3 1, 3), 3, 0, 1, [], 0),
  (120, (.goto (-107), 3), 13, 0, 0, [], 2),
  (123, (.aload_n 0, 1), 0, 0, 0, [], 0),
  (124, (.getfield 13, 3), 10, 1, 0, [1, 4104], 0),
  (127, (.iconst 1, 1), 0, 0, 1, [], 0),
  (128, (.iload_n 2, 1), 2, 0, 0, [], 0),
  (129, (.iastore, 1), 0, 0, 0, [], 0),
  (130, (.return_, 1), 0, 0, 0, [], 0)]
/-- LampPressesModel.stands([II)V -/
def lp_c175 : List (Nat × List lp_E) := [(36, lp_c175_0), (72, lp_c175_1), (110, lp_c175_2), (131, lp_c175_3)]
/-- LampPressesModel.drop(I)Z -/
def lp_c176 : List (Nat × List lp_E) := [(40, [(0, (.aload_n 0, 1), 0, 0, 0, [], 0),
  (1, (.iload_n 1, 1), 1, 0, 0, [], 0),
  (2, (.invokevirtual 129, 3), 170, 2, 0, [0, 1, 5009], 0),
  (5, (.ifCond .ne 5, 3), 10, 0, 0, [], 0),
  (8, (.iconst 0, 1), 0, 0, 0, [], 0),
  (9, (.ireturn, 1), 1, 0, 0, [], 0),
  (10, (.aload_n 0, 1), 0, 0, 0, [], 0),
  (11, (.invokevirtual 118, 3), 167, 1, 0, [0, 0, 4235], 0),
  (14, (.iconst 0, 1), 0, 0, 0, [], 0),
  (15, (.istore_n 2, 1), 2, 0, 0, [], 1),
  (16, (.iload_n 2, 1), 2, 0, 0, [], 0),
  (17, (.aload_n 0, 1), 0, 0, 0, [], 0),
  (18, (.invokevirtual 99, 3), 169, 1, 0, [0, 1, 4231], 0),
  (21, (.iconst 1, 1), 0, 0, 1, [], 0),
  (22, (.isub, 1), 0, 0, 0, [], 0),
  (23, (.if_icmp .ge 27, 3), 50, 0, 0, [], 0),
  (26, (.aload_n 0, 1), 0, 0, 0, [], 0),
  (27, (.getfield 26, 3), 10, 6, 0, [1, 4109], 0),
  (30, (.iload_n 2, 1), 2, 0, 0, [], 0),
  (31, (.iload_n 2, 1), 2, 0, 0, [], 0),
  (32, (.iload_n 1, 1), 1, 0, 0, [], 0),
  (33, (.if_icmp .ge 7, 3), 40, 0, 0, [], 0),
  (36, (.iload_n 2, 1), 2, 0, 0, [], 0),
  (37, (.goto 6, 3), 43, 0, 0, [], 0)]),
 (66, [(40, (.iload_n 2, 1), 2, 0, 0, [], 0),
  (41, (.iconst 1, 1), 0, 0, 1, [], 0),
  (42, (.iadd, 1), 0, 0, 0, [], 0),
  (43, (.iastore, 1), 0, 0, 0, [], 0),
  (44, (.iinc 2 1, 3), 2, 0, 1, [], 0),
  (47, (.goto (-31), 3), 16, 0, 0, [], 2),
  (50, (.aload_n 0, 1), 0, 0, 0, [], 0),
  (51, (.aload_n 0, 1), 0, 0, 0, [], 0),
  (52, (.getfield 26, 3), 10, 6, 0, [1, 4109], 0),
  (55, (.aload_n 0, 1), 0, 0, 0, [], 0),
  (56, (.invokevirtual 99, 3), 169, 1, 0, [0, 1, 4231], 0),
  (59, (.iconst 1, 1), 0, 0, 1, [], 0),
  (60, (.isub, 1), 0, 0, 0, [], 0),
  (61, (.invokevirtual 132, 3), 175, 3, 0, [0, 0, 5013], 0),
  (64, (.iconst 1, 1), 0, 0, 1, [], 0),
  (65, (.ireturn, 1), 1, 0, 0, [], 0)])]
/-- LampPressesModel.swap(II)Z -/
def lp_c177 : List (Nat × List lp_E) := [(42, [(0, (.aload_n 0, 1), 0, 0, 0, [], 0),
  (1, (.iload_n 1, 1), 1, 0, 0, [], 0),
  (2, (.invokevirtual 129, 3), 170, 2, 0, [0, 1, 5009], 0),
  (5, (.ifCond .eq 16, 3), 21, 0, 0, [], 0),
  (8, (.aload_n 0, 1), 0, 0, 0, [], 0),
  (9, (.iload_n 2, 1), 2, 0, 0, [], 0),
  (10, (.invokevirtual 129, 3), 170, 2, 0, [0, 1, 5009], 0),
  (13, (.ifCond .eq 8, 3), 21, 0, 0, [], 0),
  (16, (.iload_n 1, 1), 1, 0, 0, [], 0),
  (17, (.iload_n 2, 1), 2, 0, 0, [], 0),
  (18, (.if_icmp .ne 5, 3), 23, 0, 0, [], 0),
  (21, (.iconst 0, 1), 0, 0, 0, [], 0),
  (22, (.ireturn, 1), 1, 0, 0, [], 0),
  (23, (.aload_n 0, 1), 0, 0, 0, [], 0),
  (24, (.invokevirtual 118, 3), 167, 1, 0, [0, 0, 4235], 0),
  (27, (.iconst 0, 1), 0, 0, 0, [], 0),
  (28, (.istore_n 3, 1), 3, 0, 0, [], 1),
  (29, (.iload_n 3, 1), 3, 0, 0, [], 0),
  (30, (.aload_n 0, 1), 0, 0, 0, [], 0),
  (31, (.invokevirtual 99, 3), 169, 1, 0, [0, 1, 4231], 0),
  (34, (.if_icmp .ge 34, 3), 68, 0, 0, [], 0),
  (37, (.aload_n 0, 1), 0, 0, 0, [], 0),
  (38, (.getfield 26, 3), 10, 6, 0, [1, 4109], 0),
  (41, (.iload_n 3, 1), 3, 0, 0, [], 0)]),
 (82, [(42, (.iload_n 3, 1), 3, 0, 0, [], 0),
  (43, (.iload_n 1, 1), 1, 0, 0, [], 0),
  (44, (.if_icmp .ne 7, 3), 51, 0, 0, [], 0),
  (47, (.iload_n 2, 1), 2, 0, 0, [], 0),
  (48, (.goto 13, 3), 61, 0, 0, [], 0),
  (51, (.iload_n 3, 1), 3, 0, 0, [], 0),
  (52, (.iload_n 2, 1), 2, 0, 0, [], 0),
  (53, (.if_icmp .ne 7, 3), 60, 0, 0, [], 0),
  (56, (.iload_n 1, 1), 1, 0, 0, [], 0),
  (57, (.goto 4, 3), 61, 0, 0, [], 0),
  (60, (.iload_n 3, 1), 3, 0, 0, [], 0),
  (61, (.iastore, 1), 0, 0, 0, [], 0),
  (62, (.iinc 3 1, 3), 3, 0, 1, [], 0),
  (65, (.goto (-36), 3), 29, 0, 0, [], 2),
  (68, (.aload_n 0, 1), 0, 0, 0, [], 0),
  (69, (.aload_n 0, 1), 0, 0, 0, [], 0),
  (70, (.getfield 26, 3), 10, 6, 0, [1, 4109], 0),
  (73, (.aload_n 0, 1), 0, 0, 0, [], 0),
  (74, (.invokevirtual 99, 3), 169, 1, 0, [0, 1, 4231], 0),
  (77, (.invokevirtual 132, 3), 175, 3, 0, [0, 0, 5013], 0),
  (80, (.iconst 1, 1), 0, 0, 1, [], 0),
  (81, (.ireturn, 1), 1, 0, 0, [], 0)])]
/-- LampPressesModel.mirror()I -/
def lp_c178 : List (Nat × List lp_E) := [(38, [(0, (.aload_n 0, 1), 0, 0, 0, [], 0),
  (1, (.invokevirtual 99, 3), 169, 1, 0, [0, 1, 4231], 0),
  (4, (.iconst 2, 1), 0, 0, 2, [], 0),
  (5, (.if_icmp .ge 5, 3), 10, 0, 0, [], 0),
  (8, (.iconst (-1), 1), 0, 0, (-1), [], 0),
  (9, (.ireturn, 1), 0, 0, 0, [], 0),
  (10, (.aload_n 0, 1), 0, 0, 0, [], 0),
  (11, (.invokevirtual 118, 3), 167, 1, 0, [0, 0, 4235], 0),
  (14, (.iconst 0, 1), 0, 0, 0, [], 0),
  (15, (.istore_n 1, 1), 1, 0, 0, [], 1),
  (16, (.iload_n 1, 1), 1, 0, 0, [], 0),
  (17, (.aload_n 0, 1), 0, 0, 0, [], 0),
  (18, (.invokevirtual 99, 3), 169, 1, 0, [0, 1, 4231], 0),
  (21, (.if_icmp .ge 23, 3), 44, 0, 0, [], 0),
  (24, (.aload_n 0, 1), 0, 0, 0, [], 0),
  (25, (.getfield 26, 3), 10, 6, 0, [1, 4109], 0),
  (28, (.iload_n 1, 1), 1, 0, 0, [], 0),
  (29, (.aload_n 0, 1), 0, 0, 0, [], 0),
  (30, (.invokevirtual 99, 3), 169, 1, 0, [0, 1, 4231], 0),
  (33, (.iconst 1, 1), 0, 0, 1, [], 0),
  (34, (.isub, 1), 0, 0, 0, [], 0),
  (35, (.iload_n 1, 1), 1, 0, 0, [], 0),
  (36, (.isub, 1), 0, 0, 0, [], 0),
  (37, (.iastore, 1), 0, 0, 0, [], 0)]),
 (61, [(38, (.iinc 1 1, 3), 1, 0, 1, [], 0),
  (41, (.goto (-25), 3), 16, 0, 0, [], 2),
  (44, (.aload_n 0, 1), 0, 0, 0, [], 0),
  (45, (.aload_n 0, 1), 0, 0, 0, [], 0),
  (46, (.getfield 26, 3), 10, 6, 0, [1, 4109], 0),
  (49, (.aload_n 0, 1), 0, 0, 0, [], 0),
  (50, (.invokevirtual 99, 3), 169, 1, 0, [0, 1, 4231], 0),
  (53, (.invokevirtual 132, 3), 175, 3, 0, [0, 0, 5013], 0),
  (56, (.aload_n 0, 1), 0, 0, 0, [], 0),
  (57, (.invokevirtual 99, 3), 169, 1, 0, [0, 1, 4231], 0),
  (60, (.ireturn, 1), 0, 0, 0, [], 0)])]
/-- LampPressesModel.wires([IIII)V -/
def lp_c179 : List (Nat × List lp_E) := [(17, [(0, (.aload_n 0, 1), 0, 0, 0, [], 0),
  (1, (.iload_n 1, 1), 1, 0, 0, [], 0),
  (2, (.iload_n 2, 1), 2, 0, 0, [], 0),
  (3, (.invokestatic 110, 3), 172, 2, 0, [1, 1, 5002], 0),
  (6, (.iload_n 3, 1), 3, 0, 0, [], 0),
  (7, (.iastore, 1), 0, 0, 0, [], 0),
  (8, (.aload_n 0, 1), 0, 0, 0, [], 0),
  (9, (.iload_n 2, 1), 2, 0, 0, [], 0),
  (10, (.iload_n 1, 1), 1, 0, 0, [], 0),
  (11, (.invokestatic 110, 3), 172, 2, 0, [1, 1, 5002], 0),
  (14, (.iload_n 3, 1), 3, 0, 0, [], 0),
  (15, (.iastore, 1), 0, 0, 0, [], 0),
  (16, (.return_, 1), 0, 0, 0, [], 0)])]
/-- LampPressesModel.wire(III)I -/
def lp_c180 : List (Nat × List lp_E) := [(44, [(0, (.aload_n 0, 1), 0, 0, 0, [], 0),
  (1, (.iload_n 1, 1), 1, 0, 0, [], 0),
  (2, (.invokevirtual 129, 3), 170, 2, 0, [0, 1, 5009], 0),
  (5, (.ifCond .eq 38, 3), 43, 0, 0, [], 0),
  (8, (.aload_n 0, 1), 0, 0, 0, [], 0),
  (9, (.iload_n 2, 1), 2, 0, 0, [], 0),
  (10, (.invokevirtual 129, 3), 170, 2, 0, [0, 1, 5009], 0),
  (13, (.ifCond .eq 30, 3), 43, 0, 0, [], 0),
  (16, (.iload_n 1, 1), 1, 0, 0, [], 0),
  (17, (.iload_n 2, 1), 2, 0, 0, [], 0),
  (18, (.if_icmp .eq 25, 3), 43, 0, 0, [], 0),
  (21, (.aload_n 0, 1), 0, 0, 0, [], 0),
  (22, (.iload_n 3, 1), 3, 0, 0, [], 0),
  (23, (.invokevirtual 114, 3), 171, 2, 0, [0, 1, 4220], 0),
  (26, (.ifCond .eq 17, 3), 43, 0, 0, [], 0),
  (29, (.aload_n 0, 1), 0, 0, 0, [], 0),
  (30, (.getfield 13, 3), 10, 1, 0, [1, 4104], 0),
  (33, (.iload_n 1, 1), 1, 0, 0, [], 0),
  (34, (.iload_n 2, 1), 2, 0, 0, [], 0),
  (35, (.invokestatic 110, 3), 172, 2, 0, [1, 1, 5002], 0),
  (38, (.iaload, 1), 20, 0, 0, [], 0),
  (39, (.iload_n 3, 1), 3, 0, 0, [], 0),
  (40, (.if_icmp .ne 5, 3), 45, 0, 0, [], 0),
  (43, (.iconst (-1), 1), 0, 0, (-1), [], 0)]),
 (74, [(44, (.ireturn, 1), 0, 0, 0, [], 0),
  (45, (.aload_n 0, 1), 0, 0, 0, [], 0),
  (46, (.invokevirtual 118, 3), 167, 1, 0, [0, 0, 4235], 0),
  (49, (.aload_n 0, 1), 0, 0, 0, [], 0),
  (50, (.getfield 13, 3), 10, 1, 0, [1, 4104], 0),
  (53, (.iload_n 1, 1), 1, 0, 0, [], 0),
  (54, (.iload_n 2, 1), 2, 0, 0, [], 0),
  (55, (.invokestatic 110, 3), 172, 2, 0, [1, 1, 5002], 0),
  (58, (.iaload, 1), 20, 0, 0, [], 0),
  (59, (.istore 4, 2), 4, 0, 0, [], 0),
  (61, (.aload_n 0, 1), 0, 0, 0, [], 0),
  (62, (.getfield 13, 3), 10, 1, 0, [1, 4104], 0),
  (65, (.iload_n 1, 1), 1, 0, 0, [], 0),
  (66, (.iload_n 2, 1), 2, 0, 0, [], 0),
  (67, (.iload_n 3, 1), 3, 0, 0, [], 0),
  (68, (.invokestatic 135, 3), 179, 4, 0, [1, 0, 5032], 0),
  (71, (.iload 4, 2), 4, 0, 0, [], 0),
  (73, (.ireturn, 1), 0, 0, 0, [], 0)])]
/-- LampPressesModel.sets(III)I -/
def lp_c181 : List (Nat × List lp_E) := [(40, [(0, (.aload_n 0, 1), 0, 0, 0, [], 0),
  (1, (.iload_n 2, 1), 2, 0, 0, [], 0),
  (2, (.invokevirtual 129, 3), 170, 2, 0, [0, 1, 5009], 0),
  (5, (.ifCond .eq 23, 3), 28, 0, 0, [], 0),
  (8, (.aload_n 0, 1), 0, 0, 0, [], 0),
  (9, (.iload_n 3, 1), 3, 0, 0, [], 0),
  (10, (.invokevirtual 114, 3), 171, 2, 0, [0, 1, 4220], 0),
  (13, (.ifCond .eq 15, 3), 28, 0, 0, [], 0),
  (16, (.aload_n 0, 1), 0, 0, 0, [], 0),
  (17, (.getfield 13, 3), 10, 1, 0, [1, 4104], 0),
  (20, (.iload_n 1, 1), 1, 0, 0, [], 0),
  (21, (.iload_n 2, 1), 2, 0, 0, [], 0),
  (22, (.iadd, 1), 0, 0, 0, [], 0),
  (23, (.iaload, 1), 20, 0, 0, [], 0),
  (24, (.iload_n 3, 1), 3, 0, 0, [], 0),
  (25, (.if_icmp .ne 5, 3), 30, 0, 0, [], 0),
  (28, (.iconst (-1), 1), 0, 0, (-1), [], 0),
  (29, (.ireturn, 1), 0, 0, 0, [], 0),
  (30, (.aload_n 0, 1), 0, 0, 0, [], 0),
  (31, (.invokevirtual 118, 3), 167, 1, 0, [0, 0, 4235], 0),
  (34, (.aload_n 0, 1), 0, 0, 0, [], 0),
  (35, (.getfield 13, 3), 10, 1, 0, [1, 4104], 0),
  (38, (.iload_n 1, 1), 1, 0, 0, [], 0),
  (39, (.iload_n 2, 1), 2, 0, 0, [], 0)]),
 (56, [(40, (.iadd, 1), 0, 0, 0, [], 0),
  (41, (.iaload, 1), 20, 0, 0, [], 0),
  (42, (.istore 4, 2), 4, 0, 0, [], 0),
  (44, (.aload_n 0, 1), 0, 0, 0, [], 0),
  (45, (.getfield 13, 3), 10, 1, 0, [1, 4104], 0),
  (48, (.iload_n 1, 1), 1, 0, 0, [], 0),
  (49, (.iload_n 2, 1), 2, 0, 0, [], 0),
  (50, (.iadd, 1), 0, 0, 0, [], 0),
  (51, (.iload_n 3, 1), 3, 0, 0, [], 0),
  (52, (.iastore, 1), 0, 0, 0, [], 0),
  (53, (.iload 4, 2), 4, 0, 0, [], 0),
  (55, (.ireturn, 1), 0, 0, 0, [], 0)])]
/-- LampPressesModel.own(II)I -/
def lp_c182 : List (Nat × List lp_E) := [(9, [(0, (.aload_n 0, 1), 0, 0, 0, [], 0),
  (1, (.bipush 14, 2), 0, 0, 14, [], 0),
  (3, (.iload_n 1, 1), 1, 0, 0, [], 0),
  (4, (.iload_n 2, 1), 2, 0, 0, [], 0),
  (5, (.invokevirtual 139, 3), 181, 4, 0, [0, 1, 5039], 0),
  (8, (.ireturn, 1), 0, 0, 0, [], 0)])]
/-- LampPressesModel.goal(II)I -/
def lp_c183 : List (Nat × List lp_E) := [(9, [(0, (.aload_n 0, 1), 0, 0, 0, [], 0),
  (1, (.bipush 24, 2), 0, 0, 24, [], 0),
  (3, (.iload_n 1, 1), 1, 0, 0, [], 0),
  (4, (.iload_n 2, 1), 2, 0, 0, [], 0),
  (5, (.invokevirtual 139, 3), 181, 4, 0, [0, 1, 5039], 0),
  (8, (.ireturn, 1), 0, 0, 0, [], 0)])]
/-- LampPressesModel.show(II)I -/
def lp_c184 : List (Nat × List lp_E) := [(8, [(0, (.aload_n 0, 1), 0, 0, 0, [], 0),
  (1, (.iconst 4, 1), 0, 0, 4, [], 0),
  (2, (.iload_n 1, 1), 1, 0, 0, [], 0),
  (3, (.iload_n 2, 1), 2, 0, 0, [], 0),
  (4, (.invokevirtual 139, 3), 181, 4, 0, [0, 1, 5039], 0),
  (7, (.ireturn, 1), 0, 0, 0, [], 0)])]
/-- LampPressesModel.stepOf(II)I -/
def lp_c185 : List (Nat × List lp_E) := [(28, [(0, (.iload_n 1, 1), 1, 0, 0, [], 0),
  (1, (.iload_n 2, 1), 2, 0, 0, [], 0),
  (2, (.if_icmp .ne 15, 3), 17, 0, 0, [], 0),
  (5, (.aload_n 0, 1), 0, 0, 0, [], 0),
  (6, (.getfield 13, 3), 10, 1, 0, [1, 4104], 0),
  (9, (.bipush 14, 2), 0, 0, 14, [], 0),
  (11, (.iload_n 2, 1), 2, 0, 0, [], 0),
  (12, (.iadd, 1), 0, 0, 0, [], 0),
  (13, (.iaload, 1), 20, 0, 0, [], 0),
  (14, (.goto 13, 3), 27, 0, 0, [], 0),
  (17, (.aload_n 0, 1), 0, 0, 0, [], 0),
  (18, (.getfield 13, 3), 10, 1, 0, [1, 4104], 0),
  (21, (.iload_n 1, 1), 1, 0, 0, [], 0),
  (22, (.iload_n 2, 1), 2, 0, 0, [], 0),
  (23, (.invokestatic 110, 3), 172, 2, 0, [1, 1, 5002], 0),
  (26, (.iaload, 1), 20, 0, 0, [], 0),
  (27, (.ireturn, 1), 0, 0, 0, [], 0)])]
def lp_c186_0 : List lp_E := [(0, (.iconst 0, 1), 0, 0, 0, [], 0),
  (1, (.istore_n 3, 1), 3, 0, 0, [], 1),
  (2, (.iload_n 3, 1), 3, 0, 0, [], 0),
  (3, (.aload_n 0, 1), 0, 0, 0, [], 0),
  (4, (.invokevirtual 99, 3), 169, 1, 0, [0, 1, 4231], 0),
  (7, (.if_icmp .ge 39, 3), 46, 0, 0, [], 0),
  (10, (.aload_n 0, 1), 0, 0, 0, [], 0),
  (11, (.getfield 13, 3), 10, 1, 0, [1, 4104], 0),
  (14, (.iconst 4, 1), 0, 0, 4, [], 0),
  (15, (.iload_n 3, 1), 3, 0, 0, [], 0),
  (16, (.iadd, 1), 0, 0, 0, [], 0),
  (17, (.aload_n 0, 1), 0, 0, 0, [], 0),
  (18, (.getfield 13, 3), 10, 1, 0, [1, 4104], 0),
  (21, (.iconst 4, 1), 0, 0, 4, [], 0),
  (22, (.iload_n 3, 1), 3, 0, 0, [], 0),
  (23, (.iadd, 1), 0, 0, 0, [], 0),
  (24, (.iaload, 1), 20, 0, 0, [], 0),
  (25, (.iload_n 2, 1), 2, 0, 0, [], 0),
  (26, (.aload_n 0, 1), 0, 0, 0, [], 0),
  (27, (.iload_n 1, 1), 1, 0, 0, [], 0),
  (28, (.iload_n 3, 1), 3, 0, 0, [], 0),
  (29, (.invokevirtual 143, 3), 185, 3, 0, [0, 1, 5059], 0),
  (32, (.imul, 1), 0, 0, 0, [], 0),
  (33, (.iadd, 1), 0, 0, 0, [], 0)]
def lp_c186_1 : List lp_E := [(34, (.aload_n 0, 1), 0, 0, 0, [], 0),
  (35, (.invokevirtual 107, 3), 168, 1, 0, [0, 1, 4224], 0),
  (38, (.irem, 1), 0, 0, 0, [], 0),
  (39, (.iastore, 1), 0, 0, 0, [], 0),
  (40, (.iinc 3 1, 3), 3, 0, 1, [], 0),
  (43, (.goto (-41), 3), 2, 0, 0, [], 2),
  (46, (.aload_n 0, 1), 0, 0, 0, [], 0),
  (47, (.getfield 13, 3), 10, 1, 0, [1, 4104], 0),
  (50, (.iconst 2, 1), 0, 0, 2, [], 0),
  (51, (.dup2, 1), 0, 0, 0, [], 0),
  (52, (.iaload, 1), 20, 0, 0, [], 0),
  (53, (.iload_n 2, 1), 2, 0, 0, [], 0),
  (54, (.iadd, 1), 0, 0, 0, [], 0),
  (55, (.iastore, 1), 0, 0, 0, [], 0),
  (56, (.aload_n 0, 1), 0, 0, 0, [], 0),
  (57, (.getfield 13, 3), 10, 1, 0, [1, 4104], 0),
  (60, (.iconst 3, 1), 0, 0, 3, [], 0),
  (61, (.iaload, 1), 20, 0, 0, [], 0),
  (62, (.bipush 20, 2), 0, 0, 20, [], 0),
  (64, (.if_icmp .ne 49, 3), 113, 0, 0, [], 0),
  (67, (.iconst 2, 1), 0, 0, 2, [], 0),
  (68, (.istore_n 3, 1), 3, 0, 0, [], 1),
  (69, (.iload_n 3, 1), 3, 0, 0, [], 0),
  (70, (.bipush 40, 2), 0, 0, 40, [], 0)]
def lp_c186_2 : List lp_E := [(72, (.if_icmp .ge 31, 3), 103, 0, 0, [], 0),
  (75, (.aload_n 0, 1), 0, 0, 0, [], 0),
  (76, (.getfield 13, 3), 10, 1, 0, [1, 4104], 0),
  (79, (.sipush 134, 3), 0, 0, 134, [], 0),
  (82, (.iload_n 3, 1), 3, 0, 0, [], 0),
  (83, (.iadd, 1), 0, 0, 0, [], 0),
  (84, (.iconst 2, 1), 0, 0, 2, [], 0),
  (85, (.isub, 1), 0, 0, 0, [], 0),
  (86, (.aload_n 0, 1), 0, 0, 0, [], 0),
  (87, (.getfield 13, 3), 10, 1, 0, [1, 4104], 0),
  (90, (.sipush 134, 3), 0, 0, 134, [], 0),
  (93, (.iload_n 3, 1), 3, 0, 0, [], 0),
  (94, (.iadd, 1), 0, 0, 0, [], 0),
  (95, (.iaload, 1), 20, 0, 0, [], 0),
  (96, (.iastore, 1), 0, 0, 0, [], 0),
  (97, (.iinc 3 1, 3), 3, 0, 1, [], 0),
  (100, (.goto (-31), 3), 69, 0, 0, [], 2),
  (103, (.aload_n 0, 1), 0, 0, 0, [], 0),
  (104, (.getfield 13, 3), 10, 1, 0, [1, 4104], 0),
  (107, (.iconst 3, 1), 0, 0, 3, [], 0),
  (108, (.dup2, 1), 0, 0, 0, [], 0),
  (109, (.iaload, 1), 20, 0, 0, [], 0),
  (110, (.iconst 1, 1), 0, 0, 1, [], 0),
  (111, (.isub, 1), 0, 0, 0, [], 0)]
def lp_c186_3 : List lp_E := [(112, (.iastore, 1), 0, 0, 0, [], 0),
  (113, (.aload_n 0, 1), 0, 0, 0, [], 0),
  (114, (.getfield 13, 3), 10, 1, 0, [1, 4104], 0),
  (117, (.sipush 134, 3), 0, 0, 134, [], 0),
  (120, (.iconst 2, 1), 0, 0, 2, [], 0),
  (121, (.aload_n 0, 1), 0, 0, 0, [], 0),
  (122, (.getfield 13, 3), 10, 1, 0, [1, 4104], 0),
  (125, (.iconst 3, 1), 0, 0, 3, [], 0),
  (126, (.iaload, 1), 20, 0, 0, [], 0),
  (127, (.imul, 1), 0, 0, 0, [], 0),
  (128, (.iadd, 1), 0, 0, 0, [], 0),
  (129, (.iload_n 1, 1), 1, 0, 0, [], 0),
  (130, (.iastore, 1), 0, 0, 0, [], 0),
  (131, (.aload_n 0, 1), 0, 0, 0, [], 0),
  (132, (.getfield 13, 3), 10, 1, 0, [1, 4104], 0),
  (135, (.sipush 134, 3), 0, 0, 134, [], 0),
  (138, (.iconst 2, 1), 0, 0, 2, [], 0),
  (139, (.aload_n 0, 1), 0, 0, 0, [], 0),
  (140, (.getfield 13, 3), 10, 1, 0, [1, 4104], 0),
  (143, (.iconst 3, 1), 0, 0, 3, [], 0),
  (144, (.iaload, 1), 20, 0, 0, [], 0),
  (145, (.imul, 1), 0, 0, 0, [], 0),
  (146, (.iadd, 1), 0, 0, 0, [], 0),
  (147, (.iconst 1, 1), 0, 0, 1, [], 0)]
def lp_c186_4 : List lp_E := [(148, (.iadd, 1), 0, 0, 0, [], 0),
  (149, (.iload_n 2, 1), 2, 0, 0, [], 0),
  (150, (.iastore, 1), 0, 0, 0, [], 0),
  (151, (.aload_n 0, 1), 0, 0, 0, [], 0),
  (152, (.getfield 13, 3), 10, 1, 0, [1, 4104], 0),
  (155, (.iconst 3, 1), 0, 0, 3, [], 0),
  (156, (.dup2, 1), 0, 0, 0, [], 0),
  (157, (.iaload, 1), 20, 0, 0, [], 0),
  (158, (.iconst 1, 1), 0, 0, 1, [], 0),
  (159, (.iadd, 1), 0, 0, 0, [], 0),
  (160, (.iastore, 1), 0, 0, 0, [], 0),
  (161, (.return_, 1), 0, 0, 0, [], 0)]
/-- LampPressesModel.presses(II)V -/
def lp_c186 : List (Nat × List lp_E) := [(34, lp_c186_0), (72, lp_c186_1), (112, lp_c186_2), (148, lp_c186_3), (162, lp_c186_4)]
/-- LampPressesModel.press(II)I -/
def lp_c187 : List (Nat × List lp_E) := [(39, [(0, (.aload_n 0, 1), 0, 0, 0, [], 0),
  (1, (.iload_n 1, 1), 1, 0, 0, [], 0),
  (2, (.invokevirtual 129, 3), 170, 2, 0, [0, 1, 5009], 0),
  (5, (.ifCond .eq 13, 3), 18, 0, 0, [], 0),
  (8, (.iload_n 2, 1), 2, 0, 0, [], 0),
  (9, (.iconst 1, 1), 0, 0, 1, [], 0),
  (10, (.bipush 9, 2), 0, 0, 9, [], 0),
  (12, (.invokestatic 103, 3), 163, 3, 0, [1, 1, 4228], 0),
  (15, (.ifCond .ne 5, 3), 20, 0, 0, [], 0),
  (18, (.iconst (-1), 1), 0, 0, (-1), [], 0),
  (19, (.ireturn, 1), 0, 0, 0, [], 0),
  (20, (.aload_n 0, 1), 0, 0, 0, [], 0),
  (21, (.invokevirtual 118, 3), 167, 1, 0, [0, 0, 4235], 0),
  (24, (.aload_n 0, 1), 0, 0, 0, [], 0),
  (25, (.iload_n 1, 1), 1, 0, 0, [], 0),
  (26, (.iload_n 2, 1), 2, 0, 0, [], 0),
  (27, (.invokevirtual 146, 3), 186, 3, 0, [0, 0, 5055], 0),
  (30, (.aload_n 0, 1), 0, 0, 0, [], 0),
  (31, (.getfield 13, 3), 10, 1, 0, [1, 4104], 0),
  (34, (.iconst 4, 1), 0, 0, 4, [], 0),
  (35, (.iload_n 1, 1), 1, 0, 0, [], 0),
  (36, (.iadd, 1), 0, 0, 0, [], 0),
  (37, (.iaload, 1), 20, 0, 0, [], 0),
  (38, (.ireturn, 1), 0, 0, 0, [], 0)])]
/-- LampPressesModel.aim()I -/
def lp_c188 : List (Nat × List lp_E) := [(39, [(0, (.aload_n 0, 1), 0, 0, 0, [], 0),
  (1, (.invokevirtual 150, 3), 230, 1, 0, [0, 1, 5067], 0),
  (4, (.istore_n 1, 1), 1, 0, 0, [], 0),
  (5, (.iload_n 1, 1), 1, 0, 0, [], 0),
  (6, (.ifCond .ne 5, 3), 11, 0, 0, [], 0),
  (9, (.iconst (-1), 1), 0, 0, (-1), [], 0),
  (10, (.ireturn, 1), 0, 0, 0, [], 0),
  (11, (.aload_n 0, 1), 0, 0, 0, [], 0),
  (12, (.invokevirtual 118, 3), 167, 1, 0, [0, 0, 4235], 0),
  (15, (.iconst 0, 1), 0, 0, 0, [], 0),
  (16, (.istore_n 2, 1), 2, 0, 0, [], 1),
  (17, (.iload_n 2, 1), 2, 0, 0, [], 0),
  (18, (.aload_n 0, 1), 0, 0, 0, [], 0),
  (19, (.invokevirtual 99, 3), 169, 1, 0, [0, 1, 4231], 0),
  (22, (.if_icmp .ge 26, 3), 48, 0, 0, [], 0),
  (25, (.aload_n 0, 1), 0, 0, 0, [], 0),
  (26, (.getfield 13, 3), 10, 1, 0, [1, 4104], 0),
  (29, (.bipush 24, 2), 0, 0, 24, [], 0),
  (31, (.iload_n 2, 1), 2, 0, 0, [], 0),
  (32, (.iadd, 1), 0, 0, 0, [], 0),
  (33, (.aload_n 0, 1), 0, 0, 0, [], 0),
  (34, (.getfield 13, 3), 10, 1, 0, [1, 4104], 0),
  (37, (.iconst 4, 1), 0, 0, 4, [], 0),
  (38, (.iload_n 2, 1), 2, 0, 0, [], 0)]),
 (50, [(39, (.iadd, 1), 0, 0, 0, [], 0),
  (40, (.iaload, 1), 20, 0, 0, [], 0),
  (41, (.iastore, 1), 0, 0, 0, [], 0),
  (42, (.iinc 2 1, 3), 2, 0, 1, [], 0),
  (45, (.goto (-28), 3), 17, 0, 0, [], 2),
  (48, (.iload_n 1, 1), 1, 0, 0, [], 0),
  (49, (.ireturn, 1), 0, 0, 0, [], 0)])]
/-- LampPressesModel.solve()I -/
def lp_c189 : List (Nat × List lp_E) := [(43, [(0, (.aload_n 0, 1), 0, 0, 0, [], 0),
  (1, (.invokevirtual 99, 3), 169, 1, 0, [0, 1, 4231], 0),
  (4, (.ifCond .ne 5, 3), 9, 0, 0, [], 0),
  (7, (.iconst (-1), 1), 0, 0, (-1), [], 0),
  (8, (.ireturn, 1), 0, 0, 0, [], 0),
  (9, (.aload_n 0, 1), 0, 0, 0, [], 0),
  (10, (.aload_n 0, 1), 0, 0, 0, [], 0),
  (11, (.getfield 45, 3), 10, 12, 0, [1, 4115], 0),
  (14, (.invokevirtual 153, 3), 207, 2, 0, [0, 1, 5075], 0),
  (17, (.ifCond .ne 6, 3), 23, 0, 0, [], 0),
  (20, (.bipush (-2), 2), 0, 0, (-2), [], 0),
  (22, (.ireturn, 1), 0, 0, 0, [], 0),
  (23, (.aload_n 0, 1), 0, 0, 0, [], 0),
  (24, (.aload_n 0, 1), 0, 0, 0, [], 0),
  (25, (.getfield 45, 3), 10, 12, 0, [1, 4115], 0),
  (28, (.invokevirtual 157, 3), 208, 2, 0, [0, 1, 5121], 0),
  (31, (.istore_n 1, 1), 1, 0, 0, [], 0),
  (32, (.iload_n 1, 1), 1, 0, 0, [], 0),
  (33, (.ifCond .ne 5, 3), 38, 0, 0, [], 0),
  (36, (.iconst (-1), 1), 0, 0, (-1), [], 0),
  (37, (.ireturn, 1), 0, 0, 0, [], 0),
  (38, (.aload_n 0, 1), 0, 0, 0, [], 0),
  (39, (.invokevirtual 118, 3), 167, 1, 0, [0, 0, 4235], 0),
  (42, (.iconst 0, 1), 0, 0, 0, [], 0)]),
 (80, [(43, (.istore_n 2, 1), 2, 0, 0, [], 1),
  (44, (.iload_n 2, 1), 2, 0, 0, [], 0),
  (45, (.aload_n 0, 1), 0, 0, 0, [], 0),
  (46, (.invokevirtual 99, 3), 169, 1, 0, [0, 1, 4231], 0),
  (49, (.if_icmp .ge 29, 3), 78, 0, 0, [], 0),
  (52, (.aload_n 0, 1), 0, 0, 0, [], 0),
  (53, (.getfield 45, 3), 10, 12, 0, [1, 4115], 0),
  (56, (.iload_n 2, 1), 2, 0, 0, [], 0),
  (57, (.iaload, 1), 20, 0, 0, [], 0),
  (58, (.ifCond .le 14, 3), 72, 0, 0, [], 0),
  (61, (.aload_n 0, 1), 0, 0, 0, [], 0),
  (62, (.iload_n 2, 1), 2, 0, 0, [], 0),
  (63, (.aload_n 0, 1), 0, 0, 0, [], 0),
  (64, (.getfield 45, 3), 10, 12, 0, [1, 4115], 0),
  (67, (.iload_n 2, 1), 2, 0, 0, [], 0),
  (68, (.iaload, 1), 20, 0, 0, [], 0),
  (69, (.invokevirtual 146, 3), 186, 3, 0, [0, 0, 5055], 0),
  (72, (.iinc 2 1, 3), 2, 0, 1, [], 0),
  (75, (.goto (-31), 3), 44, 0, 0, [], 2),
  (78, (.iload_n 1, 1), 1, 0, 0, [], 0),
  (79, (.ireturn, 1), 0, 0, 0, [], 0)])]
def lp_c190_0 : List lp_E := [(0, (.iload_n 1, 1), 1, 0, 0, [], 0),
  (1, (.iconst 0, 1), 0, 0, 0, [], 0),
  (2, (.iconst 4, 1), 0, 0, 4, [], 0),
  (3, (.invokestatic 103, 3), 163, 3, 0, [1, 1, 4228], 0),
  (6, (.ifCond .eq 43, 3), 49, 0, 0, [], 0),
  (9, (.iload_n 2, 1), 2, 0, 0, [], 0),
  (10, (.iload_n 1, 1), 1, 0, 0, [], 0),
  (11, (.iconst 1, 1), 0, 0, 1, [], 0),
  (12, (.if_icmp .ne 7, 3), 19, 0, 0, [], 0),
  (15, (.iconst 3, 1), 0, 0, 3, [], 0),
  (16, (.goto 4, 3), 20, 0, 0, [], 0),
  (19, (.iconst 1, 1), 0, 0, 1, [], 0),
  (20, (.bipush 10, 2), 0, 0, 10, [], 0),
  (22, (.invokestatic 103, 3), 163, 3, 0, [1, 1, 4228], 0),
  (25, (.ifCond .eq 24, 3), 49, 0, 0, [], 0),
  (28, (.iload_n 3, 1), 3, 0, 0, [], 0),
  (29, (.iconst 1, 1), 0, 0, 1, [], 0),
  (30, (.iload_n 1, 1), 1, 0, 0, [], 0),
  (31, (.iconst 2, 1), 0, 0, 2, [], 0),
  (32, (.if_icmp .ne 10, 3), 42, 0, 0, [], 0),
  (35, (.bipush 10, 2), 0, 0, 10, [], 0),
  (37, (.iload_n 2, 1), 2, 0, 0, [], 0),
  (38, (.idiv, 1), 0, 0, 0, [], 0),
  (39, (.goto 4, 3), 43, 0, 0, [], 0)]
def lp_c190_1 : List lp_E := [(42, (.iconst 1, 1), 0, 0, 1, [], 0),
  (43, (.invokestatic 103, 3), 163, 3, 0, [1, 1, 4228], 0),
  (46, (.ifCond .ne 5, 3), 51, 0, 0, [], 0),
  (49, (.iconst (-1), 1), 0, 0, (-1), [], 0),
  (50, (.ireturn, 1), 0, 0, 0, [], 0),
  (51, (.aload_n 0, 1), 0, 0, 0, [], 0),
  (52, (.invokevirtual 118, 3), 167, 1, 0, [0, 0, 4235], 0),
  (55, (.aload_n 0, 1), 0, 0, 0, [], 0),
  (56, (.getfield 13, 3), 10, 1, 0, [1, 4104], 0),
  (59, (.iconst 1, 1), 0, 0, 1, [], 0),
  (60, (.iconst 0, 1), 0, 0, 0, [], 0),
  (61, (.iastore, 1), 0, 0, 0, [], 0),
  (62, (.iconst 0, 1), 0, 0, 0, [], 0),
  (63, (.istore 4, 2), 4, 0, 0, [], 1),
  (65, (.iload 4, 2), 4, 0, 0, [], 0),
  (67, (.iload_n 2, 1), 2, 0, 0, [], 0),
  (68, (.iload_n 3, 1), 3, 0, 0, [], 0),
  (69, (.imul, 1), 0, 0, 0, [], 0),
  (70, (.if_icmp .ge 17, 3), 87, 0, 0, [], 0),
  (73, (.aload_n 0, 1), 0, 0, 0, [], 0),
  (74, (.getfield 13, 3), 10, 1, 0, [1, 4104], 0),
  (77, (.iconst 0, 1), 0, 0, 0, [], 0),
  (78, (.invokestatic 121, 3), 173, 2, 0, [1, 0, 4239], 0),
  (81, (.iinc 4 1, 3), 4, 0, 1, [], 0)]
def lp_c190_2 : List lp_E := [(84, (.goto (-19), 3), 65, 0, 0, [], 2),
  (87, (.iconst 0, 1), 0, 0, 0, [], 0),
  (88, (.istore 4, 2), 4, 0, 0, [], 1),
  (90, (.iload 4, 2), 4, 0, 0, [], 0),
  (92, (.iload_n 2, 1), 2, 0, 0, [], 0),
  (93, (.iload_n 3, 1), 3, 0, 0, [], 0),
  (94, (.imul, 1), 0, 0, 0, [], 0),
  (95, (.if_icmp .ge 50, 3), 145, 0, 0, [], 0),
  (98, (.iconst 0, 1), 0, 0, 0, [], 0),
  (99, (.istore 5, 2), 5, 0, 0, [], 1),
  (101, (.iload 5, 2), 5, 0, 0, [], 0),
  (103, (.iload 4, 2), 4, 0, 0, [], 0),
  (105, (.if_icmp .ge 34, 3), 139, 0, 0, [], 0),
  (108, (.iload_n 1, 1), 1, 0, 0, [], 0),
  (109, (.iload_n 2, 1), 2, 0, 0, [], 0),
  (110, (.iload_n 3, 1), 3, 0, 0, [], 0),
  (111, (.iload 5, 2), 5, 0, 0, [], 0),
  (113, (.iload 4, 2), 4, 0, 0, [], 0),
  (115, (.invokestatic 161, 3), 191, 5, 0, [1, 1, 5129], 0),
  (118, (.ifCond .eq 15, 3), 133, 0, 0, [], 0),
  (121, (.aload_n 0, 1), 0, 0, 0, [], 0),
  (122, (.getfield 13, 3), 10, 1, 0, [1, 4104], 0),
  (125, (.iload 4, 2), 4, 0, 0, [], 0),
  (127, (.iload 5, 2), 5, 0, 0, [], 0)]
def lp_c190_3 : List lp_E := [(129, (.iconst 1, 1), 0, 0, 1, [], 0),
  (130, (.invokestatic 135, 3), 179, 4, 0, [1, 0, 5032], 0),
  (133, (.iinc 5 1, 3), 5, 0, 1, [], 0),
  (136, (.goto (-35), 3), 101, 0, 0, [], 2),
  (139, (.iinc 4 1, 3), 4, 0, 1, [], 0),
  (142, (.goto (-52), 3), 90, 0, 0, [], 2),
  (145, (.iload_n 2, 1), 2, 0, 0, [], 0),
  (146, (.iload_n 3, 1), 3, 0, 0, [], 0),
  (147, (.imul, 1), 0, 0, 0, [], 0),
  (148, (.ireturn, 1), 0, 0, 0, [], 0)]
/-- LampPressesModel.lay(III)I -/
def lp_c190 : List (Nat × List lp_E) := [(42, lp_c190_0), (84, lp_c190_1), (129, lp_c190_2), (149, lp_c190_3)]
/-- LampPressesModel.isWired(IIIII)Z -/
def lp_c191 : List (Nat × List lp_E) := [(67, [(0, (.iload_n 0, 1), 0, 0, 0, [], 1),
  (1, (.tableswitch 105 0 3 #[31, 45, 71, 103], 31), 106, 4, 0, [32, 46, 72, 104], 0),
  (32, (.iload 4, 2), 4, 0, 0, [], 0),
  (34, (.iload_n 3, 1), 3, 0, 0, [], 0),
  (35, (.iconst 1, 1), 0, 0, 1, [], 0),
  (36, (.iadd, 1), 0, 0, 0, [], 0),
  (37, (.if_icmp .ne 7, 3), 44, 0, 0, [], 0),
  (40, (.iconst 1, 1), 0, 0, 1, [], 0),
  (41, (.goto 4, 3), 45, 0, 0, [], 0),
  (44, (.iconst 0, 1), 0, 0, 0, [], 0),
  (45, (.ireturn, 1), 1, 0, 0, [], 0),
  (46, (.iload 4, 2), 4, 0, 0, [], 0),
  (48, (.iload_n 3, 1), 3, 0, 0, [], 0),
  (49, (.iconst 1, 1), 0, 0, 1, [], 0),
  (50, (.iadd, 1), 0, 0, 0, [], 0),
  (51, (.if_icmp .eq 15, 3), 66, 0, 0, [], 0),
  (54, (.iload_n 3, 1), 3, 0, 0, [], 0),
  (55, (.ifCond .ne 15, 3), 70, 0, 0, [], 0),
  (58, (.iload 4, 2), 4, 0, 0, [], 0),
  (60, (.iload_n 1, 1), 1, 0, 0, [], 0),
  (61, (.iconst 1, 1), 0, 0, 1, [], 0),
  (62, (.isub, 1), 0, 0, 0, [], 0),
  (63, (.if_icmp .ne 7, 3), 70, 0, 0, [], 0),
  (66, (.iconst 1, 1), 0, 0, 1, [], 0)]),
 (104, [(67, (.goto 4, 3), 71, 0, 0, [], 0),
  (70, (.iconst 0, 1), 0, 0, 0, [], 0),
  (71, (.ireturn, 1), 1, 0, 0, [], 0),
  (72, (.iload_n 3, 1), 3, 0, 0, [], 0),
  (73, (.iload_n 2, 1), 2, 0, 0, [], 0),
  (74, (.idiv, 1), 0, 0, 0, [], 0),
  (75, (.iload 4, 2), 4, 0, 0, [], 0),
  (77, (.iload_n 2, 1), 2, 0, 0, [], 0),
  (78, (.idiv, 1), 0, 0, 0, [], 0),
  (79, (.if_icmp .ne 11, 3), 90, 0, 0, [], 0),
  (82, (.iload 4, 2), 4, 0, 0, [], 0),
  (84, (.iload_n 3, 1), 3, 0, 0, [], 0),
  (85, (.iconst 1, 1), 0, 0, 1, [], 0),
  (86, (.iadd, 1), 0, 0, 0, [], 0),
  (87, (.if_icmp .eq 11, 3), 98, 0, 0, [], 0),
  (90, (.iload 4, 2), 4, 0, 0, [], 0),
  (92, (.iload_n 3, 1), 3, 0, 0, [], 0),
  (93, (.iload_n 2, 1), 2, 0, 0, [], 0),
  (94, (.iadd, 1), 0, 0, 0, [], 0),
  (95, (.if_icmp .ne 7, 3), 102, 0, 0, [], 0),
  (98, (.iconst 1, 1), 0, 0, 1, [], 0),
  (99, (.goto 4, 3), 103, 0, 0, [], 0),
  (102, (.iconst 0, 1), 0, 0, 0, [], 0),
  (103, (.ireturn, 1), 1, 0, 0, [], 0)]),
 (116, [(104, (.iconst 1, 1), 0, 0, 1, [], 0),
  (105, (.ireturn, 1), 1, 0, 0, [], 0),
  (106, (.iload_n 3, 1), 3, 0, 0, [], 0),
  (107, (.ifCond .ne 7, 3), 114, 0, 0, [], 0),
  (110, (.iconst 1, 1), 0, 0, 1, [], 0),
  (111, (.goto 4, 3), 115, 0, 0, [], 0),
  (114, (.iconst 0, 1), 0, 0, 0, [], 0),
  (115, (.ireturn, 1), 1, 0, 0, [], 0)])]
/-- LampPressesModel.lift(I)I -/
def lp_c192 : List (Nat × List lp_E) := [(42, [(0, (.iload_n 1, 1), 1, 0, 0, [], 0),
  (1, (.iconst 1, 1), 0, 0, 1, [], 0),
  (2, (.aload_n 0, 1), 0, 0, 0, [], 0),
  (3, (.invokevirtual 107, 3), 168, 1, 0, [0, 1, 4224], 0),
  (6, (.iconst 1, 1), 0, 0, 1, [], 0),
  (7, (.isub, 1), 0, 0, 0, [], 0),
  (8, (.invokestatic 103, 3), 163, 3, 0, [1, 1, 4228], 0),
  (11, (.ifCond .eq 10, 3), 21, 0, 0, [], 0),
  (14, (.aload_n 0, 1), 0, 0, 0, [], 0),
  (15, (.invokevirtual 99, 3), 169, 1, 0, [0, 1, 4231], 0),
  (18, (.ifCond .ne 5, 3), 23, 0, 0, [], 0),
  (21, (.iconst (-1), 1), 0, 0, (-1), [], 0),
  (22, (.ireturn, 1), 0, 0, 0, [], 0),
  (23, (.aload_n 0, 1), 0, 0, 0, [], 0),
  (24, (.invokevirtual 118, 3), 167, 1, 0, [0, 0, 4235], 0),
  (27, (.iconst 0, 1), 0, 0, 0, [], 0),
  (28, (.istore_n 2, 1), 2, 0, 0, [], 1),
  (29, (.iload_n 2, 1), 2, 0, 0, [], 0),
  (30, (.aload_n 0, 1), 0, 0, 0, [], 0),
  (31, (.invokevirtual 99, 3), 169, 1, 0, [0, 1, 4231], 0),
  (34, (.if_icmp .ge 32, 3), 66, 0, 0, [], 0),
  (37, (.aload_n 0, 1), 0, 0, 0, [], 0),
  (38, (.getfield 13, 3), 10, 1, 0, [1, 4104], 0),
  (41, (.iconst 4, 1), 0, 0, 4, [], 0)]),
 (71, [(42, (.iload_n 2, 1), 2, 0, 0, [], 0),
  (43, (.iadd, 1), 0, 0, 0, [], 0),
  (44, (.aload_n 0, 1), 0, 0, 0, [], 0),
  (45, (.getfield 13, 3), 10, 1, 0, [1, 4104], 0),
  (48, (.iconst 4, 1), 0, 0, 4, [], 0),
  (49, (.iload_n 2, 1), 2, 0, 0, [], 0),
  (50, (.iadd, 1), 0, 0, 0, [], 0),
  (51, (.iaload, 1), 20, 0, 0, [], 0),
  (52, (.iload_n 1, 1), 1, 0, 0, [], 0),
  (53, (.iadd, 1), 0, 0, 0, [], 0),
  (54, (.aload_n 0, 1), 0, 0, 0, [], 0),
  (55, (.invokevirtual 107, 3), 168, 1, 0, [0, 1, 4224], 0),
  (58, (.irem, 1), 0, 0, 0, [], 0),
  (59, (.iastore, 1), 0, 0, 0, [], 0),
  (60, (.iinc 2 1, 3), 2, 0, 1, [], 0),
  (63, (.goto (-34), 3), 29, 0, 0, [], 2),
  (66, (.aload_n 0, 1), 0, 0, 0, [], 0),
  (67, (.invokevirtual 99, 3), 169, 1, 0, [0, 1, 4231], 0),
  (70, (.ireturn, 1), 0, 0, 0, [], 0)])]
/-- LampPressesModel.wireMany()I -/
def lp_c193 : List (Nat × List lp_E) := [(44, [(0, (.iconst 0, 1), 0, 0, 0, [], 0),
  (1, (.istore_n 1, 1), 1, 0, 0, [], 0),
  (2, (.iconst 0, 1), 0, 0, 0, [], 0),
  (3, (.istore_n 2, 1), 2, 0, 0, [], 1),
  (4, (.iload_n 2, 1), 2, 0, 0, [], 0),
  (5, (.aload_n 0, 1), 0, 0, 0, [], 0),
  (6, (.invokevirtual 99, 3), 169, 1, 0, [0, 1, 4231], 0),
  (9, (.if_icmp .ge 38, 3), 47, 0, 0, [], 0),
  (12, (.iconst 0, 1), 0, 0, 0, [], 0),
  (13, (.istore_n 3, 1), 3, 0, 0, [], 1),
  (14, (.iload_n 3, 1), 3, 0, 0, [], 0),
  (15, (.iload_n 2, 1), 2, 0, 0, [], 0),
  (16, (.if_icmp .ge 25, 3), 41, 0, 0, [], 0),
  (19, (.aload_n 0, 1), 0, 0, 0, [], 0),
  (20, (.getfield 13, 3), 10, 1, 0, [1, 4104], 0),
  (23, (.iload_n 2, 1), 2, 0, 0, [], 0),
  (24, (.iload_n 3, 1), 3, 0, 0, [], 0),
  (25, (.invokestatic 110, 3), 172, 2, 0, [1, 1, 5002], 0),
  (28, (.iaload, 1), 20, 0, 0, [], 0),
  (29, (.ifCond .le 6, 3), 35, 0, 0, [], 0),
  (32, (.iinc 1 1, 3), 1, 0, 1, [], 0),
  (35, (.iinc 3 1, 3), 3, 0, 1, [], 0),
  (38, (.goto (-24), 3), 14, 0, 0, [], 2),
  (41, (.iinc 2 1, 3), 2, 0, 1, [], 0)]),
 (49, [(44, (.goto (-40), 3), 4, 0, 0, [], 2),
  (47, (.iload_n 1, 1), 1, 0, 0, [], 0),
  (48, (.ireturn, 1), 0, 0, 0, [], 0)])]
def lp_c194_0 : List lp_E := [(0, (.iload_n 1, 1), 1, 0, 0, [], 0),
  (1, (.iconst 2, 1), 0, 0, 2, [], 0),
  (2, (.aload_n 0, 1), 0, 0, 0, [], 0),
  (3, (.invokevirtual 107, 3), 168, 1, 0, [0, 1, 4224], 0),
  (6, (.iconst 1, 1), 0, 0, 1, [], 0),
  (7, (.isub, 1), 0, 0, 0, [], 0),
  (8, (.invokestatic 103, 3), 163, 3, 0, [1, 1, 4228], 0),
  (11, (.ifCond .ne 5, 3), 16, 0, 0, [], 0),
  (14, (.iconst (-1), 1), 0, 0, (-1), [], 0),
  (15, (.ireturn, 1), 0, 0, 0, [], 0),
  (16, (.aload_n 0, 1), 0, 0, 0, [], 0),
  (17, (.invokevirtual 165, 3), 193, 1, 0, [0, 1, 5140], 0),
  (20, (.istore_n 2, 1), 2, 0, 0, [], 0),
  (21, (.iconst 0, 1), 0, 0, 0, [], 0),
  (22, (.istore_n 3, 1), 3, 0, 0, [], 1),
  (23, (.iload_n 3, 1), 3, 0, 0, [], 0),
  (24, (.aload_n 0, 1), 0, 0, 0, [], 0),
  (25, (.invokevirtual 99, 3), 169, 1, 0, [0, 1, 4231], 0),
  (28, (.if_icmp .ge 24, 3), 52, 0, 0, [], 0),
  (31, (.aload_n 0, 1), 0, 0, 0, [], 0),
  (32, (.getfield 13, 3), 10, 1, 0, [1, 4104], 0),
  (35, (.bipush 14, 2), 0, 0, 14, [], 0),
  (37, (.iload_n 3, 1), 3, 0, 0, [], 0),
  (38, (.iadd, 1), 0, 0, 0, [], 0)]
def lp_c194_1 : List lp_E := [(39, (.iaload, 1), 20, 0, 0, [], 0),
  (40, (.ifCond .le 6, 3), 46, 0, 0, [], 0),
  (43, (.iinc 2 1, 3), 2, 0, 1, [], 0),
  (46, (.iinc 3 1, 3), 3, 0, 1, [], 0),
  (49, (.goto (-26), 3), 23, 0, 0, [], 2),
  (52, (.iload_n 2, 1), 2, 0, 0, [], 0),
  (53, (.ifCond .ne 5, 3), 58, 0, 0, [], 0),
  (56, (.iconst (-1), 1), 0, 0, (-1), [], 0),
  (57, (.ireturn, 1), 0, 0, 0, [], 0),
  (58, (.aload_n 0, 1), 0, 0, 0, [], 0),
  (59, (.invokevirtual 118, 3), 167, 1, 0, [0, 0, 4235], 0),
  (62, (.iconst 0, 1), 0, 0, 0, [], 0),
  (63, (.istore_n 3, 1), 3, 0, 0, [], 1),
  (64, (.iload_n 3, 1), 3, 0, 0, [], 0),
  (65, (.aload_n 0, 1), 0, 0, 0, [], 0),
  (66, (.invokevirtual 99, 3), 169, 1, 0, [0, 1, 4231], 0),
  (69, (.if_icmp .ge 81, 3), 150, 0, 0, [], 0),
  (72, (.aload_n 0, 1), 0, 0, 0, [], 0),
  (73, (.getfield 13, 3), 10, 1, 0, [1, 4104], 0),
  (76, (.bipush 14, 2), 0, 0, 14, [], 0),
  (78, (.iload_n 3, 1), 3, 0, 0, [], 0),
  (79, (.iadd, 1), 0, 0, 0, [], 0),
  (80, (.aload_n 0, 1), 0, 0, 0, [], 0),
  (81, (.getfield 13, 3), 10, 1, 0, [1, 4104], 0)]
def lp_c194_2 : List lp_E := [(84, (.bipush 14, 2), 0, 0, 14, [], 0),
  (86, (.iload_n 3, 1), 3, 0, 0, [], 0),
  (87, (.iadd, 1), 0, 0, 0, [], 0),
  (88, (.iaload, 1), 20, 0, 0, [], 0),
  (89, (.iload_n 1, 1), 1, 0, 0, [], 0),
  (90, (.imul, 1), 0, 0, 0, [], 0),
  (91, (.aload_n 0, 1), 0, 0, 0, [], 0),
  (92, (.invokevirtual 107, 3), 168, 1, 0, [0, 1, 4224], 0),
  (95, (.irem, 1), 0, 0, 0, [], 0),
  (96, (.iastore, 1), 0, 0, 0, [], 0),
  (97, (.iconst 0, 1), 0, 0, 0, [], 0),
  (98, (.istore 4, 2), 4, 0, 0, [], 1),
  (100, (.iload 4, 2), 4, 0, 0, [], 0),
  (102, (.aload_n 0, 1), 0, 0, 0, [], 0),
  (103, (.invokevirtual 99, 3), 169, 1, 0, [0, 1, 4231], 0),
  (106, (.if_icmp .ge 38, 3), 144, 0, 0, [], 0),
  (109, (.aload_n 0, 1), 0, 0, 0, [], 0),
  (110, (.getfield 13, 3), 10, 1, 0, [1, 4104], 0),
  (113, (.iload_n 3, 1), 3, 0, 0, [], 0),
  (114, (.iload 4, 2), 4, 0, 0, [], 0),
  (116, (.invokestatic 110, 3), 172, 2, 0, [1, 1, 5002], 0),
  (119, (.aload_n 0, 1), 0, 0, 0, [], 0),
  (120, (.getfield 13, 3), 10, 1, 0, [1, 4104], 0),
  (123, (.iload_n 3, 1), 3, 0, 0, [], 0)]
def lp_c194_3 : List lp_E := [(124, (.iload 4, 2), 4, 0, 0, [], 0),
  (126, (.invokestatic 110, 3), 172, 2, 0, [1, 1, 5002], 0),
  (129, (.iaload, 1), 20, 0, 0, [], 0),
  (130, (.iload_n 1, 1), 1, 0, 0, [], 0),
  (131, (.imul, 1), 0, 0, 0, [], 0),
  (132, (.aload_n 0, 1), 0, 0, 0, [], 0),
  (133, (.invokevirtual 107, 3), 168, 1, 0, [0, 1, 4224], 0),
  (136, (.irem, 1), 0, 0, 0, [], 0),
  (137, (.iastore, 1), 0, 0, 0, [], 0),
  (138, (.iinc 4 1, 3), 4, 0, 1, [], 0),
  (141, (.goto (-41), 3), 100, 0, 0, [], 2),
  (144, (.iinc 3 1, 3), 3, 0, 1, [], 0),
  (147, (.goto (-83), 3), 64, 0, 0, [], 2),
  (150, (.iload_n 2, 1), 2, 0, 0, [], 0),
  (151, (.ireturn, 1), 0, 0, 0, [], 0)]
/-- LampPressesModel.scale(I)I -/
def lp_c194 : List (Nat × List lp_E) := [(39, lp_c194_0), (84, lp_c194_1), (124, lp_c194_2), (152, lp_c194_3)]
/-- LampPressesModel.undo()I -/
def lp_c195 : List (Nat × List lp_E) := [(44, [(0, (.aload_n 0, 1), 0, 0, 0, [], 0),
  (1, (.getfield 96, 3), 10, 5, 0, [0, 4108], 0),
  (4, (.ifCond .ne 5, 3), 9, 0, 0, [], 0),
  (7, (.iconst (-1), 1), 0, 0, (-1), [], 0),
  (8, (.ireturn, 1), 0, 0, 0, [], 0),
  (9, (.aload_n 0, 1), 0, 0, 0, [], 0),
  (10, (.dup, 1), 0, 0, 0, [], 0),
  (11, (.getfield 96, 3), 10, 5, 0, [0, 4108], 0),
  (14, (.iconst 1, 1), 0, 0, 1, [], 0),
  (15, (.isub, 1), 0, 0, 0, [], 0),
  (16, (.putfield 96, 3), 10, 5, 0, [0, 4108, 0], 0),
  (19, (.iconst 0, 1), 0, 0, 0, [], 0),
  (20, (.istore_n 1, 1), 1, 0, 0, [], 1),
  (21, (.iload_n 1, 1), 1, 0, 0, [], 0),
  (22, (.sipush 174, 3), 0, 0, 174, [], 0),
  (25, (.if_icmp .ge 30, 3), 55, 0, 0, [], 0),
  (28, (.aload_n 0, 1), 0, 0, 0, [], 0),
  (29, (.getfield 13, 3), 10, 1, 0, [1, 4104], 0),
  (32, (.iload_n 1, 1), 1, 0, 0, [], 0),
  (33, (.aload_n 0, 1), 0, 0, 0, [], 0),
  (34, (.getfield 23, 3), 10, 4, 0, [1, 4107], 0),
  (37, (.sipush 174, 3), 0, 0, 174, [], 0),
  (40, (.aload_n 0, 1), 0, 0, 0, [], 0),
  (41, (.getfield 96, 3), 10, 5, 0, [0, 4108], 0)]),
 (60, [(44, (.imul, 1), 0, 0, 0, [], 0),
  (45, (.iload_n 1, 1), 1, 0, 0, [], 0),
  (46, (.iadd, 1), 0, 0, 0, [], 0),
  (47, (.iaload, 1), 20, 0, 0, [], 0),
  (48, (.iastore, 1), 0, 0, 0, [], 0),
  (49, (.iinc 1 1, 3), 1, 0, 1, [], 0),
  (52, (.goto (-31), 3), 21, 0, 0, [], 2),
  (55, (.aload_n 0, 1), 0, 0, 0, [], 0),
  (56, (.getfield 96, 3), 10, 5, 0, [0, 4108], 0),
  (59, (.ireturn, 1), 0, 0, 0, [], 0)])]
/-- LampPressesModel.spanAt(II)I -/
def lp_c196 : List (Nat × List lp_E) := [(10, [(0, (.bipush 10, 2), 0, 0, 10, [], 0),
  (2, (.bipush 10, 2), 0, 0, 10, [], 0),
  (4, (.iload_n 0, 1), 0, 0, 0, [], 0),
  (5, (.imul, 1), 0, 0, 0, [], 0),
  (6, (.iload_n 1, 1), 1, 0, 0, [], 0),
  (7, (.iadd, 1), 0, 0, 0, [], 0),
  (8, (.imul, 1), 0, 0, 0, [], 0),
  (9, (.ireturn, 1), 0, 0, 0, [], 0)])]
/-- LampPressesModel.fallsIn(I)Z -/
def lp_c197 : List (Nat × List lp_E) := [(39, [(0, (.iconst 1, 1), 0, 0, 1, [], 0),
  (1, (.istore_n 2, 1), 2, 0, 0, [], 0),
  (2, (.iconst 0, 1), 0, 0, 0, [], 0),
  (3, (.istore_n 3, 1), 3, 0, 0, [], 1),
  (4, (.iload_n 3, 1), 3, 0, 0, [], 0),
  (5, (.aload_n 0, 1), 0, 0, 0, [], 0),
  (6, (.invokevirtual 99, 3), 169, 1, 0, [0, 1, 4231], 0),
  (9, (.if_icmp .ge 103, 3), 112, 0, 0, [], 0),
  (12, (.aload_n 0, 1), 0, 0, 0, [], 0),
  (13, (.getfield 39, 3), 10, 10, 0, [1, 4113], 0),
  (16, (.iload_n 3, 1), 3, 0, 0, [], 0),
  (17, (.iaload, 1), 20, 0, 0, [], 0),
  (18, (.istore 4, 2), 4, 0, 0, [], 0),
  (20, (.iload 4, 2), 4, 0, 0, [], 0),
  (22, (.ifCond .ne 6, 3), 28, 0, 0, [], 0),
  (25, (.goto 81, 3), 106, 0, 0, [], 0),
  (28, (.aload_n 0, 1), 0, 0, 0, [], 0),
  (29, (.getfield 32, 3), 10, 8, 0, [1, 4111], 0),
  (32, (.bipush 10, 2), 0, 0, 10, [], 0),
  (34, (.iload_n 1, 1), 1, 0, 0, [], 0),
  (35, (.imul, 1), 0, 0, 0, [], 0),
  (36, (.iload_n 3, 1), 3, 0, 0, [], 0),
  (37, (.iadd, 1), 0, 0, 0, [], 0),
  (38, (.baload, 1), 22, 0, 0, [], 0)]),
 (84, [(39, (.ifCond .ne 8, 3), 47, 0, 0, [], 0),
  (42, (.iconst 0, 1), 0, 0, 0, [], 0),
  (43, (.istore_n 2, 1), 2, 0, 0, [], 0),
  (44, (.goto 62, 3), 106, 0, 0, [], 0),
  (47, (.iload_n 3, 1), 3, 0, 0, [], 0),
  (48, (.istore 5, 2), 5, 0, 0, [], 1),
  (50, (.iload 5, 2), 5, 0, 0, [], 0),
  (52, (.aload_n 0, 1), 0, 0, 0, [], 0),
  (53, (.invokevirtual 99, 3), 169, 1, 0, [0, 1, 4231], 0),
  (56, (.if_icmp .ge 50, 3), 106, 0, 0, [], 0),
  (59, (.aload_n 0, 1), 0, 0, 0, [], 0),
  (60, (.getfield 39, 3), 10, 10, 0, [1, 4113], 0),
  (63, (.iload 5, 2), 5, 0, 0, [], 0),
  (65, (.aload_n 0, 1), 0, 0, 0, [], 0),
  (66, (.getfield 39, 3), 10, 10, 0, [1, 4113], 0),
  (69, (.iload 5, 2), 5, 0, 0, [], 0),
  (71, (.iaload, 1), 20, 0, 0, [], 0),
  (72, (.aload_n 0, 1), 0, 0, 0, [], 0),
  (73, (.invokevirtual 107, 3), 168, 1, 0, [0, 1, 4224], 0),
  (76, (.iload 4, 2), 4, 0, 0, [], 0),
  (78, (.isub, 1), 0, 0, 0, [], 0),
  (79, (.aload_n 0, 1), 0, 0, 0, [], 0),
  (80, (.getfield 29, 3), 10, 7, 0, [1, 4110], 0),
  (83, (.iload_n 1, 1), 1, 0, 0, [], 0)]),
 (114, [(84, (.iload_n 3, 1), 3, 0, 0, [], 0),
  (85, (.invokestatic 168, 3), 196, 2, 0, [1, 1, 5087], 0),
  (88, (.iload 5, 2), 5, 0, 0, [], 0),
  (90, (.iadd, 1), 0, 0, 0, [], 0),
  (91, (.iaload, 1), 20, 0, 0, [], 0),
  (92, (.imul, 1), 0, 0, 0, [], 0),
  (93, (.iadd, 1), 0, 0, 0, [], 0),
  (94, (.aload_n 0, 1), 0, 0, 0, [], 0),
  (95, (.invokevirtual 107, 3), 168, 1, 0, [0, 1, 4224], 0),
  (98, (.irem, 1), 0, 0, 0, [], 0),
  (99, (.iastore, 1), 0, 0, 0, [], 0),
  (100, (.iinc 5 1, 3), 5, 0, 1, [], 0),
  (103, (.goto (-53), 3), 50, 0, 0, [], 2),
  (106, (.iinc 3 1, 3), 3, 0, 1, [], 0),
  (109, (.goto (-105), 3), 4, 0, 0, [], 2),
  (112, (.iload_n 2, 1), 2, 0, 0, [], 0),
  (113, (.ireturn, 1), 1, 0, 0, [], 0)])]
/-- LampPressesModel.inverse(I)I -/
def lp_c198 : List (Nat × List lp_E) := [(22, [(0, (.iconst 1, 1), 0, 0, 1, [], 0),
  (1, (.istore_n 2, 1), 2, 0, 0, [], 1),
  (2, (.iload_n 2, 1), 2, 0, 0, [], 0),
  (3, (.iload_n 1, 1), 1, 0, 0, [], 0),
  (4, (.imul, 1), 0, 0, 0, [], 0),
  (5, (.aload_n 0, 1), 0, 0, 0, [], 0),
  (6, (.invokevirtual 107, 3), 168, 1, 0, [0, 1, 4224], 0),
  (9, (.irem, 1), 0, 0, 0, [], 0),
  (10, (.iconst 1, 1), 0, 0, 1, [], 0),
  (11, (.if_icmp .eq 9, 3), 20, 0, 0, [], 0),
  (14, (.iinc 2 1, 3), 2, 0, 1, [], 0),
  (17, (.goto (-15), 3), 2, 0, 0, [], 2),
  (20, (.iload_n 2, 1), 2, 0, 0, [], 0),
  (21, (.ireturn, 1), 0, 0, 0, [], 0)])]
def lp_c199_0 : List lp_E := [(0, (.iconst 0, 1), 0, 0, 0, [], 0),
  (1, (.istore_n 3, 1), 3, 0, 0, [], 1),
  (2, (.iload_n 3, 1), 3, 0, 0, [], 0),
  (3, (.aload_n 0, 1), 0, 0, 0, [], 0),
  (4, (.invokevirtual 99, 3), 169, 1, 0, [0, 1, 4231], 0),
  (7, (.if_icmp .ge 24, 3), 31, 0, 0, [], 0),
  (10, (.aload_n 0, 1), 0, 0, 0, [], 0),
  (11, (.getfield 32, 3), 10, 8, 0, [1, 4111], 0),
  (14, (.bipush 10, 2), 0, 0, 10, [], 0),
  (16, (.aload_n 0, 1), 0, 0, 0, [], 0),
  (17, (.invokevirtual 99, 3), 169, 1, 0, [0, 1, 4231], 0),
  (20, (.imul, 1), 0, 0, 0, [], 0),
  (21, (.iload_n 3, 1), 3, 0, 0, [], 0),
  (22, (.iadd, 1), 0, 0, 0, [], 0),
  (23, (.iconst 0, 1), 0, 0, 0, [], 0),
  (24, (.bastore, 1), 22, 0, 0, [], 0),
  (25, (.iinc 3 1, 3), 3, 0, 1, [], 0),
  (28, (.goto (-26), 3), 2, 0, 0, [], 2),
  (31, (.aload_n 0, 1), 0, 0, 0, [], 0),
  (32, (.getfield 36, 3), 10, 9, 0, [1, 4112], 0),
  (35, (.aload_n 0, 1), 0, 0, 0, [], 0),
  (36, (.invokevirtual 99, 3), 169, 1, 0, [0, 1, 4231], 0),
  (39, (.iconst 0, 1), 0, 0, 0, [], 0),
  (40, (.iastore, 1), 0, 0, 0, [], 0)]
def lp_c199_1 : List lp_E := [(41, (.aload_n 0, 1), 0, 0, 0, [], 0),
  (42, (.invokevirtual 99, 3), 169, 1, 0, [0, 1, 4231], 0),
  (45, (.iconst 1, 1), 0, 0, 1, [], 0),
  (46, (.isub, 1), 0, 0, 0, [], 0),
  (47, (.istore_n 3, 1), 3, 0, 0, [], 1),
  (48, (.iload_n 3, 1), 3, 0, 0, [], 0),
  (49, (.ifCond .lt 184, 3), 233, 0, 0, [], 0),
  (52, (.iconst 0, 1), 0, 0, 0, [], 0),
  (53, (.istore 4, 2), 4, 0, 0, [], 1),
  (55, (.iload 4, 2), 4, 0, 0, [], 0),
  (57, (.aload_n 0, 1), 0, 0, 0, [], 0),
  (58, (.invokevirtual 99, 3), 169, 1, 0, [0, 1, 4231], 0),
  (61, (.if_icmp .ge 83, 3), 144, 0, 0, [], 0),
  (64, (.aload_n 0, 1), 0, 0, 0, [], 0),
  (65, (.getfield 32, 3), 10, 8, 0, [1, 4111], 0),
  (68, (.bipush 10, 2), 0, 0, 10, [], 0),
  (70, (.iload_n 3, 1), 3, 0, 0, [], 0),
  (71, (.imul, 1), 0, 0, 0, [], 0),
  (72, (.iload 4, 2), 4, 0, 0, [], 0),
  (74, (.iadd, 1), 0, 0, 0, [], 0),
  (75, (.aload_n 0, 1), 0, 0, 0, [], 0),
  (76, (.getfield 32, 3), 10, 8, 0, [1, 4111], 0),
  (79, (.bipush 10, 2), 0, 0, 10, [], 0),
  (81, (.iload_n 3, 1), 3, 0, 0, [], 0)]
def lp_c199_2 : List lp_E := [(82, (.iconst 1, 1), 0, 0, 1, [], 0),
  (83, (.iadd, 1), 0, 0, 0, [], 0),
  (84, (.imul, 1), 0, 0, 0, [], 0),
  (85, (.iload 4, 2), 4, 0, 0, [], 0),
  (87, (.iadd, 1), 0, 0, 0, [], 0),
  (88, (.baload, 1), 22, 0, 0, [], 0),
  (89, (.bastore, 1), 22, 0, 0, [], 0),
  (90, (.iconst 0, 1), 0, 0, 0, [], 0),
  (91, (.istore 5, 2), 5, 0, 0, [], 1),
  (93, (.iload 5, 2), 5, 0, 0, [], 0),
  (95, (.aload_n 0, 1), 0, 0, 0, [], 0),
  (96, (.invokevirtual 99, 3), 169, 1, 0, [0, 1, 4231], 0),
  (99, (.if_icmp .ge 39, 3), 138, 0, 0, [], 0),
  (102, (.aload_n 0, 1), 0, 0, 0, [], 0),
  (103, (.getfield 29, 3), 10, 7, 0, [1, 4110], 0),
  (106, (.iload_n 3, 1), 3, 0, 0, [], 0),
  (107, (.iload 4, 2), 4, 0, 0, [], 0),
  (109, (.invokestatic 168, 3), 196, 2, 0, [1, 1, 5087], 0),
  (112, (.iload 5, 2), 5, 0, 0, [], 0),
  (114, (.iadd, 1), 0, 0, 0, [], 0),
  (115, (.aload_n 0, 1), 0, 0, 0, [], 0),
  (116, (.getfield 29, 3), 10, 7, 0, [1, 4110], 0),
  (119, (.iload_n 3, 1), 3, 0, 0, [], 0),
  (120, (.iconst 1, 1), 0, 0, 1, [], 0)]
def lp_c199_3 : List lp_E := [(121, (.iadd, 1), 0, 0, 0, [], 0),
  (122, (.iload 4, 2), 4, 0, 0, [], 0),
  (124, (.invokestatic 168, 3), 196, 2, 0, [1, 1, 5087], 0),
  (127, (.iload 5, 2), 5, 0, 0, [], 0),
  (129, (.iadd, 1), 0, 0, 0, [], 0),
  (130, (.iaload, 1), 20, 0, 0, [], 0),
  (131, (.iastore, 1), 0, 0, 0, [], 0),
  (132, (.iinc 5 1, 3), 5, 0, 1, [], 0),
  (135, (.goto (-42), 3), 93, 0, 0, [], 2),
  (138, (.iinc 4 1, 3), 4, 0, 1, [], 0),
  (141, (.goto (-86), 3), 55, 0, 0, [], 2),
  (144, (.aload_n 0, 1), 0, 0, 0, [], 0),
  (145, (.getfield 36, 3), 10, 9, 0, [1, 4112], 0),
  (148, (.iload_n 3, 1), 3, 0, 0, [], 0),
  (149, (.aload_n 0, 1), 0, 0, 0, [], 0),
  (150, (.getfield 36, 3), 10, 9, 0, [1, 4112], 0),
  (153, (.iload_n 3, 1), 3, 0, 0, [], 0),
  (154, (.iconst 1, 1), 0, 0, 1, [], 0),
  (155, (.iadd, 1), 0, 0, 0, [], 0),
  (156, (.iaload, 1), 20, 0, 0, [], 0),
  (157, (.iastore, 1), 0, 0, 0, [], 0),
  (158, (.iload_n 1, 1), 1, 0, 0, [], 0),
  (159, (.iload_n 3, 1), 3, 0, 0, [], 0),
  (160, (.invokestatic 171, 3), 164, 2, 0, [1, 1, 5090], 0)]
def lp_c199_4 : List lp_E := [(163, (.ifCond .ne 6, 3), 169, 0, 0, [], 0),
  (166, (.goto 61, 3), 227, 0, 0, [], 0),
  (169, (.iconst 0, 1), 0, 0, 0, [], 0),
  (170, (.istore 4, 2), 4, 0, 0, [], 1),
  (172, (.iload 4, 2), 4, 0, 0, [], 0),
  (174, (.aload_n 0, 1), 0, 0, 0, [], 0),
  (175, (.invokevirtual 99, 3), 169, 1, 0, [0, 1, 4231], 0),
  (178, (.if_icmp .ge 36, 3), 214, 0, 0, [], 0),
  (181, (.aload_n 0, 1), 0, 0, 0, [], 0),
  (182, (.getfield 39, 3), 10, 10, 0, [1, 4113], 0),
  (185, (.iload 4, 2), 4, 0, 0, [], 0),
  (187, (.iload_n 2, 1), 2, 0, 0, [], 0),
  (188, (.iload 4, 2), 4, 0, 0, [], 0),
  (190, (.invokestatic 171, 3), 164, 2, 0, [1, 1, 5090], 0),
  (193, (.ifCond .eq 13, 3), 206, 0, 0, [], 0),
  (196, (.aload_n 0, 1), 0, 0, 0, [], 0),
  (197, (.iload_n 3, 1), 3, 0, 0, [], 0),
  (198, (.iload 4, 2), 4, 0, 0, [], 0),
  (200, (.invokevirtual 143, 3), 185, 3, 0, [0, 1, 5059], 0),
  (203, (.goto 4, 3), 207, 0, 0, [], 0),
  (206, (.iconst 0, 1), 0, 0, 0, [], 0),
  (207, (.iastore, 1), 0, 0, 0, [], 0),
  (208, (.iinc 4 1, 3), 4, 0, 1, [], 0),
  (211, (.goto (-39), 3), 172, 0, 0, [], 2)]
def lp_c199_5 : List lp_E := [(214, (.aload_n 0, 1), 0, 0, 0, [], 0),
  (215, (.iload_n 3, 1), 3, 0, 0, [], 0),
  (216, (.invokevirtual 175, 3), 197, 2, 0, [0, 1, 5093], 0),
  (219, (.ifCond .ne 8, 3), 227, 0, 0, [], 0),
  (222, (.aload_n 0, 1), 0, 0, 0, [], 0),
  (223, (.iload_n 3, 1), 3, 0, 0, [], 0),
  (224, (.invokevirtual 178, 3), 200, 2, 0, [0, 0, 5097], 0),
  (227, (.iinc 3 (-1), 3), 3, 0, (-1), [], 0),
  (230, (.goto (-182), 3), 48, 0, 0, [], 2),
  (233, (.return_, 1), 0, 0, 0, [], 0)]
/-- LampPressesModel.spans(II)V -/
def lp_c199 : List (Nat × List lp_E) := [(41, lp_c199_0), (82, lp_c199_1), (121, lp_c199_2), (163, lp_c199_3), (214, lp_c199_4), (234, lp_c199_5)]
/-- LampPressesModel.joins(I)V -/
def lp_c200 : List (Nat × List lp_E) := [(44, [(0, (.iconst 0, 1), 0, 0, 0, [], 0),
  (1, (.istore_n 2, 1), 2, 0, 0, [], 1),
  (2, (.aload_n 0, 1), 0, 0, 0, [], 0),
  (3, (.getfield 39, 3), 10, 10, 0, [1, 4113], 0),
  (6, (.iload_n 2, 1), 2, 0, 0, [], 0),
  (7, (.iaload, 1), 20, 0, 0, [], 0),
  (8, (.ifCond .ne 9, 3), 17, 0, 0, [], 0),
  (11, (.iinc 2 1, 3), 2, 0, 1, [], 0),
  (14, (.goto (-12), 3), 2, 0, 0, [], 2),
  (17, (.aload_n 0, 1), 0, 0, 0, [], 0),
  (18, (.aload_n 0, 1), 0, 0, 0, [], 0),
  (19, (.getfield 39, 3), 10, 10, 0, [1, 4113], 0),
  (22, (.iload_n 2, 1), 2, 0, 0, [], 0),
  (23, (.iaload, 1), 20, 0, 0, [], 0),
  (24, (.invokevirtual 182, 3), 198, 2, 0, [0, 1, 5101], 0),
  (27, (.istore_n 3, 1), 3, 0, 0, [], 0),
  (28, (.iconst 0, 1), 0, 0, 0, [], 0),
  (29, (.istore 4, 2), 4, 0, 0, [], 1),
  (31, (.iload 4, 2), 4, 0, 0, [], 0),
  (33, (.aload_n 0, 1), 0, 0, 0, [], 0),
  (34, (.invokevirtual 99, 3), 169, 1, 0, [0, 1, 4231], 0),
  (37, (.if_icmp .ge 36, 3), 73, 0, 0, [], 0),
  (40, (.aload_n 0, 1), 0, 0, 0, [], 0),
  (41, (.getfield 29, 3), 10, 7, 0, [1, 4110], 0)]),
 (83, [(44, (.iload_n 1, 1), 1, 0, 0, [], 0),
  (45, (.iload_n 2, 1), 2, 0, 0, [], 0),
  (46, (.invokestatic 168, 3), 196, 2, 0, [1, 1, 5087], 0),
  (49, (.iload 4, 2), 4, 0, 0, [], 0),
  (51, (.iadd, 1), 0, 0, 0, [], 0),
  (52, (.aload_n 0, 1), 0, 0, 0, [], 0),
  (53, (.getfield 39, 3), 10, 10, 0, [1, 4113], 0),
  (56, (.iload 4, 2), 4, 0, 0, [], 0),
  (58, (.iaload, 1), 20, 0, 0, [], 0),
  (59, (.iload_n 3, 1), 3, 0, 0, [], 0),
  (60, (.imul, 1), 0, 0, 0, [], 0),
  (61, (.aload_n 0, 1), 0, 0, 0, [], 0),
  (62, (.invokevirtual 107, 3), 168, 1, 0, [0, 1, 4224], 0),
  (65, (.irem, 1), 0, 0, 0, [], 0),
  (66, (.iastore, 1), 0, 0, 0, [], 0),
  (67, (.iinc 4 1, 3), 4, 0, 1, [], 0),
  (70, (.goto (-39), 3), 31, 0, 0, [], 2),
  (73, (.aload_n 0, 1), 0, 0, 0, [], 0),
  (74, (.getfield 32, 3), 10, 8, 0, [1, 4111], 0),
  (77, (.bipush 10, 2), 0, 0, 10, [], 0),
  (79, (.iload_n 1, 1), 1, 0, 0, [], 0),
  (80, (.imul, 1), 0, 0, 0, [], 0),
  (81, (.iload_n 2, 1), 2, 0, 0, [], 0),
  (82, (.iadd, 1), 0, 0, 0, [], 0)]),
 (96, [(83, (.iconst 1, 1), 0, 0, 1, [], 0),
  (84, (.bastore, 1), 22, 0, 0, [], 0),
  (85, (.aload_n 0, 1), 0, 0, 0, [], 0),
  (86, (.getfield 36, 3), 10, 9, 0, [1, 4112], 0),
  (89, (.iload_n 1, 1), 1, 0, 0, [], 0),
  (90, (.dup2, 1), 0, 0, 0, [], 0),
  (91, (.iaload, 1), 20, 0, 0, [], 0),
  (92, (.iconst 1, 1), 0, 0, 1, [], 0),
  (93, (.iadd, 1), 0, 0, 0, [], 0),
  (94, (.iastore, 1), 0, 0, 0, [], 0),
  (95, (.return_, 1), 0, 0, 0, [], 0)])]
/-- LampPressesModel.allLamps()I -/
def lp_c201 : List (Nat × List lp_E) := [(9, [(0, (.iconst 1, 1), 0, 0, 1, [], 0),
  (1, (.aload_n 0, 1), 0, 0, 0, [], 0),
  (2, (.invokevirtual 99, 3), 169, 1, 0, [0, 1, 4231], 0),
  (5, (.ishl, 1), 0, 0, 0, [], 0),
  (6, (.iconst 1, 1), 0, 0, 1, [], 0),
  (7, (.isub, 1), 0, 0, 0, [], 0),
  (8, (.ireturn, 1), 0, 0, 0, [], 0)])]
/-- LampPressesModel.power(I)I -/
def lp_c202 : List (Nat × List lp_E) := [(24, [(0, (.iconst 1, 1), 0, 0, 1, [], 0),
  (1, (.istore_n 2, 1), 2, 0, 0, [], 0),
  (2, (.iconst 0, 1), 0, 0, 0, [], 0),
  (3, (.istore_n 3, 1), 3, 0, 0, [], 1),
  (4, (.iload_n 3, 1), 3, 0, 0, [], 0),
  (5, (.iload_n 1, 1), 1, 0, 0, [], 0),
  (6, (.if_icmp .ge 16, 3), 22, 0, 0, [], 0),
  (9, (.iload_n 2, 1), 2, 0, 0, [], 0),
  (10, (.aload_n 0, 1), 0, 0, 0, [], 0),
  (11, (.invokevirtual 107, 3), 168, 1, 0, [0, 1, 4224], 0),
  (14, (.imul, 1), 0, 0, 0, [], 0),
  (15, (.istore_n 2, 1), 2, 0, 0, [], 0),
  (16, (.iinc 3 1, 3), 3, 0, 1, [], 0),
  (19, (.goto (-15), 3), 4, 0, 0, [], 2),
  (22, (.iload_n 2, 1), 2, 0, 0, [], 0),
  (23, (.ireturn, 1), 0, 0, 0, [], 0)])]
/-- LampPressesModel.wantsGoals()V -/
def lp_c203 : List (Nat × List lp_E) := [(37, [(0, (.iconst 0, 1), 0, 0, 0, [], 0),
  (1, (.istore_n 1, 1), 1, 0, 0, [], 1),
  (2, (.iload_n 1, 1), 1, 0, 0, [], 0),
  (3, (.aload_n 0, 1), 0, 0, 0, [], 0),
  (4, (.invokevirtual 99, 3), 169, 1, 0, [0, 1, 4231], 0),
  (7, (.if_icmp .ge 43, 3), 50, 0, 0, [], 0),
  (10, (.aload_n 0, 1), 0, 0, 0, [], 0),
  (11, (.getfield 42, 3), 10, 11, 0, [1, 4114], 0),
  (14, (.iload_n 1, 1), 1, 0, 0, [], 0),
  (15, (.aload_n 0, 1), 0, 0, 0, [], 0),
  (16, (.getfield 13, 3), 10, 1, 0, [1, 4104], 0),
  (19, (.bipush 24, 2), 0, 0, 24, [], 0),
  (21, (.iload_n 1, 1), 1, 0, 0, [], 0),
  (22, (.iadd, 1), 0, 0, 0, [], 0),
  (23, (.iaload, 1), 20, 0, 0, [], 0),
  (24, (.aload_n 0, 1), 0, 0, 0, [], 0),
  (25, (.invokevirtual 107, 3), 168, 1, 0, [0, 1, 4224], 0),
  (28, (.iadd, 1), 0, 0, 0, [], 0),
  (29, (.aload_n 0, 1), 0, 0, 0, [], 0),
  (30, (.getfield 13, 3), 10, 1, 0, [1, 4104], 0),
  (33, (.iconst 4, 1), 0, 0, 4, [], 0),
  (34, (.iload_n 1, 1), 1, 0, 0, [], 0),
  (35, (.iadd, 1), 0, 0, 0, [], 0),
  (36, (.iaload, 1), 20, 0, 0, [], 0)]),
 (51, [(37, (.isub, 1), 0, 0, 0, [], 0),
  (38, (.aload_n 0, 1), 0, 0, 0, [], 0),
  (39, (.invokevirtual 107, 3), 168, 1, 0, [0, 1, 4224], 0),
  (42, (.irem, 1), 0, 0, 0, [], 0),
  (43, (.iastore, 1), 0, 0, 0, [], 0),
  (44, (.iinc 1 1, 3), 1, 0, 1, [], 0),
  (47, (.goto (-45), 3), 2, 0, 0, [], 2),
  (50, (.return_, 1), 0, 0, 0, [], 0)])]
/-- LampPressesModel.isReached(I)Z -/
def lp_c204 : List (Nat × List lp_E) := [(34, [(0, (.iconst 0, 1), 0, 0, 0, [], 0),
  (1, (.istore_n 2, 1), 2, 0, 0, [], 1),
  (2, (.iload_n 2, 1), 2, 0, 0, [], 0),
  (3, (.aload_n 0, 1), 0, 0, 0, [], 0),
  (4, (.invokevirtual 99, 3), 169, 1, 0, [0, 1, 4231], 0),
  (7, (.if_icmp .ge 21, 3), 28, 0, 0, [], 0),
  (10, (.aload_n 0, 1), 0, 0, 0, [], 0),
  (11, (.getfield 39, 3), 10, 10, 0, [1, 4113], 0),
  (14, (.iload_n 2, 1), 2, 0, 0, [], 0),
  (15, (.aload_n 0, 1), 0, 0, 0, [], 0),
  (16, (.getfield 42, 3), 10, 11, 0, [1, 4114], 0),
  (19, (.iload_n 2, 1), 2, 0, 0, [], 0),
  (20, (.iaload, 1), 20, 0, 0, [], 0),
  (21, (.iastore, 1), 0, 0, 0, [], 0),
  (22, (.iinc 2 1, 3), 2, 0, 1, [], 0),
  (25, (.goto (-23), 3), 2, 0, 0, [], 2),
  (28, (.aload_n 0, 1), 0, 0, 0, [], 0),
  (29, (.iload_n 1, 1), 1, 0, 0, [], 0),
  (30, (.invokevirtual 175, 3), 197, 2, 0, [0, 1, 5093], 0),
  (33, (.ireturn, 1), 1, 0, 0, [], 0)])]
/-- LampPressesModel.wantsLess(II)V -/
def lp_c205 : List (Nat × List lp_E) := [(36, [(0, (.iconst 0, 1), 0, 0, 0, [], 0),
  (1, (.istore_n 3, 1), 3, 0, 0, [], 1),
  (2, (.iload_n 3, 1), 3, 0, 0, [], 0),
  (3, (.aload_n 0, 1), 0, 0, 0, [], 0),
  (4, (.invokevirtual 99, 3), 169, 1, 0, [0, 1, 4231], 0),
  (7, (.if_icmp .ge 40, 3), 47, 0, 0, [], 0),
  (10, (.aload_n 0, 1), 0, 0, 0, [], 0),
  (11, (.getfield 42, 3), 10, 11, 0, [1, 4114], 0),
  (14, (.iload_n 3, 1), 3, 0, 0, [], 0),
  (15, (.aload_n 0, 1), 0, 0, 0, [], 0),
  (16, (.getfield 42, 3), 10, 11, 0, [1, 4114], 0),
  (19, (.iload_n 3, 1), 3, 0, 0, [], 0),
  (20, (.iaload, 1), 20, 0, 0, [], 0),
  (21, (.aload_n 0, 1), 0, 0, 0, [], 0),
  (22, (.invokevirtual 107, 3), 168, 1, 0, [0, 1, 4224], 0),
  (25, (.iload_n 2, 1), 2, 0, 0, [], 0),
  (26, (.isub, 1), 0, 0, 0, [], 0),
  (27, (.aload_n 0, 1), 0, 0, 0, [], 0),
  (28, (.iload_n 1, 1), 1, 0, 0, [], 0),
  (29, (.iload_n 3, 1), 3, 0, 0, [], 0),
  (30, (.invokevirtual 143, 3), 185, 3, 0, [0, 1, 5059], 0),
  (33, (.imul, 1), 0, 0, 0, [], 0),
  (34, (.iadd, 1), 0, 0, 0, [], 0),
  (35, (.aload_n 0, 1), 0, 0, 0, [], 0)]),
 (48, [(36, (.invokevirtual 107, 3), 168, 1, 0, [0, 1, 4224], 0),
  (39, (.irem, 1), 0, 0, 0, [], 0),
  (40, (.iastore, 1), 0, 0, 0, [], 0),
  (41, (.iinc 3 1, 3), 3, 0, 1, [], 0),
  (44, (.goto (-42), 3), 2, 0, 0, [], 2),
  (47, (.return_, 1), 0, 0, 0, [], 0)])]
/-- LampPressesModel.rowFrom(I[I)V -/
def lp_c206 : List (Nat × List lp_E) := [(34, [(0, (.iload_n 1, 1), 1, 0, 0, [], 0),
  (1, (.istore_n 3, 1), 3, 0, 0, [], 1),
  (2, (.iload_n 3, 1), 3, 0, 0, [], 0),
  (3, (.aload_n 0, 1), 0, 0, 0, [], 0),
  (4, (.invokevirtual 99, 3), 169, 1, 0, [0, 1, 4231], 0),
  (7, (.if_icmp .ge 39, 3), 46, 0, 0, [], 0),
  (10, (.aload_n 2, 1), 2, 0, 0, [], 0),
  (11, (.iload_n 3, 1), 3, 0, 0, [], 0),
  (12, (.iconst 0, 1), 0, 0, 0, [], 0),
  (13, (.iastore, 1), 0, 0, 0, [], 1),
  (14, (.aload_n 0, 1), 0, 0, 0, [], 0),
  (15, (.iload_n 3, 1), 3, 0, 0, [], 0),
  (16, (.iconst 1, 1), 0, 0, 1, [], 0),
  (17, (.iadd, 1), 0, 0, 0, [], 0),
  (18, (.invokevirtual 186, 3), 204, 2, 0, [0, 1, 5109], 0),
  (21, (.ifCond .ne 19, 3), 40, 0, 0, [], 0),
  (24, (.aload_n 0, 1), 0, 0, 0, [], 0),
  (25, (.iload_n 3, 1), 3, 0, 0, [], 0),
  (26, (.iconst 1, 1), 0, 0, 1, [], 0),
  (27, (.invokevirtual 189, 3), 205, 3, 0, [0, 0, 5117], 0),
  (30, (.aload_n 2, 1), 2, 0, 0, [], 0),
  (31, (.iload_n 3, 1), 3, 0, 0, [], 0),
  (32, (.dup2, 1), 0, 0, 0, [], 0),
  (33, (.iaload, 1), 20, 0, 0, [], 0)]),
 (47, [(34, (.iconst 1, 1), 0, 0, 1, [], 0),
  (35, (.iadd, 1), 0, 0, 0, [], 0),
  (36, (.iastore, 1), 0, 0, 0, [], 0),
  (37, (.goto (-23), 3), 14, 0, 0, [], 2),
  (40, (.iinc 3 1, 3), 3, 0, 1, [], 0),
  (43, (.goto (-41), 3), 2, 0, 0, [], 2),
  (46, (.return_, 1), 0, 0, 0, [], 0)])]
/-- LampPressesModel.findsPlan([I)Z -/
def lp_c207 : List (Nat × List lp_E) := [(34, [(0, (.aload_n 0, 1), 0, 0, 0, [], 0),
  (1, (.aload_n 0, 1), 0, 0, 0, [], 0),
  (2, (.invokevirtual 192, 3), 201, 1, 0, [0, 1, 5079], 0),
  (5, (.aload_n 0, 1), 0, 0, 0, [], 0),
  (6, (.invokevirtual 192, 3), 201, 1, 0, [0, 1, 5079], 0),
  (9, (.invokevirtual 195, 3), 199, 3, 0, [0, 0, 5083], 0),
  (12, (.aload_n 0, 1), 0, 0, 0, [], 0),
  (13, (.invokevirtual 198, 3), 203, 1, 0, [0, 0, 5105], 0),
  (16, (.aload_n 0, 1), 0, 0, 0, [], 0),
  (17, (.iconst 0, 1), 0, 0, 0, [], 0),
  (18, (.invokevirtual 186, 3), 204, 2, 0, [0, 1, 5109], 0),
  (21, (.ifCond .ne 5, 3), 26, 0, 0, [], 0),
  (24, (.iconst 0, 1), 0, 0, 0, [], 0),
  (25, (.ireturn, 1), 1, 0, 0, [], 0),
  (26, (.aload_n 0, 1), 0, 0, 0, [], 0),
  (27, (.iconst 0, 1), 0, 0, 0, [], 0),
  (28, (.aload_n 1, 1), 1, 0, 0, [], 0),
  (29, (.invokevirtual 201, 3), 206, 3, 0, [0, 0, 5113], 0),
  (32, (.iconst 1, 1), 0, 0, 1, [], 0),
  (33, (.ireturn, 1), 1, 0, 0, [], 0)])]
/-- LampPressesModel.sumOf([I)I -/
def lp_c208 : List (Nat × List lp_E) := [(26, [(0, (.iconst 0, 1), 0, 0, 0, [], 0),
  (1, (.istore_n 2, 1), 2, 0, 0, [], 0),
  (2, (.iconst 0, 1), 0, 0, 0, [], 0),
  (3, (.istore_n 3, 1), 3, 0, 0, [], 1),
  (4, (.iload_n 3, 1), 3, 0, 0, [], 0),
  (5, (.aload_n 0, 1), 0, 0, 0, [], 0),
  (6, (.invokevirtual 99, 3), 169, 1, 0, [0, 1, 4231], 0),
  (9, (.if_icmp .ge 15, 3), 24, 0, 0, [], 0),
  (12, (.iload_n 2, 1), 2, 0, 0, [], 0),
  (13, (.aload_n 1, 1), 1, 0, 0, [], 0),
  (14, (.iload_n 3, 1), 3, 0, 0, [], 0),
  (15, (.iaload, 1), 20, 0, 0, [], 0),
  (16, (.iadd, 1), 0, 0, 0, [], 0),
  (17, (.istore_n 2, 1), 2, 0, 0, [], 0),
  (18, (.iinc 3 1, 3), 3, 0, 1, [], 0),
  (21, (.goto (-17), 3), 4, 0, 0, [], 2),
  (24, (.iload_n 2, 1), 2, 0, 0, [], 0),
  (25, (.ireturn, 1), 0, 0, 0, [], 0)])]
def lp_c209_0 : List lp_E := [(0, (.aload_n 0, 1), 0, 0, 0, [], 0),
  (1, (.iconst 0, 1), 0, 0, 0, [], 0),
  (2, (.putfield 205, 3), 10, 16, 0, [0, 4119, 0], 0),
  (5, (.iconst 0, 1), 0, 0, 0, [], 0),
  (6, (.istore_n 1, 1), 1, 0, 0, [], 1),
  (7, (.iload_n 1, 1), 1, 0, 0, [], 0),
  (8, (.aload_n 0, 1), 0, 0, 0, [], 0),
  (9, (.invokevirtual 99, 3), 169, 1, 0, [0, 1, 4231], 0),
  (12, (.if_icmp .ge 161, 3), 173, 0, 0, [], 0),
  (15, (.aload_n 0, 1), 0, 0, 0, [], 0),
  (16, (.getfield 36, 3), 10, 9, 0, [1, 4112], 0),
  (19, (.iload_n 1, 1), 1, 0, 0, [], 0),
  (20, (.iaload, 1), 20, 0, 0, [], 0),
  (21, (.aload_n 0, 1), 0, 0, 0, [], 0),
  (22, (.getfield 36, 3), 10, 9, 0, [1, 4112], 0),
  (25, (.iload_n 1, 1), 1, 0, 0, [], 0),
  (26, (.iconst 1, 1), 0, 0, 1, [], 0),
  (27, (.iadd, 1), 0, 0, 0, [], 0),
  (28, (.iaload, 1), 20, 0, 0, [], 0),
  (29, (.if_icmp .le 6, 3), 35, 0, 0, [], 0),
  (32, (.goto 135, 3), 167, 0, 0, [], 0),
  (35, (.iconst 0, 1), 0, 0, 0, [], 0),
  (36, (.istore_n 2, 1), 2, 0, 0, [], 1),
  (37, (.iload_n 2, 1), 2, 0, 0, [], 0)]
def lp_c209_1 : List lp_E := [(38, (.aload_n 0, 1), 0, 0, 0, [], 0),
  (39, (.invokevirtual 99, 3), 169, 1, 0, [0, 1, 4231], 0),
  (42, (.if_icmp .ge 31, 3), 73, 0, 0, [], 0),
  (45, (.aload_n 0, 1), 0, 0, 0, [], 0),
  (46, (.getfield 42, 3), 10, 11, 0, [1, 4114], 0),
  (49, (.iload_n 2, 1), 2, 0, 0, [], 0),
  (50, (.aload_n 0, 1), 0, 0, 0, [], 0),
  (51, (.invokevirtual 107, 3), 168, 1, 0, [0, 1, 4224], 0),
  (54, (.aload_n 0, 1), 0, 0, 0, [], 0),
  (55, (.iload_n 1, 1), 1, 0, 0, [], 0),
  (56, (.iload_n 2, 1), 2, 0, 0, [], 0),
  (57, (.invokevirtual 143, 3), 185, 3, 0, [0, 1, 5059], 0),
  (60, (.isub, 1), 0, 0, 0, [], 0),
  (61, (.aload_n 0, 1), 0, 0, 0, [], 0),
  (62, (.invokevirtual 107, 3), 168, 1, 0, [0, 1, 4224], 0),
  (65, (.irem, 1), 0, 0, 0, [], 0),
  (66, (.iastore, 1), 0, 0, 0, [], 0),
  (67, (.iinc 2 1, 3), 2, 0, 1, [], 0),
  (70, (.goto (-33), 3), 37, 0, 0, [], 2),
  (73, (.iconst 0, 1), 0, 0, 0, [], 0),
  (74, (.istore_n 2, 1), 2, 0, 0, [], 1),
  (75, (.iload_n 2, 1), 2, 0, 0, [], 0),
  (76, (.iload_n 1, 1), 1, 0, 0, [], 0),
  (77, (.if_icmp .ge 16, 3), 93, 0, 0, [], 0)]
def lp_c209_2 : List lp_E := [(80, (.aload_n 0, 1), 0, 0, 0, [], 0),
  (81, (.getfield 54, 3), 10, 15, 0, [1, 4118], 0),
  (84, (.iload_n 2, 1), 2, 0, 0, [], 0),
  (85, (.iconst 0, 1), 0, 0, 0, [], 0),
  (86, (.iastore, 1), 0, 0, 0, [], 0),
  (87, (.iinc 2 1, 3), 2, 0, 1, [], 0),
  (90, (.goto (-15), 3), 75, 0, 0, [], 2),
  (93, (.aload_n 0, 1), 0, 0, 0, [], 0),
  (94, (.getfield 54, 3), 10, 15, 0, [1, 4118], 0),
  (97, (.iload_n 1, 1), 1, 0, 0, [], 0),
  (98, (.iconst 1, 1), 0, 0, 1, [], 0),
  (99, (.iastore, 1), 0, 0, 0, [], 0),
  (100, (.aload_n 0, 1), 0, 0, 0, [], 0),
  (101, (.iload_n 1, 1), 1, 0, 0, [], 0),
  (102, (.iconst 1, 1), 0, 0, 1, [], 0),
  (103, (.iadd, 1), 0, 0, 0, [], 0),
  (104, (.aload_n 0, 1), 0, 0, 0, [], 0),
  (105, (.getfield 54, 3), 10, 15, 0, [1, 4118], 0),
  (108, (.invokevirtual 201, 3), 206, 3, 0, [0, 0, 5113], 0),
  (111, (.iconst 0, 1), 0, 0, 0, [], 0),
  (112, (.istore_n 2, 1), 2, 0, 0, [], 1),
  (113, (.iload_n 2, 1), 2, 0, 0, [], 0),
  (114, (.aload_n 0, 1), 0, 0, 0, [], 0),
  (115, (.invokevirtual 99, 3), 169, 1, 0, [0, 1, 4231], 0)]
def lp_c209_3 : List lp_E := [(118, (.if_icmp .ge 29, 3), 147, 0, 0, [], 0),
  (121, (.aload_n 0, 1), 0, 0, 0, [], 0),
  (122, (.getfield 48, 3), 10, 13, 0, [1, 4116], 0),
  (125, (.bipush 10, 2), 0, 0, 10, [], 0),
  (127, (.aload_n 0, 1), 0, 0, 0, [], 0),
  (128, (.getfield 205, 3), 10, 16, 0, [0, 4119], 0),
  (131, (.imul, 1), 0, 0, 0, [], 0),
  (132, (.iload_n 2, 1), 2, 0, 0, [], 0),
  (133, (.iadd, 1), 0, 0, 0, [], 0),
  (134, (.aload_n 0, 1), 0, 0, 0, [], 0),
  (135, (.getfield 54, 3), 10, 15, 0, [1, 4118], 0),
  (138, (.iload_n 2, 1), 2, 0, 0, [], 0),
  (139, (.iaload, 1), 20, 0, 0, [], 0),
  (140, (.iastore, 1), 0, 0, 0, [], 0),
  (141, (.iinc 2 1, 3), 2, 0, 1, [], 0),
  (144, (.goto (-31), 3), 113, 0, 0, [], 2),
  (147, (.aload_n 0, 1), 0, 0, 0, [], 0),
  (148, (.getfield 51, 3), 10, 14, 0, [1, 4117], 0),
  (151, (.aload_n 0, 1), 0, 0, 0, [], 0),
  (152, (.getfield 205, 3), 10, 16, 0, [0, 4119], 0),
  (155, (.iload_n 1, 1), 1, 0, 0, [], 0),
  (156, (.iastore, 1), 0, 0, 0, [], 0),
  (157, (.aload_n 0, 1), 0, 0, 0, [], 0),
  (158, (.dup, 1), 0, 0, 0, [], 0)]
def lp_c209_4 : List lp_E := [(159, (.getfield 205, 3), 10, 16, 0, [0, 4119], 0),
  (162, (.iconst 1, 1), 0, 0, 1, [], 0),
  (163, (.iadd, 1), 0, 0, 0, [], 0),
  (164, (.putfield 205, 3), 10, 16, 0, [0, 4119, 0], 0),
  (167, (.iinc 1 1, 3), 1, 0, 1, [], 0),
  (170, (.goto (-163), 3), 7, 0, 0, [], 2),
  (173, (.return_, 1), 0, 0, 0, [], 0)]
/-- LampPressesModel.laysBases()V -/
def lp_c209 : List (Nat × List lp_E) := [(38, lp_c209_0), (80, lp_c209_1), (118, lp_c209_2), (159, lp_c209_3), (174, lp_c209_4)]
/-- LampPressesModel.of(II)I -/
def lp_c210 : List (Nat × List lp_E) := [(41, [(0, (.aload_n 0, 1), 0, 0, 0, [], 0),
  (1, (.iload_n 1, 1), 1, 0, 0, [], 0),
  (2, (.invokevirtual 129, 3), 170, 2, 0, [0, 1, 5009], 0),
  (5, (.ifCond .ne 5, 3), 10, 0, 0, [], 0),
  (8, (.iconst (-1), 1), 0, 0, (-1), [], 0),
  (9, (.ireturn, 1), 0, 0, 0, [], 0),
  (10, (.iconst 0, 1), 0, 0, 0, [], 0),
  (11, (.istore_n 3, 1), 3, 0, 0, [], 0),
  (12, (.iconst 0, 1), 0, 0, 0, [], 0),
  (13, (.istore 4, 2), 4, 0, 0, [], 0),
  (15, (.iconst 0, 1), 0, 0, 0, [], 0),
  (16, (.istore 5, 2), 5, 0, 0, [], 0),
  (18, (.iconst 0, 1), 0, 0, 0, [], 0),
  (19, (.istore 6, 2), 6, 0, 0, [], 1),
  (21, (.iload 6, 2), 6, 0, 0, [], 0),
  (23, (.aload_n 0, 1), 0, 0, 0, [], 0),
  (24, (.invokevirtual 99, 3), 169, 1, 0, [0, 1, 4231], 0),
  (27, (.if_icmp .ge 49, 3), 76, 0, 0, [], 0),
  (30, (.aload_n 0, 1), 0, 0, 0, [], 0),
  (31, (.getfield 13, 3), 10, 1, 0, [1, 4104], 0),
  (34, (.iload_n 1, 1), 1, 0, 0, [], 0),
  (35, (.iload 6, 2), 6, 0, 0, [], 0),
  (37, (.invokestatic 110, 3), 172, 2, 0, [1, 1, 5002], 0),
  (40, (.iaload, 1), 20, 0, 0, [], 0)]),
 (123, [(41, (.istore 7, 2), 7, 0, 0, [], 0),
  (43, (.iload 4, 2), 4, 0, 0, [], 0),
  (45, (.iload 7, 2), 7, 0, 0, [], 0),
  (47, (.iadd, 1), 0, 0, 0, [], 0),
  (48, (.istore 4, 2), 4, 0, 0, [], 0),
  (50, (.iload 7, 2), 7, 0, 0, [], 0),
  (52, (.ifCond .ne 6, 3), 58, 0, 0, [], 0),
  (55, (.goto 15, 3), 70, 0, 0, [], 0),
  (58, (.iinc 3 1, 3), 3, 0, 1, [], 0),
  (61, (.iload 5, 2), 5, 0, 0, [], 0),
  (63, (.iconst 1, 1), 0, 0, 1, [], 0),
  (64, (.iload 6, 2), 6, 0, 0, [], 0),
  (66, (.ishl, 1), 0, 0, 0, [], 0),
  (67, (.ior, 1), 0, 0, 0, [], 0),
  (68, (.istore 5, 2), 5, 0, 0, [], 0),
  (70, (.iinc 6 1, 3), 6, 0, 1, [], 0),
  (73, (.goto (-52), 3), 21, 0, 0, [], 2),
  (76, (.iload_n 2, 1), 2, 0, 0, [], 1),
  (77, (.tableswitch 76 0 5 #[39, 48, 58, 68, 70, 73], 39), 153, 6, 0, [116, 125, 135, 145, 147, 150], 0),
  (116, (.aload_n 0, 1), 0, 0, 0, [], 0),
  (117, (.getfield 13, 3), 10, 1, 0, [1, 4104], 0),
  (120, (.iconst 4, 1), 0, 0, 4, [], 0),
  (121, (.iload_n 1, 1), 1, 0, 0, [], 0),
  (122, (.iadd, 1), 0, 0, 0, [], 0)]),
 (155, [(123, (.iaload, 1), 20, 0, 0, [], 0),
  (124, (.ireturn, 1), 0, 0, 0, [], 0),
  (125, (.aload_n 0, 1), 0, 0, 0, [], 0),
  (126, (.getfield 13, 3), 10, 1, 0, [1, 4104], 0),
  (129, (.bipush 14, 2), 0, 0, 14, [], 0),
  (131, (.iload_n 1, 1), 1, 0, 0, [], 0),
  (132, (.iadd, 1), 0, 0, 0, [], 0),
  (133, (.iaload, 1), 20, 0, 0, [], 0),
  (134, (.ireturn, 1), 0, 0, 0, [], 0),
  (135, (.aload_n 0, 1), 0, 0, 0, [], 0),
  (136, (.getfield 13, 3), 10, 1, 0, [1, 4104], 0),
  (139, (.bipush 24, 2), 0, 0, 24, [], 0),
  (141, (.iload_n 1, 1), 1, 0, 0, [], 0),
  (142, (.iadd, 1), 0, 0, 0, [], 0),
  (143, (.iaload, 1), 20, 0, 0, [], 0),
  (144, (.ireturn, 1), 0, 0, 0, [], 0),
  (145, (.iload_n 3, 1), 3, 0, 0, [], 0),
  (146, (.ireturn, 1), 0, 0, 0, [], 0),
  (147, (.iload 5, 2), 5, 0, 0, [], 0),
  (149, (.ireturn, 1), 0, 0, 0, [], 0),
  (150, (.iload 4, 2), 4, 0, 0, [], 0),
  (152, (.ireturn, 1), 0, 0, 0, [], 0),
  (153, (.iconst (-1), 1), 0, 0, (-1), [], 0),
  (154, (.ireturn, 1), 0, 0, 0, [], 0)])]
/-- LampPressesModel.weight(II)I -/
def lp_c211 : List (Nat × List lp_E) := [(27, [(0, (.aload_n 0, 1), 0, 0, 0, [], 0),
  (1, (.iload_n 1, 1), 1, 0, 0, [], 0),
  (2, (.invokevirtual 129, 3), 170, 2, 0, [0, 1, 5009], 0),
  (5, (.ifCond .eq 20, 3), 25, 0, 0, [], 0),
  (8, (.aload_n 0, 1), 0, 0, 0, [], 0),
  (9, (.iload_n 2, 1), 2, 0, 0, [], 0),
  (10, (.invokevirtual 129, 3), 170, 2, 0, [0, 1, 5009], 0),
  (13, (.ifCond .eq 12, 3), 25, 0, 0, [], 0),
  (16, (.aload_n 0, 1), 0, 0, 0, [], 0),
  (17, (.iload_n 1, 1), 1, 0, 0, [], 0),
  (18, (.iload_n 2, 1), 2, 0, 0, [], 0),
  (19, (.invokevirtual 143, 3), 185, 3, 0, [0, 1, 5059], 0),
  (22, (.goto 4, 3), 26, 0, 0, [], 0),
  (25, (.iconst (-1), 1), 0, 0, (-1), [], 0),
  (26, (.ireturn, 1), 0, 0, 0, [], 0)])]
/-- LampPressesModel.rankNow()I -/
def lp_c212 : List (Nat × List lp_E) := [(19, [(0, (.aload_n 0, 1), 0, 0, 0, [], 0),
  (1, (.aload_n 0, 1), 0, 0, 0, [], 0),
  (2, (.invokevirtual 192, 3), 201, 1, 0, [0, 1, 5079], 0),
  (5, (.aload_n 0, 1), 0, 0, 0, [], 0),
  (6, (.invokevirtual 192, 3), 201, 1, 0, [0, 1, 5079], 0),
  (9, (.invokevirtual 195, 3), 199, 3, 0, [0, 0, 5083], 0),
  (12, (.aload_n 0, 1), 0, 0, 0, [], 0),
  (13, (.getfield 36, 3), 10, 9, 0, [1, 4112], 0),
  (16, (.iconst 0, 1), 0, 0, 0, [], 0),
  (17, (.iaload, 1), 20, 0, 0, [], 0),
  (18, (.ireturn, 1), 0, 0, 0, [], 0)])]
/-- LampPressesModel.rank()I -/
def lp_c213 : List (Nat × List lp_E) := [(5, [(0, (.aload_n 0, 1), 0, 0, 0, [], 0),
  (1, (.invokevirtual 208, 3), 212, 1, 0, [0, 1, 5160], 0),
  (4, (.ireturn, 1), 0, 0, 0, [], 0)])]
/-- LampPressesModel.quiet()I -/
def lp_c214 : List (Nat × List lp_E) := [(14, [(0, (.aload_n 0, 1), 0, 0, 0, [], 0),
  (1, (.aload_n 0, 1), 0, 0, 0, [], 0),
  (2, (.invokevirtual 99, 3), 169, 1, 0, [0, 1, 4231], 0),
  (5, (.aload_n 0, 1), 0, 0, 0, [], 0),
  (6, (.invokevirtual 208, 3), 212, 1, 0, [0, 1, 5160], 0),
  (9, (.isub, 1), 0, 0, 0, [], 0),
  (10, (.invokevirtual 211, 3), 202, 2, 0, [0, 1, 5168], 0),
  (13, (.ireturn, 1), 0, 0, 0, [], 0)])]
/-- LampPressesModel.base(II)I -/
def lp_c215 : List (Nat × List lp_E) := [(45, [(0, (.iload_n 1, 1), 1, 0, 0, [], 0),
  (1, (.ifCond .lt 11, 3), 12, 0, 0, [], 0),
  (4, (.aload_n 0, 1), 0, 0, 0, [], 0),
  (5, (.iload_n 2, 1), 2, 0, 0, [], 0),
  (6, (.invokevirtual 129, 3), 170, 2, 0, [0, 1, 5009], 0),
  (9, (.ifCond .ne 5, 3), 14, 0, 0, [], 0),
  (12, (.iconst (-1), 1), 0, 0, (-1), [], 0),
  (13, (.ireturn, 1), 0, 0, 0, [], 0),
  (14, (.aload_n 0, 1), 0, 0, 0, [], 0),
  (15, (.aload_n 0, 1), 0, 0, 0, [], 0),
  (16, (.invokevirtual 192, 3), 201, 1, 0, [0, 1, 5079], 0),
  (19, (.aload_n 0, 1), 0, 0, 0, [], 0),
  (20, (.invokevirtual 192, 3), 201, 1, 0, [0, 1, 5079], 0),
  (23, (.invokevirtual 195, 3), 199, 3, 0, [0, 0, 5083], 0),
  (26, (.aload_n 0, 1), 0, 0, 0, [], 0),
  (27, (.invokevirtual 214, 3), 209, 1, 0, [0, 0, 5176], 0),
  (30, (.iload_n 1, 1), 1, 0, 0, [], 0),
  (31, (.aload_n 0, 1), 0, 0, 0, [], 0),
  (32, (.getfield 205, 3), 10, 16, 0, [0, 4119], 0),
  (35, (.if_icmp .ge 17, 3), 52, 0, 0, [], 0),
  (38, (.aload_n 0, 1), 0, 0, 0, [], 0),
  (39, (.getfield 48, 3), 10, 13, 0, [1, 4116], 0),
  (42, (.bipush 10, 2), 0, 0, 10, [], 0),
  (44, (.iload_n 1, 1), 1, 0, 0, [], 0)]),
 (54, [(45, (.imul, 1), 0, 0, 0, [], 0),
  (46, (.iload_n 2, 1), 2, 0, 0, [], 0),
  (47, (.iadd, 1), 0, 0, 0, [], 0),
  (48, (.iaload, 1), 20, 0, 0, [], 0),
  (49, (.goto 4, 3), 53, 0, 0, [], 0),
  (52, (.iconst (-1), 1), 0, 0, (-1), [], 0),
  (53, (.ireturn, 1), 0, 0, 0, [], 0)])]
/-- LampPressesModel.planMany()I -/
def lp_c216 : List (Nat × List lp_E) := [(31, [(0, (.aload_n 0, 1), 0, 0, 0, [], 0),
  (1, (.aload_n 0, 1), 0, 0, 0, [], 0),
  (2, (.getfield 45, 3), 10, 12, 0, [1, 4115], 0),
  (5, (.invokevirtual 153, 3), 207, 2, 0, [0, 1, 5075], 0),
  (8, (.ifCond .eq 21, 3), 29, 0, 0, [], 0),
  (11, (.aload_n 0, 1), 0, 0, 0, [], 0),
  (12, (.aload_n 0, 1), 0, 0, 0, [], 0),
  (13, (.invokevirtual 99, 3), 169, 1, 0, [0, 1, 4231], 0),
  (16, (.aload_n 0, 1), 0, 0, 0, [], 0),
  (17, (.getfield 36, 3), 10, 9, 0, [1, 4112], 0),
  (20, (.iconst 0, 1), 0, 0, 0, [], 0),
  (21, (.iaload, 1), 20, 0, 0, [], 0),
  (22, (.isub, 1), 0, 0, 0, [], 0),
  (23, (.invokevirtual 211, 3), 202, 2, 0, [0, 1, 5168], 0),
  (26, (.goto 4, 3), 30, 0, 0, [], 0),
  (29, (.iconst 0, 1), 0, 0, 0, [], 0),
  (30, (.ireturn, 1), 0, 0, 0, [], 0)])]
/-- LampPressesModel.plans()I -/
def lp_c217 : List (Nat × List lp_E) := [(5, [(0, (.aload_n 0, 1), 0, 0, 0, [], 0),
  (1, (.invokevirtual 217, 3), 216, 1, 0, [0, 1, 5184], 0),
  (4, (.ireturn, 1), 0, 0, 0, [], 0)])]
/-- LampPressesModel.plan(I)I -/
def lp_c218 : List (Nat × List lp_E) := [(33, [(0, (.aload_n 0, 1), 0, 0, 0, [], 0),
  (1, (.iload_n 1, 1), 1, 0, 0, [], 0),
  (2, (.invokevirtual 129, 3), 170, 2, 0, [0, 1, 5009], 0),
  (5, (.ifCond .ne 5, 3), 10, 0, 0, [], 0),
  (8, (.iconst (-1), 1), 0, 0, (-1), [], 0),
  (9, (.ireturn, 1), 0, 0, 0, [], 0),
  (10, (.aload_n 0, 1), 0, 0, 0, [], 0),
  (11, (.aload_n 0, 1), 0, 0, 0, [], 0),
  (12, (.getfield 45, 3), 10, 12, 0, [1, 4115], 0),
  (15, (.invokevirtual 153, 3), 207, 2, 0, [0, 1, 5075], 0),
  (18, (.ifCond .eq 12, 3), 30, 0, 0, [], 0),
  (21, (.aload_n 0, 1), 0, 0, 0, [], 0),
  (22, (.getfield 45, 3), 10, 12, 0, [1, 4115], 0),
  (25, (.iload_n 1, 1), 1, 0, 0, [], 0),
  (26, (.iaload, 1), 20, 0, 0, [], 0),
  (27, (.goto 5, 3), 32, 0, 0, [], 0),
  (30, (.bipush (-2), 2), 0, 0, (-2), [], 0),
  (32, (.ireturn, 1), 0, 0, 0, [], 0)])]
/-- LampPressesModel.pressedLamps([I)I -/
def lp_c219 : List (Nat × List lp_E) := [(29, [(0, (.iconst 0, 1), 0, 0, 0, [], 0),
  (1, (.istore_n 2, 1), 2, 0, 0, [], 0),
  (2, (.iconst 0, 1), 0, 0, 0, [], 0),
  (3, (.istore_n 3, 1), 3, 0, 0, [], 1),
  (4, (.iload_n 3, 1), 3, 0, 0, [], 0),
  (5, (.aload_n 0, 1), 0, 0, 0, [], 0),
  (6, (.invokevirtual 99, 3), 169, 1, 0, [0, 1, 4231], 0),
  (9, (.if_icmp .ge 18, 3), 27, 0, 0, [], 0),
  (12, (.aload_n 1, 1), 1, 0, 0, [], 0),
  (13, (.iload_n 3, 1), 3, 0, 0, [], 0),
  (14, (.iaload, 1), 20, 0, 0, [], 0),
  (15, (.ifCond .le 6, 3), 21, 0, 0, [], 0),
  (18, (.iinc 2 1, 3), 2, 0, 1, [], 0),
  (21, (.iinc 3 1, 3), 3, 0, 1, [], 0),
  (24, (.goto (-20), 3), 4, 0, 0, [], 2),
  (27, (.iload_n 2, 1), 2, 0, 0, [], 0),
  (28, (.ireturn, 1), 0, 0, 0, [], 0)])]
/-- LampPressesModel.isAhead([I[I)Z -/
def lp_c220 : List (Nat × List lp_E) := [(34, [(0, (.iconst 0, 1), 0, 0, 0, [], 0),
  (1, (.istore_n 3, 1), 3, 0, 0, [], 1),
  (2, (.iload_n 3, 1), 3, 0, 0, [], 0),
  (3, (.aload_n 0, 1), 0, 0, 0, [], 0),
  (4, (.invokevirtual 99, 3), 169, 1, 0, [0, 1, 4231], 0),
  (7, (.if_icmp .ge 33, 3), 40, 0, 0, [], 0),
  (10, (.aload_n 1, 1), 1, 0, 0, [], 0),
  (11, (.iload_n 3, 1), 3, 0, 0, [], 0),
  (12, (.iaload, 1), 20, 0, 0, [], 0),
  (13, (.aload_n 2, 1), 2, 0, 0, [], 0),
  (14, (.iload_n 3, 1), 3, 0, 0, [], 0),
  (15, (.iaload, 1), 20, 0, 0, [], 0),
  (16, (.if_icmp .eq 18, 3), 34, 0, 0, [], 0),
  (19, (.aload_n 1, 1), 1, 0, 0, [], 0),
  (20, (.iload_n 3, 1), 3, 0, 0, [], 0),
  (21, (.iaload, 1), 20, 0, 0, [], 0),
  (22, (.aload_n 2, 1), 2, 0, 0, [], 0),
  (23, (.iload_n 3, 1), 3, 0, 0, [], 0),
  (24, (.iaload, 1), 20, 0, 0, [], 0),
  (25, (.if_icmp .ge 7, 3), 32, 0, 0, [], 0),
  (28, (.iconst 1, 1), 0, 0, 1, [], 0),
  (29, (.goto 4, 3), 33, 0, 0, [], 0),
  (32, (.iconst 0, 1), 0, 0, 0, [], 0),
  (33, (.ireturn, 1), 1, 0, 0, [], 0)]),
 (42, [(34, (.iinc 3 1, 3), 3, 0, 1, [], 0),
  (37, (.goto (-35), 3), 2, 0, 0, [], 2),
  (40, (.iconst 0, 1), 0, 0, 0, [], 0),
  (41, (.ireturn, 1), 1, 0, 0, [], 0)])]
def lp_c221_0 : List lp_E := [(0, (.aload_n 0, 1), 0, 0, 0, [], 0),
  (1, (.aload_n 0, 1), 0, 0, 0, [], 0),
  (2, (.getfield 45, 3), 10, 12, 0, [1, 4115], 0),
  (5, (.invokevirtual 153, 3), 207, 2, 0, [0, 1, 5075], 0),
  (8, (.ifCond .ne 6, 3), 14, 0, 0, [], 0),
  (11, (.bipush (-2), 2), 0, 0, (-2), [], 0),
  (13, (.ireturn, 1), 0, 0, 0, [], 0),
  (14, (.aload_n 0, 1), 0, 0, 0, [], 0),
  (15, (.aload_n 0, 1), 0, 0, 0, [], 0),
  (16, (.invokevirtual 99, 3), 169, 1, 0, [0, 1, 4231], 0),
  (19, (.aload_n 0, 1), 0, 0, 0, [], 0),
  (20, (.getfield 36, 3), 10, 9, 0, [1, 4112], 0),
  (23, (.iconst 0, 1), 0, 0, 0, [], 0),
  (24, (.iaload, 1), 20, 0, 0, [], 0),
  (25, (.isub, 1), 0, 0, 0, [], 0),
  (26, (.invokevirtual 211, 3), 202, 2, 0, [0, 1, 5168], 0),
  (29, (.ldc 72, 2), 0, 0, 60000, [0, 4100], 0),
  (31, (.if_icmp .le 6, 3), 37, 0, 0, [], 0),
  (34, (.bipush (-3), 2), 0, 0, (-3), [], 0),
  (36, (.ireturn, 1), 0, 0, 0, [], 0),
  (37, (.aload_n 0, 1), 0, 0, 0, [], 0),
  (38, (.invokevirtual 214, 3), 209, 1, 0, [0, 0, 5176], 0),
  (41, (.iconst 0, 1), 0, 0, 0, [], 0),
  (42, (.istore_n 2, 1), 2, 0, 0, [], 1)]
def lp_c221_1 : List lp_E := [(43, (.iload_n 2, 1), 2, 0, 0, [], 0),
  (44, (.aload_n 0, 1), 0, 0, 0, [], 0),
  (45, (.getfield 205, 3), 10, 16, 0, [0, 4119], 0),
  (48, (.if_icmp .ge 16, 3), 64, 0, 0, [], 0),
  (51, (.aload_n 0, 1), 0, 0, 0, [], 0),
  (52, (.getfield 63, 3), 10, 19, 0, [1, 4122], 0),
  (55, (.iload_n 2, 1), 2, 0, 0, [], 0),
  (56, (.iconst 0, 1), 0, 0, 0, [], 0),
  (57, (.iastore, 1), 0, 0, 0, [], 0),
  (58, (.iinc 2 1, 3), 2, 0, 1, [], 0),
  (61, (.goto (-18), 3), 43, 0, 0, [], 2),
  (64, (.aload_n 0, 1), 0, 0, 0, [], 0),
  (65, (.sipush 1000, 3), 0, 0, 1000, [], 0),
  (68, (.putfield 220, 3), 10, 20, 0, [0, 4123, 0], 0),
  (71, (.iconst 1, 1), 0, 0, 1, [], 0),
  (72, (.istore_n 2, 1), 2, 0, 0, [], 1),
  (73, (.iload_n 2, 1), 2, 0, 0, [], 0),
  (74, (.ifCond .eq 250, 3), 324, 0, 0, [], 0),
  (77, (.iconst 0, 1), 0, 0, 0, [], 0),
  (78, (.istore_n 3, 1), 3, 0, 0, [], 1),
  (79, (.iload_n 3, 1), 3, 0, 0, [], 0),
  (80, (.aload_n 0, 1), 0, 0, 0, [], 0),
  (81, (.invokevirtual 99, 3), 169, 1, 0, [0, 1, 4231], 0),
  (84, (.if_icmp .ge 73, 3), 157, 0, 0, [], 0)]
def lp_c221_2 : List lp_E := [(87, (.aload_n 0, 1), 0, 0, 0, [], 0),
  (88, (.getfield 45, 3), 10, 12, 0, [1, 4115], 0),
  (91, (.iload_n 3, 1), 3, 0, 0, [], 0),
  (92, (.iaload, 1), 20, 0, 0, [], 0),
  (93, (.istore 4, 2), 4, 0, 0, [], 0),
  (95, (.iconst 0, 1), 0, 0, 0, [], 0),
  (96, (.istore 5, 2), 5, 0, 0, [], 1),
  (98, (.iload 5, 2), 5, 0, 0, [], 0),
  (100, (.aload_n 0, 1), 0, 0, 0, [], 0),
  (101, (.getfield 205, 3), 10, 16, 0, [0, 4119], 0),
  (104, (.if_icmp .ge 34, 3), 138, 0, 0, [], 0),
  (107, (.iload 4, 2), 4, 0, 0, [], 0),
  (109, (.aload_n 0, 1), 0, 0, 0, [], 0),
  (110, (.getfield 63, 3), 10, 19, 0, [1, 4122], 0),
  (113, (.iload 5, 2), 5, 0, 0, [], 0),
  (115, (.iaload, 1), 20, 0, 0, [], 0),
  (116, (.aload_n 0, 1), 0, 0, 0, [], 0),
  (117, (.getfield 48, 3), 10, 13, 0, [1, 4116], 0),
  (120, (.bipush 10, 2), 0, 0, 10, [], 0),
  (122, (.iload 5, 2), 5, 0, 0, [], 0),
  (124, (.imul, 1), 0, 0, 0, [], 0),
  (125, (.iload_n 3, 1), 3, 0, 0, [], 0),
  (126, (.iadd, 1), 0, 0, 0, [], 0),
  (127, (.iaload, 1), 20, 0, 0, [], 0)]
def lp_c221_3 : List lp_E := [(128, (.imul, 1), 0, 0, 0, [], 0),
  (129, (.iadd, 1), 0, 0, 0, [], 0),
  (130, (.istore 4, 2), 4, 0, 0, [], 0),
  (132, (.iinc 5 1, 3), 5, 0, 1, [], 0),
  (135, (.goto (-37), 3), 98, 0, 0, [], 2),
  (138, (.aload_n 0, 1), 0, 0, 0, [], 0),
  (139, (.getfield 60, 3), 10, 18, 0, [1, 4121], 0),
  (142, (.iload_n 3, 1), 3, 0, 0, [], 0),
  (143, (.iload 4, 2), 4, 0, 0, [], 0),
  (145, (.aload_n 0, 1), 0, 0, 0, [], 0),
  (146, (.invokevirtual 107, 3), 168, 1, 0, [0, 1, 4224], 0),
  (149, (.irem, 1), 0, 0, 0, [], 0),
  (150, (.iastore, 1), 0, 0, 0, [], 0),
  (151, (.iinc 3 1, 3), 3, 0, 1, [], 0),
  (154, (.goto (-75), 3), 79, 0, 0, [], 2),
  (157, (.iload_n 1, 1), 1, 0, 0, [], 0),
  (158, (.ifCond .eq 14, 3), 172, 0, 0, [], 0),
  (161, (.aload_n 0, 1), 0, 0, 0, [], 0),
  (162, (.aload_n 0, 1), 0, 0, 0, [], 0),
  (163, (.getfield 60, 3), 10, 18, 0, [1, 4121], 0),
  (166, (.invokevirtual 223, 3), 219, 2, 0, [0, 1, 5204], 0),
  (169, (.goto 11, 3), 180, 0, 0, [], 0),
  (172, (.aload_n 0, 1), 0, 0, 0, [], 0),
  (173, (.aload_n 0, 1), 0, 0, 0, [], 0)]
def lp_c221_4 : List lp_E := [(174, (.getfield 60, 3), 10, 18, 0, [1, 4121], 0),
  (177, (.invokevirtual 157, 3), 208, 2, 0, [0, 1, 5121], 0),
  (180, (.istore_n 3, 1), 3, 0, 0, [], 0),
  (181, (.iload_n 3, 1), 3, 0, 0, [], 0),
  (182, (.aload_n 0, 1), 0, 0, 0, [], 0),
  (183, (.getfield 220, 3), 10, 20, 0, [0, 4123], 0),
  (186, (.if_icmp .lt 26, 3), 212, 0, 0, [], 0),
  (189, (.iload_n 3, 1), 3, 0, 0, [], 0),
  (190, (.aload_n 0, 1), 0, 0, 0, [], 0),
  (191, (.getfield 220, 3), 10, 20, 0, [0, 4123], 0),
  (194, (.if_icmp .ne 55, 3), 249, 0, 0, [], 0),
  (197, (.aload_n 0, 1), 0, 0, 0, [], 0),
  (198, (.aload_n 0, 1), 0, 0, 0, [], 0),
  (199, (.getfield 60, 3), 10, 18, 0, [1, 4121], 0),
  (202, (.aload_n 0, 1), 0, 0, 0, [], 0),
  (203, (.getfield 57, 3), 10, 17, 0, [1, 4120], 0),
  (206, (.invokevirtual 226, 3), 220, 3, 0, [0, 1, 5208], 0),
  (209, (.ifCond .eq 40, 3), 249, 0, 0, [], 0),
  (212, (.aload_n 0, 1), 0, 0, 0, [], 0),
  (213, (.iload_n 3, 1), 3, 0, 0, [], 0),
  (214, (.putfield 220, 3), 10, 20, 0, [0, 4123, 0], 0),
  (217, (.iconst 0, 1), 0, 0, 0, [], 0),
  (218, (.istore 4, 2), 4, 0, 0, [], 1),
  (220, (.iload 4, 2), 4, 0, 0, [], 0)]
def lp_c221_5 : List lp_E := [(222, (.aload_n 0, 1), 0, 0, 0, [], 0),
  (223, (.invokevirtual 99, 3), 169, 1, 0, [0, 1, 4231], 0),
  (226, (.if_icmp .ge 23, 3), 249, 0, 0, [], 0),
  (229, (.aload_n 0, 1), 0, 0, 0, [], 0),
  (230, (.getfield 57, 3), 10, 17, 0, [1, 4120], 0),
  (233, (.iload 4, 2), 4, 0, 0, [], 0),
  (235, (.aload_n 0, 1), 0, 0, 0, [], 0),
  (236, (.getfield 60, 3), 10, 18, 0, [1, 4121], 0),
  (239, (.iload 4, 2), 4, 0, 0, [], 0),
  (241, (.iaload, 1), 20, 0, 0, [], 0),
  (242, (.iastore, 1), 0, 0, 0, [], 0),
  (243, (.iinc 4 1, 3), 4, 0, 1, [], 0),
  (246, (.goto (-26), 3), 220, 0, 0, [], 2),
  (249, (.iconst 0, 1), 0, 0, 0, [], 0),
  (250, (.istore 4, 2), 4, 0, 0, [], 1),
  (252, (.iload 4, 2), 4, 0, 0, [], 0),
  (254, (.aload_n 0, 1), 0, 0, 0, [], 0),
  (255, (.getfield 205, 3), 10, 16, 0, [0, 4119], 0),
  (258, (.if_icmp .ge 33, 3), 291, 0, 0, [], 0),
  (261, (.aload_n 0, 1), 0, 0, 0, [], 0),
  (262, (.getfield 63, 3), 10, 19, 0, [1, 4122], 0),
  (265, (.iload 4, 2), 4, 0, 0, [], 0),
  (267, (.iaload, 1), 20, 0, 0, [], 0),
  (268, (.aload_n 0, 1), 0, 0, 0, [], 0)]
def lp_c221_6 : List lp_E := [(269, (.invokevirtual 107, 3), 168, 1, 0, [0, 1, 4224], 0),
  (272, (.iconst 1, 1), 0, 0, 1, [], 0),
  (273, (.isub, 1), 0, 0, 0, [], 0),
  (274, (.if_icmp .ne 17, 3), 291, 0, 0, [], 0),
  (277, (.aload_n 0, 1), 0, 0, 0, [], 0),
  (278, (.getfield 63, 3), 10, 19, 0, [1, 4122], 0),
  (281, (.iload 4, 2), 4, 0, 0, [], 0),
  (283, (.iconst 0, 1), 0, 0, 0, [], 0),
  (284, (.iastore, 1), 0, 0, 0, [], 0),
  (285, (.iinc 4 1, 3), 4, 0, 1, [], 0),
  (288, (.goto (-36), 3), 252, 0, 0, [], 2),
  (291, (.iload 4, 2), 4, 0, 0, [], 0),
  (293, (.aload_n 0, 1), 0, 0, 0, [], 0),
  (294, (.getfield 205, 3), 10, 16, 0, [0, 4119], 0),
  (297, (.if_icmp .ge 7, 3), 304, 0, 0, [], 0),
  (300, (.iconst 1, 1), 0, 0, 1, [], 0),
  (301, (.goto 4, 3), 305, 0, 0, [], 0),
  (304, (.iconst 0, 1), 0, 0, 0, [], 0),
  (305, (.istore_n 2, 1), 2, 0, 0, [], 0),
  (306, (.iload_n 2, 1), 2, 0, 0, [], 0),
  (307, (.ifCond .eq 14, 3), 321, 0, 0, [], 0),
  (310, (.aload_n 0, 1), 0, 0, 0, [], 0),
  (311, (.getfield 63, 3), 10, 19, 0, [1, 4122], 0),
  (314, (.iload 4, 2), 4, 0, 0, [], 0)]
def lp_c221_7 : List lp_E := [(316, (.dup2, 1), 0, 0, 0, [], 0),
  (317, (.iaload, 1), 20, 0, 0, [], 0),
  (318, (.iconst 1, 1), 0, 0, 1, [], 0),
  (319, (.iadd, 1), 0, 0, 0, [], 0),
  (320, (.iastore, 1), 0, 0, 0, [], 0),
  (321, (.goto (-248), 3), 73, 0, 0, [], 2),
  (324, (.iconst 0, 1), 0, 0, 0, [], 0),
  (325, (.ireturn, 1), 0, 0, 0, [], 0)]
/-- LampPressesModel.looksBest(Z)I -/
def lp_c221 : List (Nat × List lp_E) := [(43, lp_c221_0), (87, lp_c221_1), (128, lp_c221_2), (174, lp_c221_3), (222, lp_c221_4), (269, lp_c221_5), (316, lp_c221_6), (326, lp_c221_7)]
/-- LampPressesModel.bestOf(IZ)I -/
def lp_c222 : List (Nat × List lp_E) := [(42, [(0, (.iload_n 1, 1), 1, 0, 0, [], 0),
  (1, (.iconst (-1), 1), 0, 0, (-1), [], 0),
  (2, (.if_icmp .eq 13, 3), 15, 0, 0, [], 0),
  (5, (.aload_n 0, 1), 0, 0, 0, [], 0),
  (6, (.iload_n 1, 1), 1, 0, 0, [], 0),
  (7, (.invokevirtual 129, 3), 170, 2, 0, [0, 1, 5009], 0),
  (10, (.ifCond .ne 5, 3), 15, 0, 0, [], 0),
  (13, (.iconst (-1), 1), 0, 0, (-1), [], 0),
  (14, (.ireturn, 1), 0, 0, 0, [], 0),
  (15, (.aload_n 0, 1), 0, 0, 0, [], 0),
  (16, (.iload_n 2, 1), 2, 0, 0, [], 0),
  (17, (.invokevirtual 230, 3), 221, 2, 0, [0, 1, 5200], 0),
  (20, (.istore_n 3, 1), 3, 0, 0, [], 0),
  (21, (.iload_n 3, 1), 3, 0, 0, [], 0),
  (22, (.ifCond .ge 7, 3), 29, 0, 0, [], 0),
  (25, (.iload_n 3, 1), 3, 0, 0, [], 0),
  (26, (.goto 21, 3), 47, 0, 0, [], 0),
  (29, (.iload_n 1, 1), 1, 0, 0, [], 0),
  (30, (.iconst (-1), 1), 0, 0, (-1), [], 0),
  (31, (.if_icmp .ne 10, 3), 41, 0, 0, [], 0),
  (34, (.aload_n 0, 1), 0, 0, 0, [], 0),
  (35, (.getfield 220, 3), 10, 20, 0, [0, 4123], 0),
  (38, (.goto 9, 3), 47, 0, 0, [], 0),
  (41, (.aload_n 0, 1), 0, 0, 0, [], 0)]),
 (48, [(42, (.getfield 57, 3), 10, 17, 0, [1, 4120], 0),
  (45, (.iload_n 1, 1), 1, 0, 0, [], 0),
  (46, (.iaload, 1), 20, 0, 0, [], 0),
  (47, (.ireturn, 1), 0, 0, 0, [], 0)])]
/-- LampPressesModel.fewest(I)I -/
def lp_c223 : List (Nat × List lp_E) := [(7, [(0, (.aload_n 0, 1), 0, 0, 0, [], 0),
  (1, (.iload_n 1, 1), 1, 0, 0, [], 0),
  (2, (.iconst 0, 1), 0, 0, 0, [], 0),
  (3, (.invokevirtual 234, 3), 222, 3, 0, [0, 1, 5196], 0),
  (6, (.ireturn, 1), 0, 0, 0, [], 0)])]
/-- LampPressesModel.sparest(I)I -/
def lp_c224 : List (Nat × List lp_E) := [(7, [(0, (.aload_n 0, 1), 0, 0, 0, [], 0),
  (1, (.iload_n 1, 1), 1, 0, 0, [], 0),
  (2, (.iconst 1, 1), 0, 0, 1, [], 0),
  (3, (.invokevirtual 234, 3), 222, 3, 0, [0, 1, 5196], 0),
  (6, (.ireturn, 1), 0, 0, 0, [], 0)])]
/-- LampPressesModel.fixed(I)I -/
def lp_c225 : List (Nat × List lp_E) := [(44, [(0, (.aload_n 0, 1), 0, 0, 0, [], 0),
  (1, (.iload_n 1, 1), 1, 0, 0, [], 0),
  (2, (.invokevirtual 129, 3), 170, 2, 0, [0, 1, 5009], 0),
  (5, (.ifCond .ne 5, 3), 10, 0, 0, [], 0),
  (8, (.iconst (-1), 1), 0, 0, (-1), [], 0),
  (9, (.ireturn, 1), 0, 0, 0, [], 0),
  (10, (.aload_n 0, 1), 0, 0, 0, [], 0),
  (11, (.aload_n 0, 1), 0, 0, 0, [], 0),
  (12, (.getfield 45, 3), 10, 12, 0, [1, 4115], 0),
  (15, (.invokevirtual 153, 3), 207, 2, 0, [0, 1, 5075], 0),
  (18, (.ifCond .ne 6, 3), 24, 0, 0, [], 0),
  (21, (.bipush (-2), 2), 0, 0, (-2), [], 0),
  (23, (.ireturn, 1), 0, 0, 0, [], 0),
  (24, (.aload_n 0, 1), 0, 0, 0, [], 0),
  (25, (.invokevirtual 214, 3), 209, 1, 0, [0, 0, 5176], 0),
  (28, (.iconst 0, 1), 0, 0, 0, [], 0),
  (29, (.istore_n 2, 1), 2, 0, 0, [], 1),
  (30, (.iload_n 2, 1), 2, 0, 0, [], 0),
  (31, (.aload_n 0, 1), 0, 0, 0, [], 0),
  (32, (.getfield 205, 3), 10, 16, 0, [0, 4119], 0),
  (35, (.if_icmp .ge 26, 3), 61, 0, 0, [], 0),
  (38, (.aload_n 0, 1), 0, 0, 0, [], 0),
  (39, (.getfield 48, 3), 10, 13, 0, [1, 4116], 0),
  (42, (.bipush 10, 2), 0, 0, 10, [], 0)]),
 (68, [(44, (.iload_n 2, 1), 2, 0, 0, [], 0),
  (45, (.imul, 1), 0, 0, 0, [], 0),
  (46, (.iload_n 1, 1), 1, 0, 0, [], 0),
  (47, (.iadd, 1), 0, 0, 0, [], 0),
  (48, (.iaload, 1), 20, 0, 0, [], 0),
  (49, (.ifCond .le 6, 3), 55, 0, 0, [], 0),
  (52, (.bipush (-3), 2), 0, 0, (-3), [], 0),
  (54, (.ireturn, 1), 0, 0, 0, [], 0),
  (55, (.iinc 2 1, 3), 2, 0, 1, [], 0),
  (58, (.goto (-28), 3), 30, 0, 0, [], 2),
  (61, (.aload_n 0, 1), 0, 0, 0, [], 0),
  (62, (.getfield 45, 3), 10, 12, 0, [1, 4115], 0),
  (65, (.iload_n 1, 1), 1, 0, 0, [], 0),
  (66, (.iaload, 1), 20, 0, 0, [], 0),
  (67, (.ireturn, 1), 0, 0, 0, [], 0)])]
/-- LampPressesModel.aloneOf(I)I -/
def lp_c226 : List (Nat × List lp_E) := [(43, [(0, (.iconst 0, 1), 0, 0, 0, [], 0),
  (1, (.istore_n 2, 1), 2, 0, 0, [], 1),
  (2, (.iload_n 2, 1), 2, 0, 0, [], 0),
  (3, (.aload_n 0, 1), 0, 0, 0, [], 0),
  (4, (.invokevirtual 99, 3), 169, 1, 0, [0, 1, 4231], 0),
  (7, (.if_icmp .ge 25, 3), 32, 0, 0, [], 0),
  (10, (.aload_n 0, 1), 0, 0, 0, [], 0),
  (11, (.getfield 42, 3), 10, 11, 0, [1, 4114], 0),
  (14, (.iload_n 2, 1), 2, 0, 0, [], 0),
  (15, (.iload_n 2, 1), 2, 0, 0, [], 0),
  (16, (.iload_n 1, 1), 1, 0, 0, [], 0),
  (17, (.if_icmp .ne 7, 3), 24, 0, 0, [], 0),
  (20, (.iconst 1, 1), 0, 0, 1, [], 0),
  (21, (.goto 4, 3), 25, 0, 0, [], 0),
  (24, (.iconst 0, 1), 0, 0, 0, [], 0),
  (25, (.iastore, 1), 0, 0, 0, [], 0),
  (26, (.iinc 2 1, 3), 2, 0, 1, [], 0),
  (29, (.goto (-27), 3), 2, 0, 0, [], 2),
  (32, (.aload_n 0, 1), 0, 0, 0, [], 0),
  (33, (.iconst 0, 1), 0, 0, 0, [], 0),
  (34, (.invokevirtual 186, 3), 204, 2, 0, [0, 1, 5109], 0),
  (37, (.ifCond .ne 6, 3), 43, 0, 0, [], 0),
  (40, (.bipush (-2), 2), 0, 0, (-2), [], 0),
  (42, (.ireturn, 1), 0, 0, 0, [], 0)]),
 (61, [(43, (.aload_n 0, 1), 0, 0, 0, [], 0),
  (44, (.iconst 0, 1), 0, 0, 0, [], 0),
  (45, (.aload_n 0, 1), 0, 0, 0, [], 0),
  (46, (.getfield 60, 3), 10, 18, 0, [1, 4121], 0),
  (49, (.invokevirtual 201, 3), 206, 3, 0, [0, 0, 5113], 0),
  (52, (.aload_n 0, 1), 0, 0, 0, [], 0),
  (53, (.aload_n 0, 1), 0, 0, 0, [], 0),
  (54, (.getfield 60, 3), 10, 18, 0, [1, 4121], 0),
  (57, (.invokevirtual 157, 3), 208, 2, 0, [0, 1, 5121], 0),
  (60, (.ireturn, 1), 0, 0, 0, [], 0)])]
/-- LampPressesModel.alone(I)I -/
def lp_c227 : List (Nat × List lp_E) := [(28, [(0, (.aload_n 0, 1), 0, 0, 0, [], 0),
  (1, (.iload_n 1, 1), 1, 0, 0, [], 0),
  (2, (.invokevirtual 129, 3), 170, 2, 0, [0, 1, 5009], 0),
  (5, (.ifCond .ne 5, 3), 10, 0, 0, [], 0),
  (8, (.iconst (-1), 1), 0, 0, (-1), [], 0),
  (9, (.ireturn, 1), 0, 0, 0, [], 0),
  (10, (.aload_n 0, 1), 0, 0, 0, [], 0),
  (11, (.aload_n 0, 1), 0, 0, 0, [], 0),
  (12, (.invokevirtual 192, 3), 201, 1, 0, [0, 1, 5079], 0),
  (15, (.aload_n 0, 1), 0, 0, 0, [], 0),
  (16, (.invokevirtual 192, 3), 201, 1, 0, [0, 1, 5079], 0),
  (19, (.invokevirtual 195, 3), 199, 3, 0, [0, 0, 5083], 0),
  (22, (.aload_n 0, 1), 0, 0, 0, [], 0),
  (23, (.iload_n 1, 1), 1, 0, 0, [], 0),
  (24, (.invokevirtual 238, 3), 226, 2, 0, [0, 1, 5224], 0),
  (27, (.ireturn, 1), 0, 0, 0, [], 0)])]
/-- LampPressesModel.alones()I -/
def lp_c228 : List (Nat × List lp_E) := [(38, [(0, (.aload_n 0, 1), 0, 0, 0, [], 0),
  (1, (.aload_n 0, 1), 0, 0, 0, [], 0),
  (2, (.invokevirtual 192, 3), 201, 1, 0, [0, 1, 5079], 0),
  (5, (.aload_n 0, 1), 0, 0, 0, [], 0),
  (6, (.invokevirtual 192, 3), 201, 1, 0, [0, 1, 5079], 0),
  (9, (.invokevirtual 195, 3), 199, 3, 0, [0, 0, 5083], 0),
  (12, (.iconst 0, 1), 0, 0, 0, [], 0),
  (13, (.istore_n 1, 1), 1, 0, 0, [], 0),
  (14, (.iconst 0, 1), 0, 0, 0, [], 0),
  (15, (.istore_n 2, 1), 2, 0, 0, [], 1),
  (16, (.iload_n 2, 1), 2, 0, 0, [], 0),
  (17, (.aload_n 0, 1), 0, 0, 0, [], 0),
  (18, (.invokevirtual 99, 3), 169, 1, 0, [0, 1, 4231], 0),
  (21, (.if_icmp .ge 23, 3), 44, 0, 0, [], 0),
  (24, (.aload_n 0, 1), 0, 0, 0, [], 0),
  (25, (.iload_n 2, 1), 2, 0, 0, [], 0),
  (26, (.invokevirtual 238, 3), 226, 2, 0, [0, 1, 5224], 0),
  (29, (.ifCond .lt 9, 3), 38, 0, 0, [], 0),
  (32, (.iload_n 1, 1), 1, 0, 0, [], 0),
  (33, (.iconst 1, 1), 0, 0, 1, [], 0),
  (34, (.iload_n 2, 1), 2, 0, 0, [], 0),
  (35, (.ishl, 1), 0, 0, 0, [], 0),
  (36, (.ior, 1), 0, 0, 0, [], 0),
  (37, (.istore_n 1, 1), 1, 0, 0, [], 0)]),
 (46, [(38, (.iinc 2 1, 3), 2, 0, 1, [], 0),
  (41, (.goto (-25), 3), 16, 0, 0, [], 2),
  (44, (.iload_n 1, 1), 1, 0, 0, [], 0),
  (45, (.ireturn, 1), 0, 0, 0, [], 0)])]
/-- LampPressesModel.hardest()I -/
def lp_c229 : List (Nat × List lp_E) := [(43, [(0, (.aload_n 0, 1), 0, 0, 0, [], 0),
  (1, (.aload_n 0, 1), 0, 0, 0, [], 0),
  (2, (.invokevirtual 192, 3), 201, 1, 0, [0, 1, 5079], 0),
  (5, (.aload_n 0, 1), 0, 0, 0, [], 0),
  (6, (.invokevirtual 192, 3), 201, 1, 0, [0, 1, 5079], 0),
  (9, (.invokevirtual 195, 3), 199, 3, 0, [0, 0, 5083], 0),
  (12, (.bipush (-2), 2), 0, 0, (-2), [], 0),
  (14, (.istore_n 1, 1), 1, 0, 0, [], 0),
  (15, (.iconst (-1), 1), 0, 0, (-1), [], 0),
  (16, (.istore_n 2, 1), 2, 0, 0, [], 0),
  (17, (.iconst 0, 1), 0, 0, 0, [], 0),
  (18, (.istore_n 3, 1), 3, 0, 0, [], 1),
  (19, (.iload_n 3, 1), 3, 0, 0, [], 0),
  (20, (.aload_n 0, 1), 0, 0, 0, [], 0),
  (21, (.invokevirtual 99, 3), 169, 1, 0, [0, 1, 4231], 0),
  (24, (.if_icmp .ge 30, 3), 54, 0, 0, [], 0),
  (27, (.aload_n 0, 1), 0, 0, 0, [], 0),
  (28, (.iload_n 3, 1), 3, 0, 0, [], 0),
  (29, (.invokevirtual 238, 3), 226, 2, 0, [0, 1, 5224], 0),
  (32, (.istore 4, 2), 4, 0, 0, [], 0),
  (34, (.iload 4, 2), 4, 0, 0, [], 0),
  (36, (.iload_n 2, 1), 2, 0, 0, [], 0),
  (37, (.if_icmp .gt 6, 3), 43, 0, 0, [], 0),
  (40, (.goto 8, 3), 48, 0, 0, [], 0)]),
 (56, [(43, (.iload 4, 2), 4, 0, 0, [], 0),
  (45, (.istore_n 2, 1), 2, 0, 0, [], 0),
  (46, (.iload_n 3, 1), 3, 0, 0, [], 0),
  (47, (.istore_n 1, 1), 1, 0, 0, [], 0),
  (48, (.iinc 3 1, 3), 3, 0, 1, [], 0),
  (51, (.goto (-32), 3), 19, 0, 0, [], 2),
  (54, (.iload_n 1, 1), 1, 0, 0, [], 0),
  (55, (.ireturn, 1), 0, 0, 0, [], 0)])]
/-- LampPressesModel.offNow()I -/
def lp_c230 : List (Nat × List lp_E) := [(41, [(0, (.iconst 0, 1), 0, 0, 0, [], 0),
  (1, (.istore_n 1, 1), 1, 0, 0, [], 0),
  (2, (.iconst 0, 1), 0, 0, 0, [], 0),
  (3, (.istore_n 2, 1), 2, 0, 0, [], 1),
  (4, (.iload_n 2, 1), 2, 0, 0, [], 0),
  (5, (.aload_n 0, 1), 0, 0, 0, [], 0),
  (6, (.invokevirtual 99, 3), 169, 1, 0, [0, 1, 4231], 0),
  (9, (.if_icmp .ge 32, 3), 41, 0, 0, [], 0),
  (12, (.aload_n 0, 1), 0, 0, 0, [], 0),
  (13, (.getfield 13, 3), 10, 1, 0, [1, 4104], 0),
  (16, (.iconst 4, 1), 0, 0, 4, [], 0),
  (17, (.iload_n 2, 1), 2, 0, 0, [], 0),
  (18, (.iadd, 1), 0, 0, 0, [], 0),
  (19, (.iaload, 1), 20, 0, 0, [], 0),
  (20, (.aload_n 0, 1), 0, 0, 0, [], 0),
  (21, (.getfield 13, 3), 10, 1, 0, [1, 4104], 0),
  (24, (.bipush 24, 2), 0, 0, 24, [], 0),
  (26, (.iload_n 2, 1), 2, 0, 0, [], 0),
  (27, (.iadd, 1), 0, 0, 0, [], 0),
  (28, (.iaload, 1), 20, 0, 0, [], 0),
  (29, (.if_icmp .eq 6, 3), 35, 0, 0, [], 0),
  (32, (.iinc 1 1, 3), 1, 0, 1, [], 0),
  (35, (.iinc 2 1, 3), 2, 0, 1, [], 0),
  (38, (.goto (-34), 3), 4, 0, 0, [], 2)]),
 (43, [(41, (.iload_n 1, 1), 1, 0, 0, [], 0),
  (42, (.ireturn, 1), 0, 0, 0, [], 0)])]
/-- LampPressesModel.off()I -/
def lp_c231 : List (Nat × List lp_E) := [(5, [(0, (.aload_n 0, 1), 0, 0, 0, [], 0),
  (1, (.invokevirtual 150, 3), 230, 1, 0, [0, 1, 5067], 0),
  (4, (.ireturn, 1), 0, 0, 0, [], 0)])]
/-- LampPressesModel.laysFar(I)V -/
def lp_c232 : List (Nat × List lp_E) := [(43, [(0, (.iconst 0, 1), 0, 0, 0, [], 0),
  (1, (.istore_n 2, 1), 2, 0, 0, [], 1),
  (2, (.iload_n 2, 1), 2, 0, 0, [], 0),
  (3, (.aload_n 0, 1), 0, 0, 0, [], 0),
  (4, (.invokevirtual 99, 3), 169, 1, 0, [0, 1, 4231], 0),
  (7, (.if_icmp .ge 26, 3), 33, 0, 0, [], 0),
  (10, (.aload_n 0, 1), 0, 0, 0, [], 0),
  (11, (.getfield 66, 3), 10, 21, 0, [1, 4124], 0),
  (14, (.iload_n 2, 1), 2, 0, 0, [], 0),
  (15, (.iload_n 2, 1), 2, 0, 0, [], 0),
  (16, (.iload_n 1, 1), 1, 0, 0, [], 0),
  (17, (.if_icmp .ne 7, 3), 24, 0, 0, [], 0),
  (20, (.iconst 0, 1), 0, 0, 0, [], 0),
  (21, (.goto 5, 3), 26, 0, 0, [], 0),
  (24, (.bipush 99, 2), 0, 0, 99, [], 0),
  (26, (.iastore, 1), 0, 0, 0, [], 0),
  (27, (.iinc 2 1, 3), 2, 0, 1, [], 0),
  (30, (.goto (-28), 3), 2, 0, 0, [], 2),
  (33, (.iconst 0, 1), 0, 0, 0, [], 0),
  (34, (.istore_n 2, 1), 2, 0, 0, [], 1),
  (35, (.iload_n 2, 1), 2, 0, 0, [], 0),
  (36, (.aload_n 0, 1), 0, 0, 0, [], 0),
  (37, (.invokevirtual 99, 3), 169, 1, 0, [0, 1, 4231], 0),
  (40, (.if_icmp .ge 90, 3), 130, 0, 0, [], 0)]),
 (86, [(43, (.iconst 0, 1), 0, 0, 0, [], 0),
  (44, (.istore_n 3, 1), 3, 0, 0, [], 1),
  (45, (.iload_n 3, 1), 3, 0, 0, [], 0),
  (46, (.aload_n 0, 1), 0, 0, 0, [], 0),
  (47, (.invokevirtual 99, 3), 169, 1, 0, [0, 1, 4231], 0),
  (50, (.if_icmp .ge 74, 3), 124, 0, 0, [], 0),
  (53, (.iconst 0, 1), 0, 0, 0, [], 0),
  (54, (.istore 4, 2), 4, 0, 0, [], 1),
  (56, (.iload 4, 2), 4, 0, 0, [], 0),
  (58, (.aload_n 0, 1), 0, 0, 0, [], 0),
  (59, (.invokevirtual 99, 3), 169, 1, 0, [0, 1, 4231], 0),
  (62, (.if_icmp .ge 56, 3), 118, 0, 0, [], 0),
  (65, (.aload_n 0, 1), 0, 0, 0, [], 0),
  (66, (.getfield 13, 3), 10, 1, 0, [1, 4104], 0),
  (69, (.iload_n 3, 1), 3, 0, 0, [], 0),
  (70, (.iload 4, 2), 4, 0, 0, [], 0),
  (72, (.invokestatic 110, 3), 172, 2, 0, [1, 1, 5002], 0),
  (75, (.iaload, 1), 20, 0, 0, [], 0),
  (76, (.ifCond .le 36, 3), 112, 0, 0, [], 0),
  (79, (.aload_n 0, 1), 0, 0, 0, [], 0),
  (80, (.getfield 66, 3), 10, 21, 0, [1, 4124], 0),
  (83, (.iload_n 3, 1), 3, 0, 0, [], 0),
  (84, (.iaload, 1), 20, 0, 0, [], 0),
  (85, (.iconst 1, 1), 0, 0, 1, [], 0)]),
 (131, [(86, (.iadd, 1), 0, 0, 0, [], 0),
  (87, (.aload_n 0, 1), 0, 0, 0, [], 0),
  (88, (.getfield 66, 3), 10, 21, 0, [1, 4124], 0),
  (91, (.iload 4, 2), 4, 0, 0, [], 0),
  (93, (.iaload, 1), 20, 0, 0, [], 0),
  (94, (.if_icmp .ge 18, 3), 112, 0, 0, [], 0),
  (97, (.aload_n 0, 1), 0, 0, 0, [], 0),
  (98, (.getfield 66, 3), 10, 21, 0, [1, 4124], 0),
  (101, (.iload 4, 2), 4, 0, 0, [], 0),
  (103, (.aload_n 0, 1), 0, 0, 0, [], 0),
  (104, (.getfield 66, 3), 10, 21, 0, [1, 4124], 0),
  (107, (.iload_n 3, 1), 3, 0, 0, [], 0),
  (108, (.iaload, 1), 20, 0, 0, [], 0),
  (109, (.iconst 1, 1), 0, 0, 1, [], 0),
  (110, (.iadd, 1), 0, 0, 0, [], 0),
  (111, (.iastore, 1), 0, 0, 0, [], 0),
  (112, (.iinc 4 1, 3), 4, 0, 1, [], 0),
  (115, (.goto (-59), 3), 56, 0, 0, [], 2),
  (118, (.iinc 3 1, 3), 3, 0, 1, [], 0),
  (121, (.goto (-76), 3), 45, 0, 0, [], 2),
  (124, (.iinc 2 1, 3), 2, 0, 1, [], 0),
  (127, (.goto (-92), 3), 35, 0, 0, [], 2),
  (130, (.return_, 1), 0, 0, 0, [], 0)])]
/-- LampPressesModel.parts()I -/
def lp_c233 : List (Nat × List lp_E) := [(39, [(0, (.iconst 0, 1), 0, 0, 0, [], 0),
  (1, (.istore_n 1, 1), 1, 0, 0, [], 0),
  (2, (.iconst 0, 1), 0, 0, 0, [], 0),
  (3, (.istore_n 2, 1), 2, 0, 0, [], 1),
  (4, (.iload_n 2, 1), 2, 0, 0, [], 0),
  (5, (.aload_n 0, 1), 0, 0, 0, [], 0),
  (6, (.invokevirtual 99, 3), 169, 1, 0, [0, 1, 4231], 0),
  (9, (.if_icmp .ge 60, 3), 69, 0, 0, [], 0),
  (12, (.aload_n 0, 1), 0, 0, 0, [], 0),
  (13, (.iload_n 2, 1), 2, 0, 0, [], 0),
  (14, (.invokevirtual 241, 3), 232, 2, 0, [0, 0, 6004], 0),
  (17, (.iconst 1, 1), 0, 0, 1, [], 0),
  (18, (.istore_n 3, 1), 3, 0, 0, [], 0),
  (19, (.iconst 0, 1), 0, 0, 0, [], 0),
  (20, (.istore 4, 2), 4, 0, 0, [], 1),
  (22, (.iload 4, 2), 4, 0, 0, [], 0),
  (24, (.iload_n 2, 1), 2, 0, 0, [], 0),
  (25, (.if_icmp .ge 31, 3), 56, 0, 0, [], 0),
  (28, (.iload_n 3, 1), 3, 0, 0, [], 0),
  (29, (.ifCond .eq 19, 3), 48, 0, 0, [], 0),
  (32, (.aload_n 0, 1), 0, 0, 0, [], 0),
  (33, (.getfield 66, 3), 10, 21, 0, [1, 4124], 0),
  (36, (.iload 4, 2), 4, 0, 0, [], 0),
  (38, (.iaload, 1), 20, 0, 0, [], 0)]),
 (71, [(39, (.bipush 99, 2), 0, 0, 99, [], 0),
  (41, (.if_icmp .ne 7, 3), 48, 0, 0, [], 0),
  (44, (.iconst 1, 1), 0, 0, 1, [], 0),
  (45, (.goto 4, 3), 49, 0, 0, [], 0),
  (48, (.iconst 0, 1), 0, 0, 0, [], 0),
  (49, (.istore_n 3, 1), 3, 0, 0, [], 0),
  (50, (.iinc 4 1, 3), 4, 0, 1, [], 0),
  (53, (.goto (-31), 3), 22, 0, 0, [], 2),
  (56, (.iload_n 3, 1), 3, 0, 0, [], 0),
  (57, (.ifCond .eq 6, 3), 63, 0, 0, [], 0),
  (60, (.iinc 1 1, 3), 1, 0, 1, [], 0),
  (63, (.iinc 2 1, 3), 2, 0, 1, [], 0),
  (66, (.goto (-62), 3), 4, 0, 0, [], 2),
  (69, (.iload_n 1, 1), 1, 0, 0, [], 0),
  (70, (.ireturn, 1), 0, 0, 0, [], 0)])]
/-- LampPressesModel.distance(II)I -/
def lp_c234 : List (Nat × List lp_E) := [(44, [(0, (.aload_n 0, 1), 0, 0, 0, [], 0),
  (1, (.iload_n 1, 1), 1, 0, 0, [], 0),
  (2, (.invokevirtual 129, 3), 170, 2, 0, [0, 1, 5009], 0),
  (5, (.ifCond .eq 11, 3), 16, 0, 0, [], 0),
  (8, (.aload_n 0, 1), 0, 0, 0, [], 0),
  (9, (.iload_n 2, 1), 2, 0, 0, [], 0),
  (10, (.invokevirtual 129, 3), 170, 2, 0, [0, 1, 5009], 0),
  (13, (.ifCond .ne 5, 3), 18, 0, 0, [], 0),
  (16, (.iconst (-1), 1), 0, 0, (-1), [], 0),
  (17, (.ireturn, 1), 0, 0, 0, [], 0),
  (18, (.aload_n 0, 1), 0, 0, 0, [], 0),
  (19, (.iload_n 1, 1), 1, 0, 0, [], 0),
  (20, (.invokevirtual 241, 3), 232, 2, 0, [0, 0, 6004], 0),
  (23, (.aload_n 0, 1), 0, 0, 0, [], 0),
  (24, (.getfield 66, 3), 10, 21, 0, [1, 4124], 0),
  (27, (.iload_n 2, 1), 2, 0, 0, [], 0),
  (28, (.iaload, 1), 20, 0, 0, [], 0),
  (29, (.bipush 99, 2), 0, 0, 99, [], 0),
  (31, (.if_icmp .ne 8, 3), 39, 0, 0, [], 0),
  (34, (.bipush (-2), 2), 0, 0, (-2), [], 0),
  (36, (.goto 9, 3), 45, 0, 0, [], 0),
  (39, (.aload_n 0, 1), 0, 0, 0, [], 0),
  (40, (.getfield 66, 3), 10, 21, 0, [1, 4124], 0),
  (43, (.iload_n 2, 1), 2, 0, 0, [], 0)]),
 (46, [(44, (.iaload, 1), 20, 0, 0, [], 0),
  (45, (.ireturn, 1), 0, 0, 0, [], 0)])]
/-- LampPressesModel.same(II)I -/
def lp_c235 : List (Nat × List lp_E) := [(40, [(0, (.aload_n 0, 1), 0, 0, 0, [], 0),
  (1, (.iload_n 1, 1), 1, 0, 0, [], 0),
  (2, (.invokevirtual 129, 3), 170, 2, 0, [0, 1, 5009], 0),
  (5, (.ifCond .eq 11, 3), 16, 0, 0, [], 0),
  (8, (.aload_n 0, 1), 0, 0, 0, [], 0),
  (9, (.iload_n 2, 1), 2, 0, 0, [], 0),
  (10, (.invokevirtual 129, 3), 170, 2, 0, [0, 1, 5009], 0),
  (13, (.ifCond .ne 5, 3), 18, 0, 0, [], 0),
  (16, (.iconst (-1), 1), 0, 0, (-1), [], 0),
  (17, (.ireturn, 1), 0, 0, 0, [], 0),
  (18, (.iconst 0, 1), 0, 0, 0, [], 0),
  (19, (.istore_n 3, 1), 3, 0, 0, [], 1),
  (20, (.iload_n 3, 1), 3, 0, 0, [], 0),
  (21, (.aload_n 0, 1), 0, 0, 0, [], 0),
  (22, (.invokevirtual 99, 3), 169, 1, 0, [0, 1, 4231], 0),
  (25, (.if_icmp .ge 26, 3), 51, 0, 0, [], 0),
  (28, (.aload_n 0, 1), 0, 0, 0, [], 0),
  (29, (.iload_n 1, 1), 1, 0, 0, [], 0),
  (30, (.iload_n 3, 1), 3, 0, 0, [], 0),
  (31, (.invokevirtual 143, 3), 185, 3, 0, [0, 1, 5059], 0),
  (34, (.aload_n 0, 1), 0, 0, 0, [], 0),
  (35, (.iload_n 2, 1), 2, 0, 0, [], 0),
  (36, (.iload_n 3, 1), 3, 0, 0, [], 0),
  (37, (.invokevirtual 143, 3), 185, 3, 0, [0, 1, 5059], 0)]),
 (53, [(40, (.if_icmp .eq 5, 3), 45, 0, 0, [], 0),
  (43, (.iconst 0, 1), 0, 0, 0, [], 0),
  (44, (.ireturn, 1), 0, 0, 0, [], 0),
  (45, (.iinc 3 1, 3), 3, 0, 1, [], 0),
  (48, (.goto (-28), 3), 20, 0, 0, [], 2),
  (51, (.iconst 1, 1), 0, 0, 1, [], 0),
  (52, (.ireturn, 1), 0, 0, 0, [], 0)])]
/-- LampPressesModel.areLamps(I)Z -/
def lp_c236 : List (Nat × List lp_E) := [(10, [(0, (.iload_n 1, 1), 1, 0, 0, [], 0),
  (1, (.iconst 0, 1), 0, 0, 0, [], 0),
  (2, (.aload_n 0, 1), 0, 0, 0, [], 0),
  (3, (.invokevirtual 192, 3), 201, 1, 0, [0, 1, 5079], 0),
  (6, (.invokestatic 103, 3), 163, 3, 0, [1, 1, 4228], 0),
  (9, (.ireturn, 1), 1, 0, 0, [], 0)])]
/-- LampPressesModel.part(I)I -/
def lp_c237 : List (Nat × List lp_E) := [(42, [(0, (.aload_n 0, 1), 0, 0, 0, [], 0),
  (1, (.iload_n 1, 1), 1, 0, 0, [], 0),
  (2, (.invokevirtual 244, 3), 236, 2, 0, [0, 1, 6020], 0),
  (5, (.ifCond .ne 5, 3), 10, 0, 0, [], 0),
  (8, (.iconst (-1), 1), 0, 0, (-1), [], 0),
  (9, (.ireturn, 1), 0, 0, 0, [], 0),
  (10, (.aload_n 0, 1), 0, 0, 0, [], 0),
  (11, (.aload_n 0, 1), 0, 0, 0, [], 0),
  (12, (.invokevirtual 192, 3), 201, 1, 0, [0, 1, 5079], 0),
  (15, (.iload_n 1, 1), 1, 0, 0, [], 0),
  (16, (.invokevirtual 195, 3), 199, 3, 0, [0, 0, 5083], 0),
  (19, (.aload_n 0, 1), 0, 0, 0, [], 0),
  (20, (.invokevirtual 198, 3), 203, 1, 0, [0, 0, 5105], 0),
  (23, (.iconst 0, 1), 0, 0, 0, [], 0),
  (24, (.istore_n 2, 1), 2, 0, 0, [], 1),
  (25, (.iload_n 2, 1), 2, 0, 0, [], 0),
  (26, (.aload_n 0, 1), 0, 0, 0, [], 0),
  (27, (.invokevirtual 99, 3), 169, 1, 0, [0, 1, 4231], 0),
  (30, (.if_icmp .ge 24, 3), 54, 0, 0, [], 0),
  (33, (.iload_n 1, 1), 1, 0, 0, [], 0),
  (34, (.iload_n 2, 1), 2, 0, 0, [], 0),
  (35, (.invokestatic 171, 3), 164, 2, 0, [1, 1, 5090], 0),
  (38, (.ifCond .ne 10, 3), 48, 0, 0, [], 0),
  (41, (.aload_n 0, 1), 0, 0, 0, [], 0)]),
 (82, [(42, (.getfield 42, 3), 10, 11, 0, [1, 4114], 0),
  (45, (.iload_n 2, 1), 2, 0, 0, [], 0),
  (46, (.iconst 0, 1), 0, 0, 0, [], 0),
  (47, (.iastore, 1), 0, 0, 0, [], 0),
  (48, (.iinc 2 1, 3), 2, 0, 1, [], 0),
  (51, (.goto (-26), 3), 25, 0, 0, [], 2),
  (54, (.aload_n 0, 1), 0, 0, 0, [], 0),
  (55, (.iconst 0, 1), 0, 0, 0, [], 0),
  (56, (.invokevirtual 186, 3), 204, 2, 0, [0, 1, 5109], 0),
  (59, (.ifCond .eq 21, 3), 80, 0, 0, [], 0),
  (62, (.aload_n 0, 1), 0, 0, 0, [], 0),
  (63, (.aload_n 0, 1), 0, 0, 0, [], 0),
  (64, (.invokevirtual 99, 3), 169, 1, 0, [0, 1, 4231], 0),
  (67, (.aload_n 0, 1), 0, 0, 0, [], 0),
  (68, (.getfield 36, 3), 10, 9, 0, [1, 4112], 0),
  (71, (.iconst 0, 1), 0, 0, 0, [], 0),
  (72, (.iaload, 1), 20, 0, 0, [], 0),
  (73, (.isub, 1), 0, 0, 0, [], 0),
  (74, (.invokevirtual 211, 3), 202, 2, 0, [0, 1, 5168], 0),
  (77, (.goto 4, 3), 81, 0, 0, [], 0),
  (80, (.iconst 0, 1), 0, 0, 0, [], 0),
  (81, (.ireturn, 1), 0, 0, 0, [], 0)])]
/-- LampPressesModel.only(I)I -/
def lp_c238 : List (Nat × List lp_E) := [(40, [(0, (.aload_n 0, 1), 0, 0, 0, [], 0),
  (1, (.iload_n 1, 1), 1, 0, 0, [], 0),
  (2, (.invokevirtual 244, 3), 236, 2, 0, [0, 1, 6020], 0),
  (5, (.ifCond .ne 5, 3), 10, 0, 0, [], 0),
  (8, (.iconst (-1), 1), 0, 0, (-1), [], 0),
  (9, (.ireturn, 1), 0, 0, 0, [], 0),
  (10, (.aload_n 0, 1), 0, 0, 0, [], 0),
  (11, (.iload_n 1, 1), 1, 0, 0, [], 0),
  (12, (.aload_n 0, 1), 0, 0, 0, [], 0),
  (13, (.invokevirtual 192, 3), 201, 1, 0, [0, 1, 5079], 0),
  (16, (.invokevirtual 195, 3), 199, 3, 0, [0, 0, 5083], 0),
  (19, (.aload_n 0, 1), 0, 0, 0, [], 0),
  (20, (.invokevirtual 198, 3), 203, 1, 0, [0, 0, 5105], 0),
  (23, (.iconst 0, 1), 0, 0, 0, [], 0),
  (24, (.istore_n 2, 1), 2, 0, 0, [], 0),
  (25, (.iconst 0, 1), 0, 0, 0, [], 0),
  (26, (.istore_n 3, 1), 3, 0, 0, [], 1),
  (27, (.iload_n 3, 1), 3, 0, 0, [], 0),
  (28, (.aload_n 0, 1), 0, 0, 0, [], 0),
  (29, (.invokevirtual 99, 3), 169, 1, 0, [0, 1, 4231], 0),
  (32, (.if_icmp .ge 20, 3), 52, 0, 0, [], 0),
  (35, (.iload_n 1, 1), 1, 0, 0, [], 0),
  (36, (.iload_n 3, 1), 3, 0, 0, [], 0),
  (37, (.invokestatic 171, 3), 164, 2, 0, [1, 1, 5090], 0)]),
 (77, [(40, (.ifCond .eq 6, 3), 46, 0, 0, [], 0),
  (43, (.iinc 2 1, 3), 2, 0, 1, [], 0),
  (46, (.iinc 3 1, 3), 3, 0, 1, [], 0),
  (49, (.goto (-22), 3), 27, 0, 0, [], 2),
  (52, (.aload_n 0, 1), 0, 0, 0, [], 0),
  (53, (.iconst 0, 1), 0, 0, 0, [], 0),
  (54, (.invokevirtual 186, 3), 204, 2, 0, [0, 1, 5109], 0),
  (57, (.ifCond .eq 18, 3), 75, 0, 0, [], 0),
  (60, (.aload_n 0, 1), 0, 0, 0, [], 0),
  (61, (.iload_n 2, 1), 2, 0, 0, [], 0),
  (62, (.aload_n 0, 1), 0, 0, 0, [], 0),
  (63, (.getfield 36, 3), 10, 9, 0, [1, 4112], 0),
  (66, (.iconst 0, 1), 0, 0, 0, [], 0),
  (67, (.iaload, 1), 20, 0, 0, [], 0),
  (68, (.isub, 1), 0, 0, 0, [], 0),
  (69, (.invokevirtual 211, 3), 202, 2, 0, [0, 1, 5168], 0),
  (72, (.goto 4, 3), 76, 0, 0, [], 0),
  (75, (.iconst 0, 1), 0, 0, 0, [], 0),
  (76, (.ireturn, 1), 0, 0, 0, [], 0)])]
/-- LampPressesModel.offBehind(I)I -/
def lp_c239 : List (Nat × List lp_E) := [(37, [(0, (.iconst 0, 1), 0, 0, 0, [], 0),
  (1, (.istore_n 2, 1), 2, 0, 0, [], 0),
  (2, (.iconst 0, 1), 0, 0, 0, [], 0),
  (3, (.istore_n 3, 1), 3, 0, 0, [], 1),
  (4, (.iload_n 3, 1), 3, 0, 0, [], 0),
  (5, (.aload_n 0, 1), 0, 0, 0, [], 0),
  (6, (.invokevirtual 99, 3), 169, 1, 0, [0, 1, 4231], 0),
  (9, (.if_icmp .ge 42, 3), 51, 0, 0, [], 0),
  (12, (.aload_n 0, 1), 0, 0, 0, [], 0),
  (13, (.getfield 69, 3), 10, 22, 0, [1, 4125], 0),
  (16, (.iload_n 3, 1), 3, 0, 0, [], 0),
  (17, (.iaload, 1), 20, 0, 0, [], 0),
  (18, (.aload_n 0, 1), 0, 0, 0, [], 0),
  (19, (.iload_n 1, 1), 1, 0, 0, [], 0),
  (20, (.iload_n 3, 1), 3, 0, 0, [], 0),
  (21, (.invokevirtual 143, 3), 185, 3, 0, [0, 1, 5059], 0),
  (24, (.iadd, 1), 0, 0, 0, [], 0),
  (25, (.aload_n 0, 1), 0, 0, 0, [], 0),
  (26, (.invokevirtual 107, 3), 168, 1, 0, [0, 1, 4224], 0),
  (29, (.irem, 1), 0, 0, 0, [], 0),
  (30, (.aload_n 0, 1), 0, 0, 0, [], 0),
  (31, (.getfield 13, 3), 10, 1, 0, [1, 4104], 0),
  (34, (.bipush 24, 2), 0, 0, 24, [], 0),
  (36, (.iload_n 3, 1), 3, 0, 0, [], 0)]),
 (53, [(37, (.iadd, 1), 0, 0, 0, [], 0),
  (38, (.iaload, 1), 20, 0, 0, [], 0),
  (39, (.if_icmp .eq 6, 3), 45, 0, 0, [], 0),
  (42, (.iinc 2 1, 3), 2, 0, 1, [], 0),
  (45, (.iinc 3 1, 3), 3, 0, 1, [], 0),
  (48, (.goto (-44), 3), 4, 0, 0, [], 2),
  (51, (.iload_n 2, 1), 2, 0, 0, [], 0),
  (52, (.ireturn, 1), 0, 0, 0, [], 0)])]
def lp_c240_0 : List lp_E := [(0, (.iload_n 1, 1), 1, 0, 0, [], 0),
  (1, (.iconst 0, 1), 0, 0, 0, [], 0),
  (2, (.iconst 1, 1), 0, 0, 1, [], 0),
  (3, (.invokestatic 103, 3), 163, 3, 0, [1, 1, 4228], 0),
  (6, (.ifCond .ne 5, 3), 11, 0, 0, [], 0),
  (9, (.iconst (-1), 1), 0, 0, (-1), [], 0),
  (10, (.ireturn, 1), 0, 0, 0, [], 0),
  (11, (.iconst 0, 1), 0, 0, 0, [], 0),
  (12, (.istore_n 2, 1), 2, 0, 0, [], 1),
  (13, (.iload_n 2, 1), 2, 0, 0, [], 0),
  (14, (.aload_n 0, 1), 0, 0, 0, [], 0),
  (15, (.invokevirtual 99, 3), 169, 1, 0, [0, 1, 4231], 0),
  (18, (.if_icmp .ge 23, 3), 41, 0, 0, [], 0),
  (21, (.aload_n 0, 1), 0, 0, 0, [], 0),
  (22, (.getfield 69, 3), 10, 22, 0, [1, 4125], 0),
  (25, (.iload_n 2, 1), 2, 0, 0, [], 0),
  (26, (.aload_n 0, 1), 0, 0, 0, [], 0),
  (27, (.getfield 13, 3), 10, 1, 0, [1, 4104], 0),
  (30, (.iconst 4, 1), 0, 0, 4, [], 0),
  (31, (.iload_n 2, 1), 2, 0, 0, [], 0),
  (32, (.iadd, 1), 0, 0, 0, [], 0),
  (33, (.iaload, 1), 20, 0, 0, [], 0),
  (34, (.iastore, 1), 0, 0, 0, [], 0),
  (35, (.iinc 2 1, 3), 2, 0, 1, [], 0)]
def lp_c240_1 : List lp_E := [(38, (.goto (-25), 3), 13, 0, 0, [], 2),
  (41, (.aload_n 0, 1), 0, 0, 0, [], 0),
  (42, (.invokevirtual 150, 3), 230, 1, 0, [0, 1, 5067], 0),
  (45, (.istore_n 2, 1), 2, 0, 0, [], 0),
  (46, (.iconst 0, 1), 0, 0, 0, [], 0),
  (47, (.istore_n 3, 1), 3, 0, 0, [], 0),
  (48, (.iconst 1, 1), 0, 0, 1, [], 0),
  (49, (.istore 4, 2), 4, 0, 0, [], 1),
  (51, (.iload 4, 2), 4, 0, 0, [], 0),
  (53, (.ifCond .eq 121, 3), 174, 0, 0, [], 0),
  (56, (.iconst (-1), 1), 0, 0, (-1), [], 0),
  (57, (.istore 5, 2), 5, 0, 0, [], 0),
  (59, (.iconst 0, 1), 0, 0, 0, [], 0),
  (60, (.istore 6, 2), 6, 0, 0, [], 1),
  (62, (.iload 6, 2), 6, 0, 0, [], 0),
  (64, (.aload_n 0, 1), 0, 0, 0, [], 0),
  (65, (.invokevirtual 99, 3), 169, 1, 0, [0, 1, 4231], 0),
  (68, (.if_icmp .ge 33, 3), 101, 0, 0, [], 0),
  (71, (.aload_n 0, 1), 0, 0, 0, [], 0),
  (72, (.iload 6, 2), 6, 0, 0, [], 0),
  (74, (.invokevirtual 247, 3), 239, 2, 0, [0, 1, 6032], 0),
  (77, (.istore 7, 2), 7, 0, 0, [], 0),
  (79, (.iload 7, 2), 7, 0, 0, [], 0),
  (81, (.iload_n 2, 1), 2, 0, 0, [], 0)]
def lp_c240_2 : List lp_E := [(82, (.if_icmp .lt 6, 3), 88, 0, 0, [], 0),
  (85, (.goto 10, 3), 95, 0, 0, [], 0),
  (88, (.iload 7, 2), 7, 0, 0, [], 0),
  (90, (.istore_n 2, 1), 2, 0, 0, [], 0),
  (91, (.iload 6, 2), 6, 0, 0, [], 0),
  (93, (.istore 5, 2), 5, 0, 0, [], 0),
  (95, (.iinc 6 1, 3), 6, 0, 1, [], 0),
  (98, (.goto (-36), 3), 62, 0, 0, [], 2),
  (101, (.iload 5, 2), 5, 0, 0, [], 0),
  (103, (.iconst (-1), 1), 0, 0, (-1), [], 0),
  (104, (.if_icmp .eq 7, 3), 111, 0, 0, [], 0),
  (107, (.iconst 1, 1), 0, 0, 1, [], 0),
  (108, (.goto 4, 3), 112, 0, 0, [], 0),
  (111, (.iconst 0, 1), 0, 0, 0, [], 0),
  (112, (.istore 4, 2), 4, 0, 0, [], 0),
  (114, (.iload 4, 2), 4, 0, 0, [], 0),
  (116, (.ifCond .ne 6, 3), 122, 0, 0, [], 0),
  (119, (.goto (-68), 3), 51, 0, 0, [], 2),
  (122, (.iinc 3 1, 3), 3, 0, 1, [], 0),
  (125, (.iconst 0, 1), 0, 0, 0, [], 0),
  (126, (.istore 6, 2), 6, 0, 0, [], 1),
  (128, (.iload 6, 2), 6, 0, 0, [], 0),
  (130, (.aload_n 0, 1), 0, 0, 0, [], 0),
  (131, (.invokevirtual 99, 3), 169, 1, 0, [0, 1, 4231], 0)]
def lp_c240_3 : List lp_E := [(134, (.if_icmp .ge 37, 3), 171, 0, 0, [], 0),
  (137, (.aload_n 0, 1), 0, 0, 0, [], 0),
  (138, (.getfield 69, 3), 10, 22, 0, [1, 4125], 0),
  (141, (.iload 6, 2), 6, 0, 0, [], 0),
  (143, (.aload_n 0, 1), 0, 0, 0, [], 0),
  (144, (.getfield 69, 3), 10, 22, 0, [1, 4125], 0),
  (147, (.iload 6, 2), 6, 0, 0, [], 0),
  (149, (.iaload, 1), 20, 0, 0, [], 0),
  (150, (.aload_n 0, 1), 0, 0, 0, [], 0),
  (151, (.iload 5, 2), 5, 0, 0, [], 0),
  (153, (.iload 6, 2), 6, 0, 0, [], 0),
  (155, (.invokevirtual 143, 3), 185, 3, 0, [0, 1, 5059], 0),
  (158, (.iadd, 1), 0, 0, 0, [], 0),
  (159, (.aload_n 0, 1), 0, 0, 0, [], 0),
  (160, (.invokevirtual 107, 3), 168, 1, 0, [0, 1, 4224], 0),
  (163, (.irem, 1), 0, 0, 0, [], 0),
  (164, (.iastore, 1), 0, 0, 0, [], 0),
  (165, (.iinc 6 1, 3), 6, 0, 1, [], 0),
  (168, (.goto (-40), 3), 128, 0, 0, [], 2),
  (171, (.goto (-120), 3), 51, 0, 0, [], 2),
  (174, (.iload_n 1, 1), 1, 0, 0, [], 0),
  (175, (.ifCond .ne 7, 3), 182, 0, 0, [], 0),
  (178, (.iload_n 3, 1), 3, 0, 0, [], 0),
  (179, (.goto 4, 3), 183, 0, 0, [], 0)]
def lp_c240_4 : List lp_E := [(182, (.iload_n 2, 1), 2, 0, 0, [], 0),
  (183, (.ireturn, 1), 0, 0, 0, [], 0)]
/-- LampPressesModel.greedy(I)I -/
def lp_c240 : List (Nat × List lp_E) := [(38, lp_c240_0), (82, lp_c240_1), (134, lp_c240_2), (182, lp_c240_3), (184, lp_c240_4)]
/-- LampPressesModel.after(II)I -/
def lp_c241 : List (Nat × List lp_E) := [(40, [(0, (.aload_n 0, 1), 0, 0, 0, [], 0),
  (1, (.iload_n 1, 1), 1, 0, 0, [], 0),
  (2, (.invokevirtual 129, 3), 170, 2, 0, [0, 1, 5009], 0),
  (5, (.ifCond .eq 34, 3), 39, 0, 0, [], 0),
  (8, (.aload_n 0, 1), 0, 0, 0, [], 0),
  (9, (.iload_n 2, 1), 2, 0, 0, [], 0),
  (10, (.invokevirtual 129, 3), 170, 2, 0, [0, 1, 5009], 0),
  (13, (.ifCond .eq 26, 3), 39, 0, 0, [], 0),
  (16, (.aload_n 0, 1), 0, 0, 0, [], 0),
  (17, (.getfield 13, 3), 10, 1, 0, [1, 4104], 0),
  (20, (.iconst 4, 1), 0, 0, 4, [], 0),
  (21, (.iload_n 2, 1), 2, 0, 0, [], 0),
  (22, (.iadd, 1), 0, 0, 0, [], 0),
  (23, (.iaload, 1), 20, 0, 0, [], 0),
  (24, (.aload_n 0, 1), 0, 0, 0, [], 0),
  (25, (.iload_n 1, 1), 1, 0, 0, [], 0),
  (26, (.iload_n 2, 1), 2, 0, 0, [], 0),
  (27, (.invokevirtual 143, 3), 185, 3, 0, [0, 1, 5059], 0),
  (30, (.iadd, 1), 0, 0, 0, [], 0),
  (31, (.aload_n 0, 1), 0, 0, 0, [], 0),
  (32, (.invokevirtual 107, 3), 168, 1, 0, [0, 1, 4224], 0),
  (35, (.irem, 1), 0, 0, 0, [], 0),
  (36, (.goto 4, 3), 40, 0, 0, [], 0),
  (39, (.iconst (-1), 1), 0, 0, (-1), [], 0)]),
 (41, [(40, (.ireturn, 1), 0, 0, 0, [], 0)])]
/-- LampPressesModel.cycle(I)I -/
def lp_c242 : List (Nat × List lp_E) := [(42, [(0, (.aload_n 0, 1), 0, 0, 0, [], 0),
  (1, (.iload_n 1, 1), 1, 0, 0, [], 0),
  (2, (.invokevirtual 129, 3), 170, 2, 0, [0, 1, 5009], 0),
  (5, (.ifCond .ne 5, 3), 10, 0, 0, [], 0),
  (8, (.iconst (-1), 1), 0, 0, (-1), [], 0),
  (9, (.ireturn, 1), 0, 0, 0, [], 0),
  (10, (.iconst 0, 1), 0, 0, 0, [], 0),
  (11, (.istore_n 2, 1), 2, 0, 0, [], 1),
  (12, (.iload_n 2, 1), 2, 0, 0, [], 0),
  (13, (.aload_n 0, 1), 0, 0, 0, [], 0),
  (14, (.invokevirtual 99, 3), 169, 1, 0, [0, 1, 4231], 0),
  (17, (.if_icmp .ge 23, 3), 40, 0, 0, [], 0),
  (20, (.aload_n 0, 1), 0, 0, 0, [], 0),
  (21, (.iload_n 1, 1), 1, 0, 0, [], 0),
  (22, (.iload_n 2, 1), 2, 0, 0, [], 0),
  (23, (.invokevirtual 143, 3), 185, 3, 0, [0, 1, 5059], 0),
  (26, (.ifCond .le 8, 3), 34, 0, 0, [], 0),
  (29, (.aload_n 0, 1), 0, 0, 0, [], 0),
  (30, (.invokevirtual 107, 3), 168, 1, 0, [0, 1, 4224], 0),
  (33, (.ireturn, 1), 0, 0, 0, [], 0),
  (34, (.iinc 2 1, 3), 2, 0, 1, [], 0),
  (37, (.goto (-25), 3), 12, 0, 0, [], 2),
  (40, (.iconst 1, 1), 0, 0, 1, [], 0),
  (41, (.ireturn, 1), 0, 0, 0, [], 0)])]
/-- LampPressesModel.ways()I -/
def lp_c243 : List (Nat × List lp_E) := [(9, [(0, (.aload_n 0, 1), 0, 0, 0, [], 0),
  (1, (.aload_n 0, 1), 0, 0, 0, [], 0),
  (2, (.invokevirtual 208, 3), 212, 1, 0, [0, 1, 5160], 0),
  (5, (.invokevirtual 211, 3), 202, 2, 0, [0, 1, 5168], 0),
  (8, (.ireturn, 1), 0, 0, 0, [], 0)])]
/-- LampPressesModel.hub()I -/
def lp_c244 : List (Nat × List lp_E) := [(40, [(0, (.bipush (-2), 2), 0, 0, (-2), [], 0),
  (2, (.istore_n 1, 1), 1, 0, 0, [], 0),
  (3, (.iconst (-1), 1), 0, 0, (-1), [], 0),
  (4, (.istore_n 2, 1), 2, 0, 0, [], 0),
  (5, (.iconst 0, 1), 0, 0, 0, [], 0),
  (6, (.istore_n 3, 1), 3, 0, 0, [], 1),
  (7, (.iload_n 3, 1), 3, 0, 0, [], 0),
  (8, (.aload_n 0, 1), 0, 0, 0, [], 0),
  (9, (.invokevirtual 99, 3), 169, 1, 0, [0, 1, 4231], 0),
  (12, (.if_icmp .ge 31, 3), 43, 0, 0, [], 0),
  (15, (.aload_n 0, 1), 0, 0, 0, [], 0),
  (16, (.iload_n 3, 1), 3, 0, 0, [], 0),
  (17, (.iconst 3, 1), 0, 0, 3, [], 0),
  (18, (.invokevirtual 250, 3), 210, 3, 0, [0, 1, 6052], 0),
  (21, (.istore 4, 2), 4, 0, 0, [], 0),
  (23, (.iload 4, 2), 4, 0, 0, [], 0),
  (25, (.iload_n 2, 1), 2, 0, 0, [], 0),
  (26, (.if_icmp .gt 6, 3), 32, 0, 0, [], 0),
  (29, (.goto 8, 3), 37, 0, 0, [], 0),
  (32, (.iload 4, 2), 4, 0, 0, [], 0),
  (34, (.istore_n 2, 1), 2, 0, 0, [], 0),
  (35, (.iload_n 3, 1), 3, 0, 0, [], 0),
  (36, (.istore_n 1, 1), 1, 0, 0, [], 0),
  (37, (.iinc 3 1, 3), 3, 0, 1, [], 0)]),
 (45, [(40, (.goto (-33), 3), 7, 0, 0, [], 2),
  (43, (.iload_n 1, 1), 1, 0, 0, [], 0),
  (44, (.ireturn, 1), 0, 0, 0, [], 0)])]
/-- LampPressesModel.book(II)I -/
def lp_c245 : List (Nat × List lp_E) := [(40, [(0, (.iload_n 1, 1), 1, 0, 0, [], 0),
  (1, (.iconst 0, 1), 0, 0, 0, [], 0),
  (2, (.aload_n 0, 1), 0, 0, 0, [], 0),
  (3, (.getfield 13, 3), 10, 1, 0, [1, 4104], 0),
  (6, (.iconst 3, 1), 0, 0, 3, [], 0),
  (7, (.iaload, 1), 20, 0, 0, [], 0),
  (8, (.iconst 1, 1), 0, 0, 1, [], 0),
  (9, (.isub, 1), 0, 0, 0, [], 0),
  (10, (.invokestatic 103, 3), 163, 3, 0, [1, 1, 4228], 0),
  (13, (.ifCond .eq 12, 3), 25, 0, 0, [], 0),
  (16, (.iload_n 2, 1), 2, 0, 0, [], 0),
  (17, (.iconst 0, 1), 0, 0, 0, [], 0),
  (18, (.iconst 1, 1), 0, 0, 1, [], 0),
  (19, (.invokestatic 103, 3), 163, 3, 0, [1, 1, 4228], 0),
  (22, (.ifCond .ne 5, 3), 27, 0, 0, [], 0),
  (25, (.iconst (-1), 1), 0, 0, (-1), [], 0),
  (26, (.ireturn, 1), 0, 0, 0, [], 0),
  (27, (.aload_n 0, 1), 0, 0, 0, [], 0),
  (28, (.getfield 13, 3), 10, 1, 0, [1, 4104], 0),
  (31, (.sipush 134, 3), 0, 0, 134, [], 0),
  (34, (.iconst 2, 1), 0, 0, 2, [], 0),
  (35, (.aload_n 0, 1), 0, 0, 0, [], 0),
  (36, (.getfield 13, 3), 10, 1, 0, [1, 4104], 0),
  (39, (.iconst 3, 1), 0, 0, 3, [], 0)]),
 (51, [(40, (.iaload, 1), 20, 0, 0, [], 0),
  (41, (.iconst 1, 1), 0, 0, 1, [], 0),
  (42, (.isub, 1), 0, 0, 0, [], 0),
  (43, (.iload_n 1, 1), 1, 0, 0, [], 0),
  (44, (.isub, 1), 0, 0, 0, [], 0),
  (45, (.imul, 1), 0, 0, 0, [], 0),
  (46, (.iadd, 1), 0, 0, 0, [], 0),
  (47, (.iload_n 2, 1), 2, 0, 0, [], 0),
  (48, (.iadd, 1), 0, 0, 0, [], 0),
  (49, (.iaload, 1), 20, 0, 0, [], 0),
  (50, (.ireturn, 1), 0, 0, 0, [], 0)])]
/-- LampPressesModel.isLeveled()Z -/
def lp_c246 : List (Nat × List lp_E) := [(19, [(0, (.aload_n 0, 1), 0, 0, 0, [], 0),
  (1, (.aload_n 0, 1), 0, 0, 0, [], 0),
  (2, (.invokevirtual 99, 3), 169, 1, 0, [0, 1, 4231], 0),
  (5, (.invokevirtual 211, 3), 202, 2, 0, [0, 1, 5168], 0),
  (8, (.ldc 72, 2), 0, 0, 60000, [0, 4100], 0),
  (10, (.if_icmp .gt 7, 3), 17, 0, 0, [], 0),
  (13, (.iconst 1, 1), 0, 0, 1, [], 0),
  (14, (.goto 4, 3), 18, 0, 0, [], 0),
  (17, (.iconst 0, 1), 0, 0, 0, [], 0),
  (18, (.ireturn, 1), 1, 0, 0, [], 0)])]
/-- LampPressesModel.wayNow()I -/
def lp_c247 : List (Nat × List lp_E) := [(36, [(0, (.iconst 0, 1), 0, 0, 0, [], 0),
  (1, (.istore_n 1, 1), 1, 0, 0, [], 0),
  (2, (.iconst 0, 1), 0, 0, 0, [], 0),
  (3, (.istore_n 2, 1), 2, 0, 0, [], 1),
  (4, (.iload_n 2, 1), 2, 0, 0, [], 0),
  (5, (.aload_n 0, 1), 0, 0, 0, [], 0),
  (6, (.invokevirtual 99, 3), 169, 1, 0, [0, 1, 4231], 0),
  (9, (.if_icmp .ge 25, 3), 34, 0, 0, [], 0),
  (12, (.aload_n 0, 1), 0, 0, 0, [], 0),
  (13, (.invokevirtual 107, 3), 168, 1, 0, [0, 1, 4224], 0),
  (16, (.iload_n 1, 1), 1, 0, 0, [], 0),
  (17, (.imul, 1), 0, 0, 0, [], 0),
  (18, (.aload_n 0, 1), 0, 0, 0, [], 0),
  (19, (.getfield 13, 3), 10, 1, 0, [1, 4104], 0),
  (22, (.iconst 4, 1), 0, 0, 4, [], 0),
  (23, (.iload_n 2, 1), 2, 0, 0, [], 0),
  (24, (.iadd, 1), 0, 0, 0, [], 0),
  (25, (.iaload, 1), 20, 0, 0, [], 0),
  (26, (.iadd, 1), 0, 0, 0, [], 0),
  (27, (.istore_n 1, 1), 1, 0, 0, [], 0),
  (28, (.iinc 2 1, 3), 2, 0, 1, [], 0),
  (31, (.goto (-27), 3), 4, 0, 0, [], 2),
  (34, (.iload_n 1, 1), 1, 0, 0, [], 0),
  (35, (.ireturn, 1), 0, 0, 0, [], 0)])]
/-- LampPressesModel.digitOf(II)I -/
def lp_c248 : List (Nat × List lp_E) := [(20, [(0, (.iload_n 1, 1), 1, 0, 0, [], 0),
  (1, (.aload_n 0, 1), 0, 0, 0, [], 0),
  (2, (.aload_n 0, 1), 0, 0, 0, [], 0),
  (3, (.invokevirtual 99, 3), 169, 1, 0, [0, 1, 4231], 0),
  (6, (.iconst 1, 1), 0, 0, 1, [], 0),
  (7, (.isub, 1), 0, 0, 0, [], 0),
  (8, (.iload_n 2, 1), 2, 0, 0, [], 0),
  (9, (.isub, 1), 0, 0, 0, [], 0),
  (10, (.invokevirtual 211, 3), 202, 2, 0, [0, 1, 5168], 0),
  (13, (.idiv, 1), 0, 0, 0, [], 0),
  (14, (.aload_n 0, 1), 0, 0, 0, [], 0),
  (15, (.invokevirtual 107, 3), 168, 1, 0, [0, 1, 4224], 0),
  (18, (.irem, 1), 0, 0, 0, [], 0),
  (19, (.ireturn, 1), 0, 0, 0, [], 0)])]
/-- LampPressesModel.behind(II)I -/
def lp_c249 : List (Nat × List lp_E) := [(39, [(0, (.iload_n 1, 1), 1, 0, 0, [], 0),
  (1, (.istore_n 3, 1), 3, 0, 0, [], 0),
  (2, (.iconst 1, 1), 0, 0, 1, [], 0),
  (3, (.istore 4, 2), 4, 0, 0, [], 0),
  (5, (.aload_n 0, 1), 0, 0, 0, [], 0),
  (6, (.invokevirtual 99, 3), 169, 1, 0, [0, 1, 4231], 0),
  (9, (.iconst 1, 1), 0, 0, 1, [], 0),
  (10, (.isub, 1), 0, 0, 0, [], 0),
  (11, (.istore 5, 2), 5, 0, 0, [], 1),
  (13, (.iload 5, 2), 5, 0, 0, [], 0),
  (15, (.ifCond .lt 53, 3), 68, 0, 0, [], 0),
  (18, (.iload_n 1, 1), 1, 0, 0, [], 0),
  (19, (.iload 4, 2), 4, 0, 0, [], 0),
  (21, (.idiv, 1), 0, 0, 0, [], 0),
  (22, (.aload_n 0, 1), 0, 0, 0, [], 0),
  (23, (.invokevirtual 107, 3), 168, 1, 0, [0, 1, 4224], 0),
  (26, (.irem, 1), 0, 0, 0, [], 0),
  (27, (.istore 6, 2), 6, 0, 0, [], 0),
  (29, (.iload_n 3, 1), 3, 0, 0, [], 0),
  (30, (.iload 6, 2), 6, 0, 0, [], 0),
  (32, (.aload_n 0, 1), 0, 0, 0, [], 0),
  (33, (.iload_n 2, 1), 2, 0, 0, [], 0),
  (34, (.iload 5, 2), 5, 0, 0, [], 0),
  (36, (.invokevirtual 143, 3), 185, 3, 0, [0, 1, 5059], 0)]),
 (70, [(39, (.iadd, 1), 0, 0, 0, [], 0),
  (40, (.aload_n 0, 1), 0, 0, 0, [], 0),
  (41, (.invokevirtual 107, 3), 168, 1, 0, [0, 1, 4224], 0),
  (44, (.irem, 1), 0, 0, 0, [], 0),
  (45, (.iload 6, 2), 6, 0, 0, [], 0),
  (47, (.isub, 1), 0, 0, 0, [], 0),
  (48, (.iload 4, 2), 4, 0, 0, [], 0),
  (50, (.imul, 1), 0, 0, 0, [], 0),
  (51, (.iadd, 1), 0, 0, 0, [], 0),
  (52, (.istore_n 3, 1), 3, 0, 0, [], 0),
  (53, (.iload 4, 2), 4, 0, 0, [], 0),
  (55, (.aload_n 0, 1), 0, 0, 0, [], 0),
  (56, (.invokevirtual 107, 3), 168, 1, 0, [0, 1, 4224], 0),
  (59, (.imul, 1), 0, 0, 0, [], 0),
  (60, (.istore 4, 2), 4, 0, 0, [], 0),
  (62, (.iinc 5 (-1), 3), 5, 0, (-1), [], 0),
  (65, (.goto (-52), 3), 13, 0, 0, [], 2),
  (68, (.iload_n 3, 1), 3, 0, 0, [], 0),
  (69, (.ireturn, 1), 0, 0, 0, [], 0)])]
def lp_c250_0 : List lp_E := [(0, (.aload_n 0, 1), 0, 0, 0, [], 0),
  (1, (.aload_n 0, 1), 0, 0, 0, [], 0),
  (2, (.invokevirtual 99, 3), 169, 1, 0, [0, 1, 4231], 0),
  (5, (.invokevirtual 211, 3), 202, 2, 0, [0, 1, 5168], 0),
  (8, (.istore_n 1, 1), 1, 0, 0, [], 0),
  (9, (.iconst 0, 1), 0, 0, 0, [], 0),
  (10, (.istore_n 2, 1), 2, 0, 0, [], 1),
  (11, (.iload_n 2, 1), 2, 0, 0, [], 0),
  (12, (.iload_n 1, 1), 1, 0, 0, [], 0),
  (13, (.if_icmp .ge 16, 3), 29, 0, 0, [], 0),
  (16, (.aload_n 0, 1), 0, 0, 0, [], 0),
  (17, (.getfield 73, 3), 10, 23, 0, [1, 4126], 0),
  (20, (.iload_n 2, 1), 2, 0, 0, [], 0),
  (21, (.iconst (-1), 1), 0, 0, (-1), [], 0),
  (22, (.iastore, 1), 0, 0, 0, [], 0),
  (23, (.iinc 2 1, 3), 2, 0, 1, [], 0),
  (26, (.goto (-15), 3), 11, 0, 0, [], 2),
  (29, (.aload_n 0, 1), 0, 0, 0, [], 0),
  (30, (.getfield 76, 3), 10, 24, 0, [1, 4127], 0),
  (33, (.iconst 0, 1), 0, 0, 0, [], 0),
  (34, (.aload_n 0, 1), 0, 0, 0, [], 0),
  (35, (.invokevirtual 253, 3), 247, 1, 0, [0, 1, 6069], 0),
  (38, (.iastore, 1), 0, 0, 0, [], 0),
  (39, (.aload_n 0, 1), 0, 0, 0, [], 0)]
def lp_c250_1 : List lp_E := [(40, (.getfield 73, 3), 10, 23, 0, [1, 4126], 0),
  (43, (.aload_n 0, 1), 0, 0, 0, [], 0),
  (44, (.getfield 76, 3), 10, 24, 0, [1, 4127], 0),
  (47, (.iconst 0, 1), 0, 0, 0, [], 0),
  (48, (.iaload, 1), 20, 0, 0, [], 0),
  (49, (.iconst 0, 1), 0, 0, 0, [], 0),
  (50, (.iastore, 1), 0, 0, 0, [], 0),
  (51, (.aload_n 0, 1), 0, 0, 0, [], 0),
  (52, (.iconst 1, 1), 0, 0, 1, [], 0),
  (53, (.putfield 256, 3), 10, 25, 0, [0, 4128, 0], 0),
  (56, (.iconst 0, 1), 0, 0, 0, [], 0),
  (57, (.istore_n 2, 1), 2, 0, 0, [], 1),
  (58, (.iload_n 2, 1), 2, 0, 0, [], 0),
  (59, (.aload_n 0, 1), 0, 0, 0, [], 0),
  (60, (.getfield 256, 3), 10, 25, 0, [0, 4128], 0),
  (63, (.if_icmp .ge 93, 3), 156, 0, 0, [], 0),
  (66, (.iconst 0, 1), 0, 0, 0, [], 0),
  (67, (.istore_n 3, 1), 3, 0, 0, [], 1),
  (68, (.iload_n 3, 1), 3, 0, 0, [], 0),
  (69, (.aload_n 0, 1), 0, 0, 0, [], 0),
  (70, (.invokevirtual 99, 3), 169, 1, 0, [0, 1, 4231], 0),
  (73, (.if_icmp .ge 77, 3), 150, 0, 0, [], 0),
  (76, (.aload_n 0, 1), 0, 0, 0, [], 0),
  (77, (.aload_n 0, 1), 0, 0, 0, [], 0)]
def lp_c250_2 : List lp_E := [(78, (.getfield 76, 3), 10, 24, 0, [1, 4127], 0),
  (81, (.iload_n 2, 1), 2, 0, 0, [], 0),
  (82, (.iaload, 1), 20, 0, 0, [], 0),
  (83, (.iload_n 3, 1), 3, 0, 0, [], 0),
  (84, (.invokevirtual 259, 3), 249, 3, 0, [0, 1, 6073], 0),
  (87, (.istore 4, 2), 4, 0, 0, [], 0),
  (89, (.aload_n 0, 1), 0, 0, 0, [], 0),
  (90, (.getfield 73, 3), 10, 23, 0, [1, 4126], 0),
  (93, (.iload 4, 2), 4, 0, 0, [], 0),
  (95, (.iaload, 1), 20, 0, 0, [], 0),
  (96, (.iconst (-1), 1), 0, 0, (-1), [], 0),
  (97, (.if_icmp .eq 6, 3), 103, 0, 0, [], 0),
  (100, (.goto 44, 3), 144, 0, 0, [], 0),
  (103, (.aload_n 0, 1), 0, 0, 0, [], 0),
  (104, (.getfield 73, 3), 10, 23, 0, [1, 4126], 0),
  (107, (.iload 4, 2), 4, 0, 0, [], 0),
  (109, (.aload_n 0, 1), 0, 0, 0, [], 0),
  (110, (.getfield 73, 3), 10, 23, 0, [1, 4126], 0),
  (113, (.aload_n 0, 1), 0, 0, 0, [], 0),
  (114, (.getfield 76, 3), 10, 24, 0, [1, 4127], 0),
  (117, (.iload_n 2, 1), 2, 0, 0, [], 0),
  (118, (.iaload, 1), 20, 0, 0, [], 0),
  (119, (.iaload, 1), 20, 0, 0, [], 0),
  (120, (.iconst 1, 1), 0, 0, 1, [], 0)]
def lp_c250_3 : List lp_E := [(121, (.iadd, 1), 0, 0, 0, [], 0),
  (122, (.iastore, 1), 0, 0, 0, [], 0),
  (123, (.aload_n 0, 1), 0, 0, 0, [], 0),
  (124, (.getfield 76, 3), 10, 24, 0, [1, 4127], 0),
  (127, (.aload_n 0, 1), 0, 0, 0, [], 0),
  (128, (.getfield 256, 3), 10, 25, 0, [0, 4128], 0),
  (131, (.iload 4, 2), 4, 0, 0, [], 0),
  (133, (.iastore, 1), 0, 0, 0, [], 0),
  (134, (.aload_n 0, 1), 0, 0, 0, [], 0),
  (135, (.dup, 1), 0, 0, 0, [], 0),
  (136, (.getfield 256, 3), 10, 25, 0, [0, 4128], 0),
  (139, (.iconst 1, 1), 0, 0, 1, [], 0),
  (140, (.iadd, 1), 0, 0, 0, [], 0),
  (141, (.putfield 256, 3), 10, 25, 0, [0, 4128, 0], 0),
  (144, (.iinc 3 1, 3), 3, 0, 1, [], 0),
  (147, (.goto (-79), 3), 68, 0, 0, [], 2),
  (150, (.iinc 2 1, 3), 2, 0, 1, [], 0),
  (153, (.goto (-95), 3), 58, 0, 0, [], 2),
  (156, (.return_, 1), 0, 0, 0, [], 0)]
/-- LampPressesModel.laysLevels()V -/
def lp_c250 : List (Nat × List lp_E) := [(40, lp_c250_0), (78, lp_c250_1), (121, lp_c250_2), (157, lp_c250_3)]
/-- LampPressesModel.deepest()I -/
def lp_c251 : List (Nat × List lp_E) := [(31, [(0, (.aload_n 0, 1), 0, 0, 0, [], 0),
  (1, (.invokevirtual 262, 3), 246, 1, 0, [0, 1, 6061], 0),
  (4, (.ifCond .ne 6, 3), 10, 0, 0, [], 0),
  (7, (.bipush (-3), 2), 0, 0, (-3), [], 0),
  (9, (.ireturn, 1), 0, 0, 0, [], 0),
  (10, (.aload_n 0, 1), 0, 0, 0, [], 0),
  (11, (.invokevirtual 266, 3), 250, 1, 0, [0, 0, 6065], 0),
  (14, (.aload_n 0, 1), 0, 0, 0, [], 0),
  (15, (.getfield 73, 3), 10, 23, 0, [1, 4126], 0),
  (18, (.aload_n 0, 1), 0, 0, 0, [], 0),
  (19, (.getfield 76, 3), 10, 24, 0, [1, 4127], 0),
  (22, (.aload_n 0, 1), 0, 0, 0, [], 0),
  (23, (.getfield 256, 3), 10, 25, 0, [0, 4128], 0),
  (26, (.iconst 1, 1), 0, 0, 1, [], 0),
  (27, (.isub, 1), 0, 0, 0, [], 0),
  (28, (.iaload, 1), 20, 0, 0, [], 0),
  (29, (.iaload, 1), 20, 0, 0, [], 0),
  (30, (.ireturn, 1), 0, 0, 0, [], 0)])]
/-- LampPressesModel.level(I)I -/
def lp_c252 : List (Nat × List lp_E) := [(41, [(0, (.iload_n 1, 1), 1, 0, 0, [], 0),
  (1, (.ifCond .ge 5, 3), 6, 0, 0, [], 0),
  (4, (.iconst (-1), 1), 0, 0, (-1), [], 0),
  (5, (.ireturn, 1), 0, 0, 0, [], 0),
  (6, (.aload_n 0, 1), 0, 0, 0, [], 0),
  (7, (.invokevirtual 262, 3), 246, 1, 0, [0, 1, 6061], 0),
  (10, (.ifCond .ne 6, 3), 16, 0, 0, [], 0),
  (13, (.bipush (-3), 2), 0, 0, (-3), [], 0),
  (15, (.ireturn, 1), 0, 0, 0, [], 0),
  (16, (.aload_n 0, 1), 0, 0, 0, [], 0),
  (17, (.invokevirtual 266, 3), 250, 1, 0, [0, 0, 6065], 0),
  (20, (.iconst 0, 1), 0, 0, 0, [], 0),
  (21, (.istore_n 2, 1), 2, 0, 0, [], 0),
  (22, (.iconst 0, 1), 0, 0, 0, [], 0),
  (23, (.istore_n 3, 1), 3, 0, 0, [], 1),
  (24, (.iload_n 3, 1), 3, 0, 0, [], 0),
  (25, (.aload_n 0, 1), 0, 0, 0, [], 0),
  (26, (.getfield 256, 3), 10, 25, 0, [0, 4128], 0),
  (29, (.if_icmp .ge 27, 3), 56, 0, 0, [], 0),
  (32, (.aload_n 0, 1), 0, 0, 0, [], 0),
  (33, (.getfield 73, 3), 10, 23, 0, [1, 4126], 0),
  (36, (.aload_n 0, 1), 0, 0, 0, [], 0),
  (37, (.getfield 76, 3), 10, 24, 0, [1, 4127], 0),
  (40, (.iload_n 3, 1), 3, 0, 0, [], 0)]),
 (58, [(41, (.iaload, 1), 20, 0, 0, [], 0),
  (42, (.iaload, 1), 20, 0, 0, [], 0),
  (43, (.iload_n 1, 1), 1, 0, 0, [], 0),
  (44, (.if_icmp .ne 6, 3), 50, 0, 0, [], 0),
  (47, (.iinc 2 1, 3), 2, 0, 1, [], 0),
  (50, (.iinc 3 1, 3), 3, 0, 1, [], 0),
  (53, (.goto (-29), 3), 24, 0, 0, [], 2),
  (56, (.iload_n 2, 1), 2, 0, 0, [], 0),
  (57, (.ireturn, 1), 0, 0, 0, [], 0)])]
/-- LampPressesModel.levelOf(I)I -/
def lp_c253 : List (Nat × List lp_E) := [(41, [(0, (.iload_n 1, 1), 1, 0, 0, [], 0),
  (1, (.iconst 0, 1), 0, 0, 0, [], 0),
  (2, (.aload_n 0, 1), 0, 0, 0, [], 0),
  (3, (.aload_n 0, 1), 0, 0, 0, [], 0),
  (4, (.invokevirtual 99, 3), 169, 1, 0, [0, 1, 4231], 0),
  (7, (.invokevirtual 211, 3), 202, 2, 0, [0, 1, 5168], 0),
  (10, (.iconst 1, 1), 0, 0, 1, [], 0),
  (11, (.isub, 1), 0, 0, 0, [], 0),
  (12, (.invokestatic 103, 3), 163, 3, 0, [1, 1, 4228], 0),
  (15, (.ifCond .ne 5, 3), 20, 0, 0, [], 0),
  (18, (.iconst (-1), 1), 0, 0, (-1), [], 0),
  (19, (.ireturn, 1), 0, 0, 0, [], 0),
  (20, (.aload_n 0, 1), 0, 0, 0, [], 0),
  (21, (.invokevirtual 262, 3), 246, 1, 0, [0, 1, 6061], 0),
  (24, (.ifCond .ne 6, 3), 30, 0, 0, [], 0),
  (27, (.bipush (-3), 2), 0, 0, (-3), [], 0),
  (29, (.ireturn, 1), 0, 0, 0, [], 0),
  (30, (.aload_n 0, 1), 0, 0, 0, [], 0),
  (31, (.invokevirtual 266, 3), 250, 1, 0, [0, 0, 6065], 0),
  (34, (.aload_n 0, 1), 0, 0, 0, [], 0),
  (35, (.getfield 73, 3), 10, 23, 0, [1, 4126], 0),
  (38, (.iload_n 1, 1), 1, 0, 0, [], 0),
  (39, (.iaload, 1), 20, 0, 0, [], 0),
  (40, (.iconst (-1), 1), 0, 0, (-1), [], 0)]),
 (56, [(41, (.if_icmp .ne 8, 3), 49, 0, 0, [], 0),
  (44, (.bipush (-2), 2), 0, 0, (-2), [], 0),
  (46, (.goto 9, 3), 55, 0, 0, [], 0),
  (49, (.aload_n 0, 1), 0, 0, 0, [], 0),
  (50, (.getfield 73, 3), 10, 23, 0, [1, 4126], 0),
  (53, (.iload_n 1, 1), 1, 0, 0, [], 0),
  (54, (.iaload, 1), 20, 0, 0, [], 0),
  (55, (.ireturn, 1), 0, 0, 0, [], 0)])]
/-- LampPressesModel.far(I)I -/
def lp_c254 : List (Nat × List lp_E) := [(41, [(0, (.aload_n 0, 1), 0, 0, 0, [], 0),
  (1, (.iload_n 1, 1), 1, 0, 0, [], 0),
  (2, (.invokevirtual 129, 3), 170, 2, 0, [0, 1, 5009], 0),
  (5, (.ifCond .ne 5, 3), 10, 0, 0, [], 0),
  (8, (.iconst (-1), 1), 0, 0, (-1), [], 0),
  (9, (.ireturn, 1), 0, 0, 0, [], 0),
  (10, (.aload_n 0, 1), 0, 0, 0, [], 0),
  (11, (.invokevirtual 262, 3), 246, 1, 0, [0, 1, 6061], 0),
  (14, (.ifCond .ne 6, 3), 20, 0, 0, [], 0),
  (17, (.bipush (-3), 2), 0, 0, (-3), [], 0),
  (19, (.ireturn, 1), 0, 0, 0, [], 0),
  (20, (.aload_n 0, 1), 0, 0, 0, [], 0),
  (21, (.invokevirtual 266, 3), 250, 1, 0, [0, 0, 6065], 0),
  (24, (.aload_n 0, 1), 0, 0, 0, [], 0),
  (25, (.getfield 73, 3), 10, 23, 0, [1, 4126], 0),
  (28, (.aload_n 0, 1), 0, 0, 0, [], 0),
  (29, (.getfield 76, 3), 10, 24, 0, [1, 4127], 0),
  (32, (.aload_n 0, 1), 0, 0, 0, [], 0),
  (33, (.getfield 256, 3), 10, 25, 0, [0, 4128], 0),
  (36, (.iconst 1, 1), 0, 0, 1, [], 0),
  (37, (.isub, 1), 0, 0, 0, [], 0),
  (38, (.iaload, 1), 20, 0, 0, [], 0),
  (39, (.iaload, 1), 20, 0, 0, [], 0),
  (40, (.istore_n 2, 1), 2, 0, 0, [], 0)]),
 (66, [(41, (.iconst 0, 1), 0, 0, 0, [], 0),
  (42, (.istore_n 3, 1), 3, 0, 0, [], 1),
  (43, (.aload_n 0, 1), 0, 0, 0, [], 0),
  (44, (.getfield 73, 3), 10, 23, 0, [1, 4126], 0),
  (47, (.iload_n 3, 1), 3, 0, 0, [], 0),
  (48, (.iaload, 1), 20, 0, 0, [], 0),
  (49, (.iload_n 2, 1), 2, 0, 0, [], 0),
  (50, (.if_icmp .eq 9, 3), 59, 0, 0, [], 0),
  (53, (.iinc 3 1, 3), 3, 0, 1, [], 0),
  (56, (.goto (-13), 3), 43, 0, 0, [], 2),
  (59, (.aload_n 0, 1), 0, 0, 0, [], 0),
  (60, (.iload_n 3, 1), 3, 0, 0, [], 0),
  (61, (.iload_n 1, 1), 1, 0, 0, [], 0),
  (62, (.invokevirtual 269, 3), 248, 3, 0, [0, 1, 6089], 0),
  (65, (.ireturn, 1), 0, 0, 0, [], 0)])]
/-- LampPressesModel.byOwn(II)I -/
def lp_c255 : List (Nat × List lp_E) := [(43, [(0, (.aload_n 0, 1), 0, 0, 0, [], 0),
  (1, (.iload_n 1, 1), 1, 0, 0, [], 0),
  (2, (.invokevirtual 129, 3), 170, 2, 0, [0, 1, 5009], 0),
  (5, (.ifCond .eq 11, 3), 16, 0, 0, [], 0),
  (8, (.aload_n 0, 1), 0, 0, 0, [], 0),
  (9, (.iload_n 2, 1), 2, 0, 0, [], 0),
  (10, (.invokevirtual 114, 3), 171, 2, 0, [0, 1, 4220], 0),
  (13, (.ifCond .ne 5, 3), 18, 0, 0, [], 0),
  (16, (.iconst (-1), 1), 0, 0, (-1), [], 0),
  (17, (.ireturn, 1), 0, 0, 0, [], 0),
  (18, (.aload_n 0, 1), 0, 0, 0, [], 0),
  (19, (.getfield 13, 3), 10, 1, 0, [1, 4104], 0),
  (22, (.aload_n 0, 1), 0, 0, 0, [], 0),
  (23, (.getfield 79, 3), 10, 26, 0, [1, 4129], 0),
  (26, (.invokestatic 125, 3), 166, 2, 0, [1, 0, 5017], 0),
  (29, (.aload_n 0, 1), 0, 0, 0, [], 0),
  (30, (.getfield 13, 3), 10, 1, 0, [1, 4104], 0),
  (33, (.bipush 14, 2), 0, 0, 14, [], 0),
  (35, (.iload_n 1, 1), 1, 0, 0, [], 0),
  (36, (.iadd, 1), 0, 0, 0, [], 0),
  (37, (.iload_n 2, 1), 2, 0, 0, [], 0),
  (38, (.iastore, 1), 0, 0, 0, [], 0),
  (39, (.aload_n 0, 1), 0, 0, 0, [], 0),
  (40, (.invokevirtual 217, 3), 216, 1, 0, [0, 1, 5184], 0)]),
 (57, [(43, (.istore_n 3, 1), 3, 0, 0, [], 0),
  (44, (.aload_n 0, 1), 0, 0, 0, [], 0),
  (45, (.getfield 79, 3), 10, 26, 0, [1, 4129], 0),
  (48, (.aload_n 0, 1), 0, 0, 0, [], 0),
  (49, (.getfield 13, 3), 10, 1, 0, [1, 4104], 0),
  (52, (.invokestatic 125, 3), 166, 2, 0, [1, 0, 5017], 0),
  (55, (.iload_n 3, 1), 3, 0, 0, [], 0),
  (56, (.ireturn, 1), 0, 0, 0, [], 0)])]
/-- LampPressesModel.byWire(III)I -/
def lp_c256 : List (Nat × List lp_E) := [(46, [(0, (.aload_n 0, 1), 0, 0, 0, [], 0),
  (1, (.iload_n 1, 1), 1, 0, 0, [], 0),
  (2, (.invokevirtual 129, 3), 170, 2, 0, [0, 1, 5009], 0),
  (5, (.ifCond .eq 24, 3), 29, 0, 0, [], 0),
  (8, (.aload_n 0, 1), 0, 0, 0, [], 0),
  (9, (.iload_n 2, 1), 2, 0, 0, [], 0),
  (10, (.invokevirtual 129, 3), 170, 2, 0, [0, 1, 5009], 0),
  (13, (.ifCond .eq 16, 3), 29, 0, 0, [], 0),
  (16, (.iload_n 1, 1), 1, 0, 0, [], 0),
  (17, (.iload_n 2, 1), 2, 0, 0, [], 0),
  (18, (.if_icmp .eq 11, 3), 29, 0, 0, [], 0),
  (21, (.aload_n 0, 1), 0, 0, 0, [], 0),
  (22, (.iload_n 3, 1), 3, 0, 0, [], 0),
  (23, (.invokevirtual 114, 3), 171, 2, 0, [0, 1, 4220], 0),
  (26, (.ifCond .ne 5, 3), 31, 0, 0, [], 0),
  (29, (.iconst (-1), 1), 0, 0, (-1), [], 0),
  (30, (.ireturn, 1), 0, 0, 0, [], 0),
  (31, (.aload_n 0, 1), 0, 0, 0, [], 0),
  (32, (.getfield 13, 3), 10, 1, 0, [1, 4104], 0),
  (35, (.aload_n 0, 1), 0, 0, 0, [], 0),
  (36, (.getfield 79, 3), 10, 26, 0, [1, 4129], 0),
  (39, (.invokestatic 125, 3), 166, 2, 0, [1, 0, 5017], 0),
  (42, (.aload_n 0, 1), 0, 0, 0, [], 0),
  (43, (.getfield 13, 3), 10, 1, 0, [1, 4104], 0)]),
 (72, [(46, (.iload_n 1, 1), 1, 0, 0, [], 0),
  (47, (.iload_n 2, 1), 2, 0, 0, [], 0),
  (48, (.iload_n 3, 1), 3, 0, 0, [], 0),
  (49, (.invokestatic 135, 3), 179, 4, 0, [1, 0, 5032], 0),
  (52, (.aload_n 0, 1), 0, 0, 0, [], 0),
  (53, (.invokevirtual 217, 3), 216, 1, 0, [0, 1, 5184], 0),
  (56, (.istore 4, 2), 4, 0, 0, [], 0),
  (58, (.aload_n 0, 1), 0, 0, 0, [], 0),
  (59, (.getfield 79, 3), 10, 26, 0, [1, 4129], 0),
  (62, (.aload_n 0, 1), 0, 0, 0, [], 0),
  (63, (.getfield 13, 3), 10, 1, 0, [1, 4104], 0),
  (66, (.invokestatic 125, 3), 166, 2, 0, [1, 0, 5017], 0),
  (69, (.iload 4, 2), 4, 0, 0, [], 0),
  (71, (.ireturn, 1), 0, 0, 0, [], 0)])]
/-- LampPressesModel.without(I)I -/
def lp_c257 : List (Nat × List lp_E) := [(34, [(0, (.aload_n 0, 1), 0, 0, 0, [], 0),
  (1, (.iload_n 1, 1), 1, 0, 0, [], 0),
  (2, (.invokevirtual 129, 3), 170, 2, 0, [0, 1, 5009], 0),
  (5, (.ifCond .ne 5, 3), 10, 0, 0, [], 0),
  (8, (.iconst (-1), 1), 0, 0, (-1), [], 0),
  (9, (.ireturn, 1), 0, 0, 0, [], 0),
  (10, (.aload_n 0, 1), 0, 0, 0, [], 0),
  (11, (.invokevirtual 192, 3), 201, 1, 0, [0, 1, 5079], 0),
  (14, (.iconst 1, 1), 0, 0, 1, [], 0),
  (15, (.iload_n 1, 1), 1, 0, 0, [], 0),
  (16, (.ishl, 1), 0, 0, 0, [], 0),
  (17, (.iconst (-1), 1), 0, 0, (-1), [], 0),
  (18, (.ixor, 1), 0, 0, 0, [], 0),
  (19, (.iand, 1), 0, 0, 0, [], 0),
  (20, (.istore_n 2, 1), 2, 0, 0, [], 0),
  (21, (.aload_n 0, 1), 0, 0, 0, [], 0),
  (22, (.iload_n 2, 1), 2, 0, 0, [], 0),
  (23, (.iload_n 2, 1), 2, 0, 0, [], 0),
  (24, (.invokevirtual 195, 3), 199, 3, 0, [0, 0, 5083], 0),
  (27, (.aload_n 0, 1), 0, 0, 0, [], 0),
  (28, (.getfield 36, 3), 10, 9, 0, [1, 4112], 0),
  (31, (.iconst 0, 1), 0, 0, 0, [], 0),
  (32, (.iaload, 1), 20, 0, 0, [], 0),
  (33, (.ireturn, 1), 0, 0, 0, [], 0)])]
/-- LampPressesModel.mend()I -/
def lp_c258 : List (Nat × List lp_E) := [(41, [(0, (.aload_n 0, 1), 0, 0, 0, [], 0),
  (1, (.aload_n 0, 1), 0, 0, 0, [], 0),
  (2, (.invokevirtual 192, 3), 201, 1, 0, [0, 1, 5079], 0),
  (5, (.aload_n 0, 1), 0, 0, 0, [], 0),
  (6, (.invokevirtual 192, 3), 201, 1, 0, [0, 1, 5079], 0),
  (9, (.invokevirtual 195, 3), 199, 3, 0, [0, 0, 5083], 0),
  (12, (.aload_n 0, 1), 0, 0, 0, [], 0),
  (13, (.invokevirtual 198, 3), 203, 1, 0, [0, 0, 5105], 0),
  (16, (.aload_n 0, 1), 0, 0, 0, [], 0),
  (17, (.iconst 0, 1), 0, 0, 0, [], 0),
  (18, (.invokevirtual 186, 3), 204, 2, 0, [0, 1, 5109], 0),
  (21, (.ifCond .eq 6, 3), 27, 0, 0, [], 0),
  (24, (.bipush (-2), 2), 0, 0, (-2), [], 0),
  (26, (.ireturn, 1), 0, 0, 0, [], 0),
  (27, (.iconst 0, 1), 0, 0, 0, [], 0),
  (28, (.istore_n 1, 1), 1, 0, 0, [], 1),
  (29, (.iload_n 1, 1), 1, 0, 0, [], 0),
  (30, (.aload_n 0, 1), 0, 0, 0, [], 0),
  (31, (.invokevirtual 99, 3), 169, 1, 0, [0, 1, 4231], 0),
  (34, (.if_icmp .ge 83, 3), 117, 0, 0, [], 0),
  (37, (.iconst 0, 1), 0, 0, 0, [], 0),
  (38, (.istore_n 2, 1), 2, 0, 0, [], 1),
  (39, (.iload_n 2, 1), 2, 0, 0, [], 0),
  (40, (.aload_n 0, 1), 0, 0, 0, [], 0)]),
 (80, [(41, (.invokevirtual 107, 3), 168, 1, 0, [0, 1, 4224], 0),
  (44, (.if_icmp .ge 67, 3), 111, 0, 0, [], 0),
  (47, (.aload_n 0, 1), 0, 0, 0, [], 0),
  (48, (.invokevirtual 198, 3), 203, 1, 0, [0, 0, 5105], 0),
  (51, (.aload_n 0, 1), 0, 0, 0, [], 0),
  (52, (.getfield 42, 3), 10, 11, 0, [1, 4114], 0),
  (55, (.iload_n 1, 1), 1, 0, 0, [], 0),
  (56, (.aload_n 0, 1), 0, 0, 0, [], 0),
  (57, (.getfield 13, 3), 10, 1, 0, [1, 4104], 0),
  (60, (.bipush 24, 2), 0, 0, 24, [], 0),
  (62, (.iload_n 1, 1), 1, 0, 0, [], 0),
  (63, (.iadd, 1), 0, 0, 0, [], 0),
  (64, (.iaload, 1), 20, 0, 0, [], 0),
  (65, (.aload_n 0, 1), 0, 0, 0, [], 0),
  (66, (.invokevirtual 107, 3), 168, 1, 0, [0, 1, 4224], 0),
  (69, (.iadd, 1), 0, 0, 0, [], 0),
  (70, (.iload_n 2, 1), 2, 0, 0, [], 0),
  (71, (.isub, 1), 0, 0, 0, [], 0),
  (72, (.aload_n 0, 1), 0, 0, 0, [], 0),
  (73, (.invokevirtual 107, 3), 168, 1, 0, [0, 1, 4224], 0),
  (76, (.irem, 1), 0, 0, 0, [], 0),
  (77, (.iastore, 1), 0, 0, 0, [], 0),
  (78, (.iload_n 2, 1), 2, 0, 0, [], 0),
  (79, (.aload_n 0, 1), 0, 0, 0, [], 0)]),
 (120, [(80, (.getfield 13, 3), 10, 1, 0, [1, 4104], 0),
  (83, (.iconst 4, 1), 0, 0, 4, [], 0),
  (84, (.iload_n 1, 1), 1, 0, 0, [], 0),
  (85, (.iadd, 1), 0, 0, 0, [], 0),
  (86, (.iaload, 1), 20, 0, 0, [], 0),
  (87, (.if_icmp .eq 18, 3), 105, 0, 0, [], 0),
  (90, (.aload_n 0, 1), 0, 0, 0, [], 0),
  (91, (.iconst 0, 1), 0, 0, 0, [], 0),
  (92, (.invokevirtual 186, 3), 204, 2, 0, [0, 1, 5109], 0),
  (95, (.ifCond .eq 10, 3), 105, 0, 0, [], 0),
  (98, (.bipush 10, 2), 0, 0, 10, [], 0),
  (100, (.iload_n 1, 1), 1, 0, 0, [], 0),
  (101, (.imul, 1), 0, 0, 0, [], 0),
  (102, (.iload_n 2, 1), 2, 0, 0, [], 0),
  (103, (.iadd, 1), 0, 0, 0, [], 0),
  (104, (.ireturn, 1), 0, 0, 0, [], 0),
  (105, (.iinc 2 1, 3), 2, 0, 1, [], 0),
  (108, (.goto (-69), 3), 39, 0, 0, [], 2),
  (111, (.iinc 1 1, 3), 1, 0, 1, [], 0),
  (114, (.goto (-85), 3), 29, 0, 0, [], 2),
  (117, (.bipush (-2), 2), 0, 0, (-2), [], 0),
  (119, (.ireturn, 1), 0, 0, 0, [], 0)])]
/-- LampPressesModel.even()I -/
def lp_c259 : List (Nat × List lp_E) := [(40, [(0, (.aload_n 0, 1), 0, 0, 0, [], 0),
  (1, (.aload_n 0, 1), 0, 0, 0, [], 0),
  (2, (.invokevirtual 192, 3), 201, 1, 0, [0, 1, 5079], 0),
  (5, (.aload_n 0, 1), 0, 0, 0, [], 0),
  (6, (.invokevirtual 192, 3), 201, 1, 0, [0, 1, 5079], 0),
  (9, (.invokevirtual 195, 3), 199, 3, 0, [0, 0, 5083], 0),
  (12, (.iconst 0, 1), 0, 0, 0, [], 0),
  (13, (.istore_n 1, 1), 1, 0, 0, [], 0),
  (14, (.iconst 0, 1), 0, 0, 0, [], 0),
  (15, (.istore_n 2, 1), 2, 0, 0, [], 1),
  (16, (.iload_n 2, 1), 2, 0, 0, [], 0),
  (17, (.aload_n 0, 1), 0, 0, 0, [], 0),
  (18, (.invokevirtual 107, 3), 168, 1, 0, [0, 1, 4224], 0),
  (21, (.if_icmp .ge 65, 3), 86, 0, 0, [], 0),
  (24, (.iconst 0, 1), 0, 0, 0, [], 0),
  (25, (.istore_n 3, 1), 3, 0, 0, [], 1),
  (26, (.iload_n 3, 1), 3, 0, 0, [], 0),
  (27, (.aload_n 0, 1), 0, 0, 0, [], 0),
  (28, (.invokevirtual 99, 3), 169, 1, 0, [0, 1, 4231], 0),
  (31, (.if_icmp .ge 35, 3), 66, 0, 0, [], 0),
  (34, (.aload_n 0, 1), 0, 0, 0, [], 0),
  (35, (.getfield 42, 3), 10, 11, 0, [1, 4114], 0),
  (38, (.iload_n 3, 1), 3, 0, 0, [], 0),
  (39, (.iload_n 2, 1), 2, 0, 0, [], 0)]),
 (78, [(40, (.aload_n 0, 1), 0, 0, 0, [], 0),
  (41, (.invokevirtual 107, 3), 168, 1, 0, [0, 1, 4224], 0),
  (44, (.iadd, 1), 0, 0, 0, [], 0),
  (45, (.aload_n 0, 1), 0, 0, 0, [], 0),
  (46, (.getfield 13, 3), 10, 1, 0, [1, 4104], 0),
  (49, (.iconst 4, 1), 0, 0, 4, [], 0),
  (50, (.iload_n 3, 1), 3, 0, 0, [], 0),
  (51, (.iadd, 1), 0, 0, 0, [], 0),
  (52, (.iaload, 1), 20, 0, 0, [], 0),
  (53, (.isub, 1), 0, 0, 0, [], 0),
  (54, (.aload_n 0, 1), 0, 0, 0, [], 0),
  (55, (.invokevirtual 107, 3), 168, 1, 0, [0, 1, 4224], 0),
  (58, (.irem, 1), 0, 0, 0, [], 0),
  (59, (.iastore, 1), 0, 0, 0, [], 0),
  (60, (.iinc 3 1, 3), 3, 0, 1, [], 0),
  (63, (.goto (-37), 3), 26, 0, 0, [], 2),
  (66, (.aload_n 0, 1), 0, 0, 0, [], 0),
  (67, (.iconst 0, 1), 0, 0, 0, [], 0),
  (68, (.invokevirtual 186, 3), 204, 2, 0, [0, 1, 5109], 0),
  (71, (.ifCond .eq 9, 3), 80, 0, 0, [], 0),
  (74, (.iload_n 1, 1), 1, 0, 0, [], 0),
  (75, (.iconst 1, 1), 0, 0, 1, [], 0),
  (76, (.iload_n 2, 1), 2, 0, 0, [], 0),
  (77, (.ishl, 1), 0, 0, 0, [], 0)]),
 (88, [(78, (.ior, 1), 0, 0, 0, [], 0),
  (79, (.istore_n 1, 1), 1, 0, 0, [], 0),
  (80, (.iinc 2 1, 3), 2, 0, 1, [], 0),
  (83, (.goto (-67), 3), 16, 0, 0, [], 2),
  (86, (.iload_n 1, 1), 1, 0, 0, [], 0),
  (87, (.ireturn, 1), 0, 0, 0, [], 0)])]
/-- LampPressesModel.writes(I)V -/
def lp_c260 : List (Nat × List lp_E) := [(21, [(0, (.aload_n 0, 1), 0, 0, 0, [], 0),
  (1, (.getfield 82, 3), 10, 27, 0, [1, 4130], 0),
  (4, (.aload_n 0, 1), 0, 0, 0, [], 0),
  (5, (.getfield 272, 3), 10, 28, 0, [0, 4131], 0),
  (8, (.iload_n 1, 1), 1, 0, 0, [], 0),
  (9, (.iastore, 1), 0, 0, 0, [], 0),
  (10, (.aload_n 0, 1), 0, 0, 0, [], 0),
  (11, (.dup, 1), 0, 0, 0, [], 0),
  (12, (.getfield 272, 3), 10, 28, 0, [0, 4131], 0),
  (15, (.iconst 1, 1), 0, 0, 1, [], 0),
  (16, (.iadd, 1), 0, 0, 0, [], 0),
  (17, (.putfield 272, 3), 10, 28, 0, [0, 4131, 0], 0),
  (20, (.return_, 1), 0, 0, 0, [], 0)])]
/-- LampPressesModel.writesWord(I)V -/
def lp_c261 : List (Nat × List lp_E) := [(32, [(0, (.aload_n 0, 1), 0, 0, 0, [], 0),
  (1, (.iload_n 1, 1), 1, 0, 0, [], 0),
  (2, (.invokevirtual 275, 3), 272, 2, 0, [0, 1, 6121], 0),
  (5, (.istore_n 2, 1), 2, 0, 0, [], 1),
  (6, (.aload_n 0, 1), 0, 0, 0, [], 0),
  (7, (.getfield 88, 3), 10, 31, 0, [1, 4134], 0),
  (10, (.iload_n 2, 1), 2, 0, 0, [], 0),
  (11, (.baload, 1), 21, 0, 0, [], 0),
  (12, (.ifCond .eq 19, 3), 31, 0, 0, [], 0),
  (15, (.aload_n 0, 1), 0, 0, 0, [], 0),
  (16, (.aload_n 0, 1), 0, 0, 0, [], 0),
  (17, (.getfield 88, 3), 10, 31, 0, [1, 4134], 0),
  (20, (.iload_n 2, 1), 2, 0, 0, [], 0),
  (21, (.baload, 1), 21, 0, 0, [], 0),
  (22, (.invokevirtual 278, 3), 260, 2, 0, [0, 0, 6125], 0),
  (25, (.iinc 2 1, 3), 2, 0, 1, [], 0),
  (28, (.goto (-22), 3), 6, 0, 0, [], 2),
  (31, (.return_, 1), 0, 0, 0, [], 0)])]
/-- LampPressesModel.writesNumber(I)V -/
def lp_c262 : List (Nat × List lp_E) := [(35, [(0, (.aload_n 0, 1), 0, 0, 0, [], 0),
  (1, (.bipush 32, 2), 0, 0, 32, [], 0),
  (3, (.invokevirtual 278, 3), 260, 2, 0, [0, 0, 6125], 0),
  (6, (.iload_n 1, 1), 1, 0, 0, [], 0),
  (7, (.bipush 9, 2), 0, 0, 9, [], 0),
  (9, (.if_icmp .le 14, 3), 23, 0, 0, [], 0),
  (12, (.aload_n 0, 1), 0, 0, 0, [], 0),
  (13, (.bipush 48, 2), 0, 0, 48, [], 0),
  (15, (.iload_n 1, 1), 1, 0, 0, [], 0),
  (16, (.bipush 10, 2), 0, 0, 10, [], 0),
  (18, (.idiv, 1), 0, 0, 0, [], 0),
  (19, (.iadd, 1), 0, 0, 0, [], 0),
  (20, (.invokevirtual 278, 3), 260, 2, 0, [0, 0, 6125], 0),
  (23, (.aload_n 0, 1), 0, 0, 0, [], 0),
  (24, (.bipush 48, 2), 0, 0, 48, [], 0),
  (26, (.iload_n 1, 1), 1, 0, 0, [], 0),
  (27, (.bipush 10, 2), 0, 0, 10, [], 0),
  (29, (.irem, 1), 0, 0, 0, [], 0),
  (30, (.iadd, 1), 0, 0, 0, [], 0),
  (31, (.invokevirtual 278, 3), 260, 2, 0, [0, 0, 6125], 0),
  (34, (.return_, 1), 0, 0, 0, [], 0)])]
/-- LampPressesModel.toldText(I)I -/
def lp_c263 : List (Nat × List lp_E) := [(32, [(0, (.iload_n 1, 1), 1, 0, 0, [], 0),
  (1, (.iconst (-1), 1), 0, 0, (-1), [], 0),
  (2, (.if_icmp .ne 10, 3), 12, 0, 0, [], 0),
  (5, (.aload_n 0, 1), 0, 0, 0, [], 0),
  (6, (.getfield 272, 3), 10, 28, 0, [0, 4131], 0),
  (9, (.goto 22, 3), 31, 0, 0, [], 0),
  (12, (.iload_n 1, 1), 1, 0, 0, [], 0),
  (13, (.aload_n 0, 1), 0, 0, 0, [], 0),
  (14, (.getfield 272, 3), 10, 28, 0, [0, 4131], 0),
  (17, (.if_icmp .ge 12, 3), 29, 0, 0, [], 0),
  (20, (.aload_n 0, 1), 0, 0, 0, [], 0),
  (21, (.getfield 82, 3), 10, 27, 0, [1, 4130], 0),
  (24, (.iload_n 1, 1), 1, 0, 0, [], 0),
  (25, (.iaload, 1), 20, 0, 0, [], 0),
  (26, (.goto 5, 3), 31, 0, 0, [], 0),
  (29, (.bipush (-2), 2), 0, 0, (-2), [], 0),
  (31, (.ireturn, 1), 0, 0, 0, [], 0)])]
/-- LampPressesModel.writesLamp(I)V -/
def lp_c264 : List (Nat × List lp_E) := [(38, [(0, (.aload_n 0, 1), 0, 0, 0, [], 0),
  (1, (.iconst 1, 1), 0, 0, 1, [], 0),
  (2, (.invokevirtual 281, 3), 261, 2, 0, [0, 0, 6117], 0),
  (5, (.aload_n 0, 1), 0, 0, 0, [], 0),
  (6, (.aload_n 0, 1), 0, 0, 0, [], 0),
  (7, (.getfield 13, 3), 10, 1, 0, [1, 4104], 0),
  (10, (.iconst 4, 1), 0, 0, 4, [], 0),
  (11, (.iload_n 1, 1), 1, 0, 0, [], 0),
  (12, (.iadd, 1), 0, 0, 0, [], 0),
  (13, (.iaload, 1), 20, 0, 0, [], 0),
  (14, (.invokevirtual 284, 3), 262, 2, 0, [0, 0, 6129], 0),
  (17, (.aload_n 0, 1), 0, 0, 0, [], 0),
  (18, (.getfield 13, 3), 10, 1, 0, [1, 4104], 0),
  (21, (.bipush 14, 2), 0, 0, 14, [], 0),
  (23, (.iload_n 1, 1), 1, 0, 0, [], 0),
  (24, (.iadd, 1), 0, 0, 0, [], 0),
  (25, (.iaload, 1), 20, 0, 0, [], 0),
  (26, (.iconst 1, 1), 0, 0, 1, [], 0),
  (27, (.if_icmp .eq 27, 3), 54, 0, 0, [], 0),
  (30, (.aload_n 0, 1), 0, 0, 0, [], 0),
  (31, (.bipush 32, 2), 0, 0, 32, [], 0),
  (33, (.invokevirtual 278, 3), 260, 2, 0, [0, 0, 6125], 0),
  (36, (.aload_n 0, 1), 0, 0, 0, [], 0),
  (37, (.iconst 2, 1), 0, 0, 2, [], 0)]),
 (79, [(38, (.invokevirtual 281, 3), 261, 2, 0, [0, 0, 6117], 0),
  (41, (.aload_n 0, 1), 0, 0, 0, [], 0),
  (42, (.aload_n 0, 1), 0, 0, 0, [], 0),
  (43, (.getfield 13, 3), 10, 1, 0, [1, 4104], 0),
  (46, (.bipush 14, 2), 0, 0, 14, [], 0),
  (48, (.iload_n 1, 1), 1, 0, 0, [], 0),
  (49, (.iadd, 1), 0, 0, 0, [], 0),
  (50, (.iaload, 1), 20, 0, 0, [], 0),
  (51, (.invokevirtual 284, 3), 262, 2, 0, [0, 0, 6129], 0),
  (54, (.aload_n 0, 1), 0, 0, 0, [], 0),
  (55, (.getfield 13, 3), 10, 1, 0, [1, 4104], 0),
  (58, (.bipush 24, 2), 0, 0, 24, [], 0),
  (60, (.iload_n 1, 1), 1, 0, 0, [], 0),
  (61, (.iadd, 1), 0, 0, 0, [], 0),
  (62, (.iaload, 1), 20, 0, 0, [], 0),
  (63, (.ifCond .eq 27, 3), 90, 0, 0, [], 0),
  (66, (.aload_n 0, 1), 0, 0, 0, [], 0),
  (67, (.bipush 32, 2), 0, 0, 32, [], 0),
  (69, (.invokevirtual 278, 3), 260, 2, 0, [0, 0, 6125], 0),
  (72, (.aload_n 0, 1), 0, 0, 0, [], 0),
  (73, (.iconst 3, 1), 0, 0, 3, [], 0),
  (74, (.invokevirtual 281, 3), 261, 2, 0, [0, 0, 6117], 0),
  (77, (.aload_n 0, 1), 0, 0, 0, [], 0),
  (78, (.aload_n 0, 1), 0, 0, 0, [], 0)]),
 (97, [(79, (.getfield 13, 3), 10, 1, 0, [1, 4104], 0),
  (82, (.bipush 24, 2), 0, 0, 24, [], 0),
  (84, (.iload_n 1, 1), 1, 0, 0, [], 0),
  (85, (.iadd, 1), 0, 0, 0, [], 0),
  (86, (.iaload, 1), 20, 0, 0, [], 0),
  (87, (.invokevirtual 284, 3), 262, 2, 0, [0, 0, 6129], 0),
  (90, (.aload_n 0, 1), 0, 0, 0, [], 0),
  (91, (.bipush 59, 2), 0, 0, 59, [], 0),
  (93, (.invokevirtual 278, 3), 260, 2, 0, [0, 0, 6125], 0),
  (96, (.return_, 1), 0, 0, 0, [], 0)])]
/-- LampPressesModel.writesWire(II)V -/
def lp_c265 : List (Nat × List lp_E) := [(40, [(0, (.aload_n 0, 1), 0, 0, 0, [], 0),
  (1, (.getfield 13, 3), 10, 1, 0, [1, 4104], 0),
  (4, (.iload_n 1, 1), 1, 0, 0, [], 0),
  (5, (.iload_n 2, 1), 2, 0, 0, [], 0),
  (6, (.invokestatic 110, 3), 172, 2, 0, [1, 1, 5002], 0),
  (9, (.iaload, 1), 20, 0, 0, [], 0),
  (10, (.ifCond .ne 4, 3), 14, 0, 0, [], 0),
  (13, (.return_, 1), 0, 0, 0, [], 0),
  (14, (.aload_n 0, 1), 0, 0, 0, [], 0),
  (15, (.iconst 4, 1), 0, 0, 4, [], 0),
  (16, (.invokevirtual 281, 3), 261, 2, 0, [0, 0, 6117], 0),
  (19, (.aload_n 0, 1), 0, 0, 0, [], 0),
  (20, (.iload_n 1, 1), 1, 0, 0, [], 0),
  (21, (.invokevirtual 284, 3), 262, 2, 0, [0, 0, 6129], 0),
  (24, (.aload_n 0, 1), 0, 0, 0, [], 0),
  (25, (.iload_n 2, 1), 2, 0, 0, [], 0),
  (26, (.invokevirtual 284, 3), 262, 2, 0, [0, 0, 6129], 0),
  (29, (.aload_n 0, 1), 0, 0, 0, [], 0),
  (30, (.getfield 13, 3), 10, 1, 0, [1, 4104], 0),
  (33, (.iload_n 1, 1), 1, 0, 0, [], 0),
  (34, (.iload_n 2, 1), 2, 0, 0, [], 0),
  (35, (.invokestatic 110, 3), 172, 2, 0, [1, 1, 5002], 0),
  (38, (.iaload, 1), 20, 0, 0, [], 0),
  (39, (.iconst 1, 1), 0, 0, 1, [], 0)]),
 (75, [(40, (.if_icmp .eq 28, 3), 68, 0, 0, [], 0),
  (43, (.aload_n 0, 1), 0, 0, 0, [], 0),
  (44, (.bipush 32, 2), 0, 0, 32, [], 0),
  (46, (.invokevirtual 278, 3), 260, 2, 0, [0, 0, 6125], 0),
  (49, (.aload_n 0, 1), 0, 0, 0, [], 0),
  (50, (.iconst 5, 1), 0, 0, 5, [], 0),
  (51, (.invokevirtual 281, 3), 261, 2, 0, [0, 0, 6117], 0),
  (54, (.aload_n 0, 1), 0, 0, 0, [], 0),
  (55, (.aload_n 0, 1), 0, 0, 0, [], 0),
  (56, (.getfield 13, 3), 10, 1, 0, [1, 4104], 0),
  (59, (.iload_n 1, 1), 1, 0, 0, [], 0),
  (60, (.iload_n 2, 1), 2, 0, 0, [], 0),
  (61, (.invokestatic 110, 3), 172, 2, 0, [1, 1, 5002], 0),
  (64, (.iaload, 1), 20, 0, 0, [], 0),
  (65, (.invokevirtual 284, 3), 262, 2, 0, [0, 0, 6129], 0),
  (68, (.aload_n 0, 1), 0, 0, 0, [], 0),
  (69, (.bipush 59, 2), 0, 0, 59, [], 0),
  (71, (.invokevirtual 278, 3), 260, 2, 0, [0, 0, 6125], 0),
  (74, (.return_, 1), 0, 0, 0, [], 0)])]
/-- LampPressesModel.spell(I)I -/
def lp_c266 : List (Nat × List lp_E) := [(41, [(0, (.iload_n 1, 1), 1, 0, 0, [], 0),
  (1, (.iconst (-1), 1), 0, 0, (-1), [], 0),
  (2, (.if_icmp .ge 5, 3), 7, 0, 0, [], 0),
  (5, (.iconst (-1), 1), 0, 0, (-1), [], 0),
  (6, (.ireturn, 1), 0, 0, 0, [], 0),
  (7, (.aload_n 0, 1), 0, 0, 0, [], 0),
  (8, (.iconst 0, 1), 0, 0, 0, [], 0),
  (9, (.putfield 272, 3), 10, 28, 0, [0, 4131, 0], 0),
  (12, (.aload_n 0, 1), 0, 0, 0, [], 0),
  (13, (.iconst 0, 1), 0, 0, 0, [], 0),
  (14, (.invokevirtual 281, 3), 261, 2, 0, [0, 0, 6117], 0),
  (17, (.aload_n 0, 1), 0, 0, 0, [], 0),
  (18, (.aload_n 0, 1), 0, 0, 0, [], 0),
  (19, (.invokevirtual 107, 3), 168, 1, 0, [0, 1, 4224], 0),
  (22, (.invokevirtual 284, 3), 262, 2, 0, [0, 0, 6129], 0),
  (25, (.aload_n 0, 1), 0, 0, 0, [], 0),
  (26, (.bipush 59, 2), 0, 0, 59, [], 0),
  (28, (.invokevirtual 278, 3), 260, 2, 0, [0, 0, 6125], 0),
  (31, (.iconst 0, 1), 0, 0, 0, [], 0),
  (32, (.istore_n 2, 1), 2, 0, 0, [], 1),
  (33, (.iload_n 2, 1), 2, 0, 0, [], 0),
  (34, (.aload_n 0, 1), 0, 0, 0, [], 0),
  (35, (.invokevirtual 99, 3), 169, 1, 0, [0, 1, 4231], 0),
  (38, (.if_icmp .ge 14, 3), 52, 0, 0, [], 0)]),
 (83, [(41, (.aload_n 0, 1), 0, 0, 0, [], 0),
  (42, (.iload_n 2, 1), 2, 0, 0, [], 0),
  (43, (.invokevirtual 287, 3), 264, 2, 0, [0, 0, 6133], 0),
  (46, (.iinc 2 1, 3), 2, 0, 1, [], 0),
  (49, (.goto (-16), 3), 33, 0, 0, [], 2),
  (52, (.iconst 0, 1), 0, 0, 0, [], 0),
  (53, (.istore_n 2, 1), 2, 0, 0, [], 1),
  (54, (.iload_n 2, 1), 2, 0, 0, [], 0),
  (55, (.aload_n 0, 1), 0, 0, 0, [], 0),
  (56, (.invokevirtual 99, 3), 169, 1, 0, [0, 1, 4231], 0),
  (59, (.if_icmp .ge 33, 3), 92, 0, 0, [], 0),
  (62, (.iload_n 2, 1), 2, 0, 0, [], 0),
  (63, (.iconst 1, 1), 0, 0, 1, [], 0),
  (64, (.iadd, 1), 0, 0, 0, [], 0),
  (65, (.istore_n 3, 1), 3, 0, 0, [], 1),
  (66, (.iload_n 3, 1), 3, 0, 0, [], 0),
  (67, (.aload_n 0, 1), 0, 0, 0, [], 0),
  (68, (.invokevirtual 99, 3), 169, 1, 0, [0, 1, 4231], 0),
  (71, (.if_icmp .ge 15, 3), 86, 0, 0, [], 0),
  (74, (.aload_n 0, 1), 0, 0, 0, [], 0),
  (75, (.iload_n 2, 1), 2, 0, 0, [], 0),
  (76, (.iload_n 3, 1), 3, 0, 0, [], 0),
  (77, (.invokevirtual 290, 3), 265, 3, 0, [0, 0, 6137], 0),
  (80, (.iinc 3 1, 3), 3, 0, 1, [], 0)]),
 (98, [(83, (.goto (-17), 3), 66, 0, 0, [], 2),
  (86, (.iinc 2 1, 3), 2, 0, 1, [], 0),
  (89, (.goto (-35), 3), 54, 0, 0, [], 2),
  (92, (.aload_n 0, 1), 0, 0, 0, [], 0),
  (93, (.iload_n 1, 1), 1, 0, 0, [], 0),
  (94, (.invokevirtual 293, 3), 263, 2, 0, [0, 1, 6141], 0),
  (97, (.ireturn, 1), 0, 0, 0, [], 0)])]
/-- LampPressesModel.report(I)I -/
def lp_c267 : List (Nat × List lp_E) := [(38, [(0, (.iload_n 1, 1), 1, 0, 0, [], 0),
  (1, (.iconst (-1), 1), 0, 0, (-1), [], 0),
  (2, (.if_icmp .ge 5, 3), 7, 0, 0, [], 0),
  (5, (.iconst (-1), 1), 0, 0, (-1), [], 0),
  (6, (.ireturn, 1), 0, 0, 0, [], 0),
  (7, (.aload_n 0, 1), 0, 0, 0, [], 0),
  (8, (.iconst 0, 1), 0, 0, 0, [], 0),
  (9, (.putfield 272, 3), 10, 28, 0, [0, 4131, 0], 0),
  (12, (.aload_n 0, 1), 0, 0, 0, [], 0),
  (13, (.iconst 0, 1), 0, 0, 0, [], 0),
  (14, (.invokevirtual 230, 3), 221, 2, 0, [0, 1, 5200], 0),
  (17, (.istore_n 2, 1), 2, 0, 0, [], 0),
  (18, (.iconst 0, 1), 0, 0, 0, [], 0),
  (19, (.istore_n 3, 1), 3, 0, 0, [], 1),
  (20, (.iload_n 3, 1), 3, 0, 0, [], 0),
  (21, (.aload_n 0, 1), 0, 0, 0, [], 0),
  (22, (.invokevirtual 99, 3), 169, 1, 0, [0, 1, 4231], 0),
  (25, (.if_icmp .ge 52, 3), 77, 0, 0, [], 0),
  (28, (.iload_n 2, 1), 2, 0, 0, [], 0),
  (29, (.ifCond .ne 48, 3), 77, 0, 0, [], 0),
  (32, (.aload_n 0, 1), 0, 0, 0, [], 0),
  (33, (.getfield 57, 3), 10, 17, 0, [1, 4120], 0),
  (36, (.iload_n 3, 1), 3, 0, 0, [], 0),
  (37, (.iaload, 1), 20, 0, 0, [], 0)]),
 (87, [(38, (.ifCond .ne 6, 3), 44, 0, 0, [], 0),
  (41, (.goto 30, 3), 71, 0, 0, [], 0),
  (44, (.aload_n 0, 1), 0, 0, 0, [], 0),
  (45, (.bipush 6, 2), 0, 0, 6, [], 0),
  (47, (.invokevirtual 281, 3), 261, 2, 0, [0, 0, 6117], 0),
  (50, (.aload_n 0, 1), 0, 0, 0, [], 0),
  (51, (.iload_n 3, 1), 3, 0, 0, [], 0),
  (52, (.invokevirtual 284, 3), 262, 2, 0, [0, 0, 6129], 0),
  (55, (.aload_n 0, 1), 0, 0, 0, [], 0),
  (56, (.aload_n 0, 1), 0, 0, 0, [], 0),
  (57, (.getfield 57, 3), 10, 17, 0, [1, 4120], 0),
  (60, (.iload_n 3, 1), 3, 0, 0, [], 0),
  (61, (.iaload, 1), 20, 0, 0, [], 0),
  (62, (.invokevirtual 284, 3), 262, 2, 0, [0, 0, 6129], 0),
  (65, (.aload_n 0, 1), 0, 0, 0, [], 0),
  (66, (.bipush 59, 2), 0, 0, 59, [], 0),
  (68, (.invokevirtual 278, 3), 260, 2, 0, [0, 0, 6125], 0),
  (71, (.iinc 3 1, 3), 3, 0, 1, [], 0),
  (74, (.goto (-54), 3), 20, 0, 0, [], 2),
  (77, (.aload_n 0, 1), 0, 0, 0, [], 0),
  (78, (.iload_n 2, 1), 2, 0, 0, [], 0),
  (79, (.ifCond .ne 8, 3), 87, 0, 0, [], 0),
  (82, (.bipush 7, 2), 0, 0, 7, [], 0),
  (84, (.goto 16, 3), 100, 0, 0, [], 0)]),
 (127, [(87, (.iload_n 2, 1), 2, 0, 0, [], 0),
  (88, (.bipush (-2), 2), 0, 0, (-2), [], 0),
  (90, (.if_icmp .ne 8, 3), 98, 0, 0, [], 0),
  (93, (.bipush 8, 2), 0, 0, 8, [], 0),
  (95, (.goto 5, 3), 100, 0, 0, [], 0),
  (98, (.bipush 9, 2), 0, 0, 9, [], 0),
  (100, (.invokevirtual 281, 3), 261, 2, 0, [0, 0, 6117], 0),
  (103, (.iload_n 2, 1), 2, 0, 0, [], 0),
  (104, (.ifCond .ne 11, 3), 115, 0, 0, [], 0),
  (107, (.aload_n 0, 1), 0, 0, 0, [], 0),
  (108, (.aload_n 0, 1), 0, 0, 0, [], 0),
  (109, (.getfield 220, 3), 10, 20, 0, [0, 4123], 0),
  (112, (.invokevirtual 284, 3), 262, 2, 0, [0, 0, 6129], 0),
  (115, (.aload_n 0, 1), 0, 0, 0, [], 0),
  (116, (.bipush 59, 2), 0, 0, 59, [], 0),
  (118, (.invokevirtual 278, 3), 260, 2, 0, [0, 0, 6125], 0),
  (121, (.aload_n 0, 1), 0, 0, 0, [], 0),
  (122, (.iload_n 1, 1), 1, 0, 0, [], 0),
  (123, (.invokevirtual 293, 3), 263, 2, 0, [0, 1, 6141], 0),
  (126, (.ireturn, 1), 0, 0, 0, [], 0)])]
/-- LampPressesModel.litMany()I -/
def lp_c268 : List (Nat × List lp_E) := [(34, [(0, (.iconst 0, 1), 0, 0, 0, [], 0),
  (1, (.istore_n 1, 1), 1, 0, 0, [], 0),
  (2, (.iconst 0, 1), 0, 0, 0, [], 0),
  (3, (.istore_n 2, 1), 2, 0, 0, [], 1),
  (4, (.iload_n 2, 1), 2, 0, 0, [], 0),
  (5, (.aload_n 0, 1), 0, 0, 0, [], 0),
  (6, (.invokevirtual 99, 3), 169, 1, 0, [0, 1, 4231], 0),
  (9, (.if_icmp .ge 23, 3), 32, 0, 0, [], 0),
  (12, (.aload_n 0, 1), 0, 0, 0, [], 0),
  (13, (.getfield 13, 3), 10, 1, 0, [1, 4104], 0),
  (16, (.iconst 4, 1), 0, 0, 4, [], 0),
  (17, (.iload_n 2, 1), 2, 0, 0, [], 0),
  (18, (.iadd, 1), 0, 0, 0, [], 0),
  (19, (.iaload, 1), 20, 0, 0, [], 0),
  (20, (.ifCond .le 6, 3), 26, 0, 0, [], 0),
  (23, (.iinc 1 1, 3), 1, 0, 1, [], 0),
  (26, (.iinc 2 1, 3), 2, 0, 1, [], 0),
  (29, (.goto (-25), 3), 4, 0, 0, [], 2),
  (32, (.iload_n 1, 1), 1, 0, 0, [], 0),
  (33, (.ireturn, 1), 0, 0, 0, [], 0)])]
/-- LampPressesModel.count(I)I -/
def lp_c269 : List (Nat × List lp_E) := [(84, [(0, (.iload_n 1, 1), 1, 0, 0, [], 1),
  (1, (.tableswitch 91 0 7 #[47, 52, 57, 62, 67, 72, 79, 84], 47), 92, 8, 0, [48, 53, 58, 63, 68, 73, 80, 85], 0),
  (48, (.aload_n 0, 1), 0, 0, 0, [], 0),
  (49, (.invokevirtual 107, 3), 168, 1, 0, [0, 1, 4224], 0),
  (52, (.ireturn, 1), 0, 0, 0, [], 0),
  (53, (.aload_n 0, 1), 0, 0, 0, [], 0),
  (54, (.invokevirtual 99, 3), 169, 1, 0, [0, 1, 4231], 0),
  (57, (.ireturn, 1), 0, 0, 0, [], 0),
  (58, (.aload_n 0, 1), 0, 0, 0, [], 0),
  (59, (.invokevirtual 165, 3), 193, 1, 0, [0, 1, 5140], 0),
  (62, (.ireturn, 1), 0, 0, 0, [], 0),
  (63, (.aload_n 0, 1), 0, 0, 0, [], 0),
  (64, (.getfield 96, 3), 10, 5, 0, [0, 4108], 0),
  (67, (.ireturn, 1), 0, 0, 0, [], 0),
  (68, (.aload_n 0, 1), 0, 0, 0, [], 0),
  (69, (.getfield 296, 3), 10, 30, 0, [0, 4133], 0),
  (72, (.ireturn, 1), 0, 0, 0, [], 0),
  (73, (.aload_n 0, 1), 0, 0, 0, [], 0),
  (74, (.getfield 13, 3), 10, 1, 0, [1, 4104], 0),
  (77, (.iconst 2, 1), 0, 0, 2, [], 0),
  (78, (.iaload, 1), 20, 0, 0, [], 0),
  (79, (.ireturn, 1), 0, 0, 0, [], 0),
  (80, (.aload_n 0, 1), 0, 0, 0, [], 0),
  (81, (.invokevirtual 299, 3), 268, 1, 0, [0, 1, 6153], 0)]),
 (94, [(84, (.ireturn, 1), 0, 0, 0, [], 0),
  (85, (.aload_n 0, 1), 0, 0, 0, [], 0),
  (86, (.getfield 13, 3), 10, 1, 0, [1, 4104], 0),
  (89, (.iconst 3, 1), 0, 0, 3, [], 0),
  (90, (.iaload, 1), 20, 0, 0, [], 0),
  (91, (.ireturn, 1), 0, 0, 0, [], 0),
  (92, (.iconst (-1), 1), 0, 0, (-1), [], 0),
  (93, (.ireturn, 1), 0, 0, 0, [], 0)])]
/-- LampPressesModel.feed(IIIII)I -/
def lp_c270 : List (Nat × List lp_E) := [(48, [(0, (.aload_n 0, 1), 0, 0, 0, [], 0),
  (1, (.getfield 296, 3), 10, 30, 0, [0, 4133], 0),
  (4, (.bipush 20, 2), 0, 0, 20, [], 0),
  (6, (.iadd, 1), 0, 0, 0, [], 0),
  (7, (.sipush 500, 3), 0, 0, 500, [], 0),
  (10, (.if_icmp .le 5, 3), 15, 0, 0, [], 0),
  (13, (.iconst (-1), 1), 0, 0, (-1), [], 0),
  (14, (.ireturn, 1), 0, 0, 0, [], 0),
  (15, (.iconst 0, 1), 0, 0, 0, [], 0),
  (16, (.istore 6, 2), 6, 0, 0, [], 1),
  (18, (.iload 6, 2), 6, 0, 0, [], 0),
  (20, (.bipush 20, 2), 0, 0, 20, [], 0),
  (22, (.if_icmp .ge 93, 3), 115, 0, 0, [], 0),
  (25, (.iload 6, 2), 6, 0, 0, [], 0),
  (27, (.iconst 4, 1), 0, 0, 4, [], 0),
  (28, (.if_icmp .ge 7, 3), 35, 0, 0, [], 0),
  (31, (.iload_n 1, 1), 1, 0, 0, [], 0),
  (32, (.goto 39, 3), 71, 0, 0, [], 0),
  (35, (.iload 6, 2), 6, 0, 0, [], 0),
  (37, (.bipush 8, 2), 0, 0, 8, [], 0),
  (39, (.if_icmp .ge 7, 3), 46, 0, 0, [], 0),
  (42, (.iload_n 2, 1), 2, 0, 0, [], 0),
  (43, (.goto 28, 3), 71, 0, 0, [], 0),
  (46, (.iload 6, 2), 6, 0, 0, [], 0)]),
 (94, [(48, (.bipush 12, 2), 0, 0, 12, [], 0),
  (50, (.if_icmp .ge 7, 3), 57, 0, 0, [], 0),
  (53, (.iload_n 3, 1), 3, 0, 0, [], 0),
  (54, (.goto 17, 3), 71, 0, 0, [], 0),
  (57, (.iload 6, 2), 6, 0, 0, [], 0),
  (59, (.bipush 16, 2), 0, 0, 16, [], 0),
  (61, (.if_icmp .ge 8, 3), 69, 0, 0, [], 0),
  (64, (.iload 4, 2), 4, 0, 0, [], 0),
  (66, (.goto 5, 3), 71, 0, 0, [], 0),
  (69, (.iload 5, 2), 5, 0, 0, [], 0),
  (71, (.istore 7, 2), 7, 0, 0, [], 0),
  (73, (.aload_n 0, 1), 0, 0, 0, [], 0),
  (74, (.getfield 85, 3), 10, 29, 0, [1, 4132], 0),
  (77, (.aload_n 0, 1), 0, 0, 0, [], 0),
  (78, (.getfield 296, 3), 10, 30, 0, [0, 4133], 0),
  (81, (.iload 7, 2), 7, 0, 0, [], 0),
  (83, (.bipush 24, 2), 0, 0, 24, [], 0),
  (85, (.bipush 8, 2), 0, 0, 8, [], 0),
  (87, (.iload 6, 2), 6, 0, 0, [], 0),
  (89, (.iconst 4, 1), 0, 0, 4, [], 0),
  (90, (.irem, 1), 0, 0, 0, [], 0),
  (91, (.imul, 1), 0, 0, 0, [], 0),
  (92, (.isub, 1), 0, 0, 0, [], 0),
  (93, (.ishr, 1), 0, 0, 0, [], 0)]),
 (120, [(94, (.sipush 255, 3), 0, 0, 255, [], 0),
  (97, (.iand, 1), 0, 0, 0, [], 0),
  (98, (.iastore, 1), 0, 0, 0, [], 0),
  (99, (.aload_n 0, 1), 0, 0, 0, [], 0),
  (100, (.dup, 1), 0, 0, 0, [], 0),
  (101, (.getfield 296, 3), 10, 30, 0, [0, 4133], 0),
  (104, (.iconst 1, 1), 0, 0, 1, [], 0),
  (105, (.iadd, 1), 0, 0, 0, [], 0),
  (106, (.putfield 296, 3), 10, 30, 0, [0, 4133, 0], 0),
  (109, (.iinc 6 1, 3), 6, 0, 1, [], 0),
  (112, (.goto (-94), 3), 18, 0, 0, [], 2),
  (115, (.aload_n 0, 1), 0, 0, 0, [], 0),
  (116, (.getfield 296, 3), 10, 30, 0, [0, 4133], 0),
  (119, (.ireturn, 1), 0, 0, 0, [], 0)])]
/-- LampPressesModel.back(I)I -/
def lp_c271 : List (Nat × List lp_E) := [(29, [(0, (.iload_n 1, 1), 1, 0, 0, [], 0),
  (1, (.iconst 0, 1), 0, 0, 0, [], 0),
  (2, (.aload_n 0, 1), 0, 0, 0, [], 0),
  (3, (.getfield 296, 3), 10, 30, 0, [0, 4133], 0),
  (6, (.invokestatic 103, 3), 163, 3, 0, [1, 1, 4228], 0),
  (9, (.ifCond .ne 5, 3), 14, 0, 0, [], 0),
  (12, (.iconst (-1), 1), 0, 0, (-1), [], 0),
  (13, (.ireturn, 1), 0, 0, 0, [], 0),
  (14, (.aload_n 0, 1), 0, 0, 0, [], 0),
  (15, (.dup, 1), 0, 0, 0, [], 0),
  (16, (.getfield 296, 3), 10, 30, 0, [0, 4133], 0),
  (19, (.iload_n 1, 1), 1, 0, 0, [], 0),
  (20, (.isub, 1), 0, 0, 0, [], 0),
  (21, (.putfield 296, 3), 10, 30, 0, [0, 4133, 0], 0),
  (24, (.aload_n 0, 1), 0, 0, 0, [], 0),
  (25, (.getfield 296, 3), 10, 30, 0, [0, 4133], 0),
  (28, (.ireturn, 1), 0, 0, 0, [], 0)])]
/-- LampPressesModel.wordFrom(I)I -/
def lp_c272 : List (Nat × List lp_E) := [(28, [(0, (.iconst 0, 1), 0, 0, 0, [], 0),
  (1, (.istore_n 2, 1), 2, 0, 0, [], 0),
  (2, (.iload_n 1, 1), 1, 0, 0, [], 0),
  (3, (.istore_n 3, 1), 3, 0, 0, [], 1),
  (4, (.iload_n 3, 1), 3, 0, 0, [], 0),
  (5, (.ifCond .le 21, 3), 26, 0, 0, [], 0),
  (8, (.aload_n 0, 1), 0, 0, 0, [], 0),
  (9, (.getfield 88, 3), 10, 31, 0, [1, 4134], 0),
  (12, (.iload_n 2, 1), 2, 0, 0, [], 0),
  (13, (.baload, 1), 21, 0, 0, [], 0),
  (14, (.ifCond .ne 6, 3), 20, 0, 0, [], 0),
  (17, (.iinc 3 (-1), 3), 3, 0, (-1), [], 0),
  (20, (.iinc 2 1, 3), 2, 0, 1, [], 0),
  (23, (.goto (-19), 3), 4, 0, 0, [], 2),
  (26, (.iload_n 2, 1), 2, 0, 0, [], 0),
  (27, (.ireturn, 1), 0, 0, 0, [], 0)])]
/-- LampPressesModel.here()I -/
def lp_c273 : List (Nat × List lp_E) := [(25, [(0, (.aload_n 0, 1), 0, 0, 0, [], 0),
  (1, (.getfield 302, 3), 10, 32, 0, [0, 4135], 0),
  (4, (.aload_n 0, 1), 0, 0, 0, [], 0),
  (5, (.getfield 296, 3), 10, 30, 0, [0, 4133], 0),
  (8, (.if_icmp .ge 15, 3), 23, 0, 0, [], 0),
  (11, (.aload_n 0, 1), 0, 0, 0, [], 0),
  (12, (.getfield 85, 3), 10, 29, 0, [1, 4132], 0),
  (15, (.aload_n 0, 1), 0, 0, 0, [], 0),
  (16, (.getfield 302, 3), 10, 32, 0, [0, 4135], 0),
  (19, (.iaload, 1), 20, 0, 0, [], 0),
  (20, (.goto 4, 3), 24, 0, 0, [], 0),
  (23, (.iconst (-1), 1), 0, 0, (-1), [], 0),
  (24, (.ireturn, 1), 0, 0, 0, [], 0)])]
def lp_c274_0 : List lp_E := [(0, (.aload_n 0, 1), 0, 0, 0, [], 0),
  (1, (.getfield 305, 3), 10, 33, 0, [0, 4136], 0),
  (4, (.istore_n 1, 1), 1, 0, 0, [], 0),
  (5, (.aload_n 0, 1), 0, 0, 0, [], 0),
  (6, (.getfield 302, 3), 10, 32, 0, [0, 4135], 0),
  (9, (.istore_n 2, 1), 2, 0, 0, [], 1),
  (10, (.aload_n 0, 1), 0, 0, 0, [], 0),
  (11, (.invokevirtual 308, 3), 273, 1, 0, [0, 1, 6173], 0),
  (14, (.bipush 32, 2), 0, 0, 32, [], 0),
  (16, (.if_icmp .eq 12, 3), 28, 0, 0, [], 0),
  (19, (.aload_n 0, 1), 0, 0, 0, [], 0),
  (20, (.invokevirtual 308, 3), 273, 1, 0, [0, 1, 6173], 0),
  (23, (.bipush 10, 2), 0, 0, 10, [], 0),
  (25, (.if_icmp .ne 16, 3), 41, 0, 0, [], 0),
  (28, (.aload_n 0, 1), 0, 0, 0, [], 0),
  (29, (.dup, 1), 0, 0, 0, [], 0),
  (30, (.getfield 302, 3), 10, 32, 0, [0, 4135], 0),
  (33, (.iconst 1, 1), 0, 0, 1, [], 0),
  (34, (.iadd, 1), 0, 0, 0, [], 0),
  (35, (.putfield 302, 3), 10, 32, 0, [0, 4135, 0], 0),
  (38, (.goto (-28), 3), 10, 0, 0, [], 2),
  (41, (.aload_n 0, 1), 0, 0, 0, [], 0),
  (42, (.aload_n 0, 1), 0, 0, 0, [], 0),
  (43, (.getfield 302, 3), 10, 32, 0, [0, 4135], 0)]
def lp_c274_1 : List lp_E := [(46, (.putfield 311, 3), 10, 34, 0, [0, 4137, 0], 0),
  (49, (.aload_n 0, 1), 0, 0, 0, [], 0),
  (50, (.getfield 311, 3), 10, 34, 0, [0, 4137], 0),
  (53, (.iload_n 2, 1), 2, 0, 0, [], 0),
  (54, (.if_icmp .ne 17, 3), 71, 0, 0, [], 0),
  (57, (.iload_n 1, 1), 1, 0, 0, [], 0),
  (58, (.iconst 1, 1), 0, 0, 1, [], 0),
  (59, (.if_icmp .eq 8, 3), 67, 0, 0, [], 0),
  (62, (.iload_n 1, 1), 1, 0, 0, [], 0),
  (63, (.iconst 2, 1), 0, 0, 2, [], 0),
  (64, (.if_icmp .ne 7, 3), 71, 0, 0, [], 0),
  (67, (.iconst 1, 1), 0, 0, 1, [], 0),
  (68, (.goto 4, 3), 72, 0, 0, [], 0),
  (71, (.iconst 0, 1), 0, 0, 0, [], 0),
  (72, (.istore_n 3, 1), 3, 0, 0, [], 0),
  (73, (.aload_n 0, 1), 0, 0, 0, [], 0),
  (74, (.invokevirtual 308, 3), 273, 1, 0, [0, 1, 6173], 0),
  (77, (.istore 4, 2), 4, 0, 0, [], 0),
  (79, (.iload 4, 2), 4, 0, 0, [], 0),
  (81, (.iconst (-1), 1), 0, 0, (-1), [], 0),
  (82, (.if_icmp .ne 11, 3), 93, 0, 0, [], 0),
  (85, (.aload_n 0, 1), 0, 0, 0, [], 0),
  (86, (.iconst 0, 1), 0, 0, 0, [], 0),
  (87, (.putfield 305, 3), 10, 33, 0, [0, 4136, 0], 0)]
def lp_c274_2 : List lp_E := [(90, (.goto 113, 3), 203, 0, 0, [], 0),
  (93, (.iload 4, 2), 4, 0, 0, [], 0),
  (95, (.bipush 97, 2), 0, 0, 97, [], 0),
  (97, (.bipush 122, 2), 0, 0, 122, [], 0),
  (99, (.invokestatic 103, 3), 163, 3, 0, [1, 1, 4228], 0),
  (102, (.ifCond .eq 46, 3), 148, 0, 0, [], 1),
  (105, (.aload_n 0, 1), 0, 0, 0, [], 0),
  (106, (.invokevirtual 308, 3), 273, 1, 0, [0, 1, 6173], 0),
  (109, (.bipush 97, 2), 0, 0, 97, [], 0),
  (111, (.bipush 122, 2), 0, 0, 122, [], 0),
  (113, (.invokestatic 103, 3), 163, 3, 0, [1, 1, 4228], 0),
  (116, (.ifCond .eq 16, 3), 132, 0, 0, [], 0),
  (119, (.aload_n 0, 1), 0, 0, 0, [], 0),
  (120, (.dup, 1), 0, 0, 0, [], 0),
  (121, (.getfield 302, 3), 10, 32, 0, [0, 4135], 0),
  (124, (.iconst 1, 1), 0, 0, 1, [], 0),
  (125, (.iadd, 1), 0, 0, 0, [], 0),
  (126, (.putfield 302, 3), 10, 32, 0, [0, 4135, 0], 0),
  (129, (.goto (-24), 3), 105, 0, 0, [], 2),
  (132, (.aload_n 0, 1), 0, 0, 0, [], 0),
  (133, (.iload_n 3, 1), 3, 0, 0, [], 0),
  (134, (.ifCond .eq 7, 3), 141, 0, 0, [], 0),
  (137, (.iconst 4, 1), 0, 0, 4, [], 0),
  (138, (.goto 4, 3), 142, 0, 0, [], 0)]
def lp_c274_3 : List lp_E := [(141, (.iconst 1, 1), 0, 0, 1, [], 0),
  (142, (.putfield 305, 3), 10, 33, 0, [0, 4136, 0], 0),
  (145, (.goto 58, 3), 203, 0, 0, [], 0),
  (148, (.aload_n 0, 1), 0, 0, 0, [], 0),
  (149, (.dup, 1), 0, 0, 0, [], 0),
  (150, (.getfield 302, 3), 10, 32, 0, [0, 4135], 0),
  (153, (.iconst 1, 1), 0, 0, 1, [], 0),
  (154, (.iadd, 1), 0, 0, 0, [], 0),
  (155, (.putfield 302, 3), 10, 32, 0, [0, 4135, 0], 0),
  (158, (.aload_n 0, 1), 0, 0, 0, [], 0),
  (159, (.iload 4, 2), 4, 0, 0, [], 0),
  (161, (.bipush 48, 2), 0, 0, 48, [], 0),
  (163, (.isub, 1), 0, 0, 0, [], 0),
  (164, (.putfield 314, 3), 10, 35, 0, [0, 4138, 0], 0),
  (167, (.aload_n 0, 1), 0, 0, 0, [], 0),
  (168, (.iload 4, 2), 4, 0, 0, [], 0),
  (170, (.bipush 59, 2), 0, 0, 59, [], 0),
  (172, (.if_icmp .ne 7, 3), 179, 0, 0, [], 0),
  (175, (.iconst 3, 1), 0, 0, 3, [], 0),
  (176, (.goto 24, 3), 200, 0, 0, [], 0),
  (179, (.iload 4, 2), 4, 0, 0, [], 0),
  (181, (.bipush 48, 2), 0, 0, 48, [], 0),
  (183, (.bipush 57, 2), 0, 0, 57, [], 0),
  (185, (.invokestatic 103, 3), 163, 3, 0, [1, 1, 4228], 0)]
def lp_c274_4 : List lp_E := [(188, (.ifCond .eq 11, 3), 199, 0, 0, [], 0),
  (191, (.iload_n 3, 1), 3, 0, 0, [], 0),
  (192, (.ifCond .ne 7, 3), 199, 0, 0, [], 0),
  (195, (.iconst 2, 1), 0, 0, 2, [], 0),
  (196, (.goto 4, 3), 200, 0, 0, [], 0),
  (199, (.iconst 4, 1), 0, 0, 4, [], 0),
  (200, (.putfield 305, 3), 10, 33, 0, [0, 4136, 0], 0),
  (203, (.return_, 1), 0, 0, 0, [], 0)]
/-- LampPressesModel.goesOn()V -/
def lp_c274 : List (Nat × List lp_E) := [(46, lp_c274_0), (90, lp_c274_1), (141, lp_c274_2), (188, lp_c274_3), (204, lp_c274_4)]
/-- LampPressesModel.takesWord(I)Z -/
def lp_c275 : List (Nat × List lp_E) := [(42, [(0, (.aload_n 0, 1), 0, 0, 0, [], 0),
  (1, (.getfield 317, 3), 10, 36, 0, [0, 4139], 0),
  (4, (.ifCond .ne 11, 3), 15, 0, 0, [], 0),
  (7, (.aload_n 0, 1), 0, 0, 0, [], 0),
  (8, (.getfield 305, 3), 10, 33, 0, [0, 4136], 0),
  (11, (.iconst 1, 1), 0, 0, 1, [], 0),
  (12, (.if_icmp .eq 5, 3), 17, 0, 0, [], 0),
  (15, (.iconst 0, 1), 0, 0, 0, [], 0),
  (16, (.ireturn, 1), 1, 0, 0, [], 0),
  (17, (.aload_n 0, 1), 0, 0, 0, [], 0),
  (18, (.iload_n 1, 1), 1, 0, 0, [], 0),
  (19, (.invokevirtual 275, 3), 272, 2, 0, [0, 1, 6121], 0),
  (22, (.istore_n 2, 1), 2, 0, 0, [], 0),
  (23, (.iconst 0, 1), 0, 0, 0, [], 0),
  (24, (.istore_n 3, 1), 3, 0, 0, [], 1),
  (25, (.aload_n 0, 1), 0, 0, 0, [], 0),
  (26, (.getfield 311, 3), 10, 34, 0, [0, 4137], 0),
  (29, (.iload_n 3, 1), 3, 0, 0, [], 0),
  (30, (.iadd, 1), 0, 0, 0, [], 0),
  (31, (.aload_n 0, 1), 0, 0, 0, [], 0),
  (32, (.getfield 302, 3), 10, 32, 0, [0, 4135], 0),
  (35, (.if_icmp .ge 31, 3), 66, 0, 0, [], 0),
  (38, (.aload_n 0, 1), 0, 0, 0, [], 0),
  (39, (.getfield 88, 3), 10, 31, 0, [1, 4134], 0)]),
 (84, [(42, (.iload_n 2, 1), 2, 0, 0, [], 0),
  (43, (.iload_n 3, 1), 3, 0, 0, [], 0),
  (44, (.iadd, 1), 0, 0, 0, [], 0),
  (45, (.baload, 1), 21, 0, 0, [], 0),
  (46, (.aload_n 0, 1), 0, 0, 0, [], 0),
  (47, (.getfield 85, 3), 10, 29, 0, [1, 4132], 0),
  (50, (.aload_n 0, 1), 0, 0, 0, [], 0),
  (51, (.getfield 311, 3), 10, 34, 0, [0, 4137], 0),
  (54, (.iload_n 3, 1), 3, 0, 0, [], 0),
  (55, (.iadd, 1), 0, 0, 0, [], 0),
  (56, (.iaload, 1), 20, 0, 0, [], 0),
  (57, (.if_icmp .ne 9, 3), 66, 0, 0, [], 0),
  (60, (.iinc 3 1, 3), 3, 0, 1, [], 0),
  (63, (.goto (-38), 3), 25, 0, 0, [], 2),
  (66, (.aload_n 0, 1), 0, 0, 0, [], 0),
  (67, (.getfield 311, 3), 10, 34, 0, [0, 4137], 0),
  (70, (.iload_n 3, 1), 3, 0, 0, [], 0),
  (71, (.iadd, 1), 0, 0, 0, [], 0),
  (72, (.aload_n 0, 1), 0, 0, 0, [], 0),
  (73, (.getfield 302, 3), 10, 32, 0, [0, 4135], 0),
  (76, (.if_icmp .ne 14, 3), 90, 0, 0, [], 0),
  (79, (.aload_n 0, 1), 0, 0, 0, [], 0),
  (80, (.getfield 88, 3), 10, 31, 0, [1, 4134], 0),
  (83, (.iload_n 2, 1), 2, 0, 0, [], 0)]),
 (98, [(84, (.iload_n 3, 1), 3, 0, 0, [], 0),
  (85, (.iadd, 1), 0, 0, 0, [], 0),
  (86, (.baload, 1), 21, 0, 0, [], 0),
  (87, (.ifCond .eq 5, 3), 92, 0, 0, [], 0),
  (90, (.iconst 0, 1), 0, 0, 0, [], 0),
  (91, (.ireturn, 1), 1, 0, 0, [], 0),
  (92, (.aload_n 0, 1), 0, 0, 0, [], 0),
  (93, (.invokevirtual 321, 3), 274, 1, 0, [0, 0, 6169], 0),
  (96, (.iconst 1, 1), 0, 0, 1, [], 0),
  (97, (.ireturn, 1), 1, 0, 0, [], 0)])]
/-- LampPressesModel.needsNumber(II)I -/
def lp_c276 : List (Nat × List lp_E) := [(44, [(0, (.aload_n 0, 1), 0, 0, 0, [], 0),
  (1, (.getfield 317, 3), 10, 36, 0, [0, 4139], 0),
  (4, (.ifCond .ne 23, 3), 27, 0, 0, [], 0),
  (7, (.aload_n 0, 1), 0, 0, 0, [], 0),
  (8, (.getfield 305, 3), 10, 33, 0, [0, 4136], 0),
  (11, (.iconst 2, 1), 0, 0, 2, [], 0),
  (12, (.if_icmp .ne 15, 3), 27, 0, 0, [], 0),
  (15, (.aload_n 0, 1), 0, 0, 0, [], 0),
  (16, (.getfield 314, 3), 10, 35, 0, [0, 4138], 0),
  (19, (.iload_n 1, 1), 1, 0, 0, [], 0),
  (20, (.iload_n 2, 1), 2, 0, 0, [], 0),
  (21, (.invokestatic 103, 3), 163, 3, 0, [1, 1, 4228], 0),
  (24, (.ifCond .ne 10, 3), 34, 0, 0, [], 0),
  (27, (.aload_n 0, 1), 0, 0, 0, [], 0),
  (28, (.iconst 1, 1), 0, 0, 1, [], 0),
  (29, (.putfield 317, 3), 10, 36, 0, [2, 4139, 0], 0),
  (32, (.iload_n 1, 1), 1, 0, 0, [], 0),
  (33, (.ireturn, 1), 0, 0, 0, [], 0),
  (34, (.aload_n 0, 1), 0, 0, 0, [], 0),
  (35, (.getfield 314, 3), 10, 35, 0, [0, 4138], 0),
  (38, (.istore_n 3, 1), 3, 0, 0, [], 0),
  (39, (.aload_n 0, 1), 0, 0, 0, [], 0),
  (40, (.invokevirtual 321, 3), 274, 1, 0, [0, 0, 6169], 0),
  (43, (.iload_n 3, 1), 3, 0, 0, [], 0)]),
 (45, [(44, (.ireturn, 1), 0, 0, 0, [], 0)])]
/-- LampPressesModel.readsStates()V -/
def lp_c277 : List (Nat × List lp_E) := [(48, [(0, (.aload_n 0, 1), 0, 0, 0, [], 0),
  (1, (.aload_n 0, 1), 0, 0, 0, [], 0),
  (2, (.getfield 305, 3), 10, 33, 0, [0, 4136], 0),
  (5, (.iconst 2, 1), 0, 0, 2, [], 0),
  (6, (.if_icmp .ne 27, 3), 33, 0, 0, [], 0),
  (9, (.aload_n 0, 1), 0, 0, 0, [], 0),
  (10, (.getfield 314, 3), 10, 35, 0, [0, 4138], 0),
  (13, (.iconst 2, 1), 0, 0, 2, [], 0),
  (14, (.if_icmp .eq 23, 3), 37, 0, 0, [], 0),
  (17, (.aload_n 0, 1), 0, 0, 0, [], 0),
  (18, (.getfield 314, 3), 10, 35, 0, [0, 4138], 0),
  (21, (.iconst 3, 1), 0, 0, 3, [], 0),
  (22, (.if_icmp .eq 15, 3), 37, 0, 0, [], 0),
  (25, (.aload_n 0, 1), 0, 0, 0, [], 0),
  (26, (.getfield 314, 3), 10, 35, 0, [0, 4138], 0),
  (29, (.iconst 5, 1), 0, 0, 5, [], 0),
  (30, (.if_icmp .eq 7, 3), 37, 0, 0, [], 0),
  (33, (.iconst 1, 1), 0, 0, 1, [], 0),
  (34, (.goto 4, 3), 38, 0, 0, [], 0),
  (37, (.iconst 0, 1), 0, 0, 0, [], 0),
  (38, (.putfield 317, 3), 10, 36, 0, [2, 4139, 0], 0),
  (41, (.aload_n 0, 1), 0, 0, 0, [], 0),
  (42, (.getfield 317, 3), 10, 36, 0, [0, 4139], 0),
  (45, (.ifCond .eq 4, 3), 49, 0, 0, [], 0)]),
 (64, [(48, (.return_, 1), 0, 0, 0, [], 0),
  (49, (.aload_n 0, 1), 0, 0, 0, [], 0),
  (50, (.getfield 17, 3), 10, 2, 0, [1, 4105], 0),
  (53, (.iconst 0, 1), 0, 0, 0, [], 0),
  (54, (.aload_n 0, 1), 0, 0, 0, [], 0),
  (55, (.getfield 314, 3), 10, 35, 0, [0, 4138], 0),
  (58, (.iastore, 1), 0, 0, 0, [], 0),
  (59, (.aload_n 0, 1), 0, 0, 0, [], 0),
  (60, (.invokevirtual 321, 3), 274, 1, 0, [0, 0, 6169], 0),
  (63, (.return_, 1), 0, 0, 0, [], 0)])]
/-- LampPressesModel.readsLamp(I)V -/
def lp_c278 : List (Nat × List lp_E) := [(39, [(0, (.aload_n 0, 1), 0, 0, 0, [], 0),
  (1, (.getfield 17, 3), 10, 2, 0, [1, 4105], 0),
  (4, (.iconst 1, 1), 0, 0, 1, [], 0),
  (5, (.iaload, 1), 20, 0, 0, [], 0),
  (6, (.bipush 10, 2), 0, 0, 10, [], 0),
  (8, (.if_icmp .ne 14, 3), 22, 0, 0, [], 0),
  (11, (.aload_n 0, 1), 0, 0, 0, [], 0),
  (12, (.iload_n 1, 1), 1, 0, 0, [], 0),
  (13, (.putfield 311, 3), 10, 34, 0, [0, 4137, 0], 0),
  (16, (.aload_n 0, 1), 0, 0, 0, [], 0),
  (17, (.iconst 1, 1), 0, 0, 1, [], 0),
  (18, (.putfield 317, 3), 10, 36, 0, [2, 4139, 0], 0),
  (21, (.return_, 1), 0, 0, 0, [], 0),
  (22, (.aload_n 0, 1), 0, 0, 0, [], 0),
  (23, (.getfield 17, 3), 10, 2, 0, [1, 4105], 0),
  (26, (.iconst 1, 1), 0, 0, 1, [], 0),
  (27, (.iaload, 1), 20, 0, 0, [], 0),
  (28, (.istore_n 2, 1), 2, 0, 0, [], 0),
  (29, (.aload_n 0, 1), 0, 0, 0, [], 0),
  (30, (.getfield 17, 3), 10, 2, 0, [1, 4105], 0),
  (33, (.aload_n 0, 1), 0, 0, 0, [], 0),
  (34, (.iconst 0, 1), 0, 0, 0, [], 0),
  (35, (.aload_n 0, 1), 0, 0, 0, [], 0),
  (36, (.getfield 17, 3), 10, 2, 0, [1, 4105], 0)]),
 (78, [(39, (.iconst 0, 1), 0, 0, 0, [], 0),
  (40, (.iaload, 1), 20, 0, 0, [], 0),
  (41, (.iconst 1, 1), 0, 0, 1, [], 0),
  (42, (.isub, 1), 0, 0, 0, [], 0),
  (43, (.invokevirtual 324, 3), 276, 3, 0, [0, 1, 6193], 0),
  (46, (.invokestatic 121, 3), 173, 2, 0, [1, 0, 4239], 0),
  (49, (.aload_n 0, 1), 0, 0, 0, [], 0),
  (50, (.iconst 2, 1), 0, 0, 2, [], 0),
  (51, (.invokevirtual 327, 3), 275, 2, 0, [0, 1, 6181], 0),
  (54, (.ifCond .eq 25, 3), 79, 0, 0, [], 0),
  (57, (.aload_n 0, 1), 0, 0, 0, [], 0),
  (58, (.getfield 17, 3), 10, 2, 0, [1, 4105], 0),
  (61, (.bipush 14, 2), 0, 0, 14, [], 0),
  (63, (.iload_n 2, 1), 2, 0, 0, [], 0),
  (64, (.iadd, 1), 0, 0, 0, [], 0),
  (65, (.aload_n 0, 1), 0, 0, 0, [], 0),
  (66, (.iconst 0, 1), 0, 0, 0, [], 0),
  (67, (.aload_n 0, 1), 0, 0, 0, [], 0),
  (68, (.getfield 17, 3), 10, 2, 0, [1, 4105], 0),
  (71, (.iconst 0, 1), 0, 0, 0, [], 0),
  (72, (.iaload, 1), 20, 0, 0, [], 0),
  (73, (.iconst 1, 1), 0, 0, 1, [], 0),
  (74, (.isub, 1), 0, 0, 0, [], 0),
  (75, (.invokevirtual 324, 3), 276, 3, 0, [0, 1, 6193], 0)]),
 (110, [(78, (.iastore, 1), 0, 0, 0, [], 0),
  (79, (.aload_n 0, 1), 0, 0, 0, [], 0),
  (80, (.iconst 3, 1), 0, 0, 3, [], 0),
  (81, (.invokevirtual 327, 3), 275, 2, 0, [0, 1, 6181], 0),
  (84, (.ifCond .eq 25, 3), 109, 0, 0, [], 0),
  (87, (.aload_n 0, 1), 0, 0, 0, [], 0),
  (88, (.getfield 17, 3), 10, 2, 0, [1, 4105], 0),
  (91, (.bipush 24, 2), 0, 0, 24, [], 0),
  (93, (.iload_n 2, 1), 2, 0, 0, [], 0),
  (94, (.iadd, 1), 0, 0, 0, [], 0),
  (95, (.aload_n 0, 1), 0, 0, 0, [], 0),
  (96, (.iconst 0, 1), 0, 0, 0, [], 0),
  (97, (.aload_n 0, 1), 0, 0, 0, [], 0),
  (98, (.getfield 17, 3), 10, 2, 0, [1, 4105], 0),
  (101, (.iconst 0, 1), 0, 0, 0, [], 0),
  (102, (.iaload, 1), 20, 0, 0, [], 0),
  (103, (.iconst 1, 1), 0, 0, 1, [], 0),
  (104, (.isub, 1), 0, 0, 0, [], 0),
  (105, (.invokevirtual 324, 3), 276, 3, 0, [0, 1, 6193], 0),
  (108, (.iastore, 1), 0, 0, 0, [], 0),
  (109, (.return_, 1), 0, 0, 0, [], 0)])]
def lp_c279_0 : List lp_E := [(0, (.aload_n 0, 1), 0, 0, 0, [], 0),
  (1, (.iconst 0, 1), 0, 0, 0, [], 0),
  (2, (.aload_n 0, 1), 0, 0, 0, [], 0),
  (3, (.getfield 17, 3), 10, 2, 0, [1, 4105], 0),
  (6, (.iconst 1, 1), 0, 0, 1, [], 0),
  (7, (.iaload, 1), 20, 0, 0, [], 0),
  (8, (.iconst 1, 1), 0, 0, 1, [], 0),
  (9, (.isub, 1), 0, 0, 0, [], 0),
  (10, (.invokevirtual 324, 3), 276, 3, 0, [0, 1, 6193], 0),
  (13, (.istore_n 1, 1), 1, 0, 0, [], 0),
  (14, (.aload_n 0, 1), 0, 0, 0, [], 0),
  (15, (.aload_n 0, 1), 0, 0, 0, [], 0),
  (16, (.getfield 317, 3), 10, 36, 0, [0, 4139], 0),
  (19, (.ifCond .ne 54, 3), 73, 0, 0, [], 0),
  (22, (.aload_n 0, 1), 0, 0, 0, [], 0),
  (23, (.getfield 305, 3), 10, 33, 0, [0, 4136], 0),
  (26, (.iconst 2, 1), 0, 0, 2, [], 0),
  (27, (.if_icmp .ne 46, 3), 73, 0, 0, [], 0),
  (30, (.aload_n 0, 1), 0, 0, 0, [], 0),
  (31, (.getfield 314, 3), 10, 35, 0, [0, 4138], 0),
  (34, (.iconst 0, 1), 0, 0, 0, [], 0),
  (35, (.aload_n 0, 1), 0, 0, 0, [], 0),
  (36, (.getfield 17, 3), 10, 2, 0, [1, 4105], 0),
  (39, (.iconst 1, 1), 0, 0, 1, [], 0)]
def lp_c279_1 : List lp_E := [(40, (.iaload, 1), 20, 0, 0, [], 0),
  (41, (.iconst 1, 1), 0, 0, 1, [], 0),
  (42, (.isub, 1), 0, 0, 0, [], 0),
  (43, (.invokestatic 103, 3), 163, 3, 0, [1, 1, 4228], 0),
  (46, (.ifCond .eq 27, 3), 73, 0, 0, [], 0),
  (49, (.aload_n 0, 1), 0, 0, 0, [], 0),
  (50, (.getfield 314, 3), 10, 35, 0, [0, 4138], 0),
  (53, (.iload_n 1, 1), 1, 0, 0, [], 0),
  (54, (.if_icmp .eq 19, 3), 73, 0, 0, [], 0),
  (57, (.aload_n 0, 1), 0, 0, 0, [], 0),
  (58, (.getfield 17, 3), 10, 2, 0, [1, 4105], 0),
  (61, (.iload_n 1, 1), 1, 0, 0, [], 0),
  (62, (.aload_n 0, 1), 0, 0, 0, [], 0),
  (63, (.getfield 314, 3), 10, 35, 0, [0, 4138], 0),
  (66, (.invokestatic 110, 3), 172, 2, 0, [1, 1, 5002], 0),
  (69, (.iaload, 1), 20, 0, 0, [], 0),
  (70, (.ifCond .le 7, 3), 77, 0, 0, [], 0),
  (73, (.iconst 1, 1), 0, 0, 1, [], 0),
  (74, (.goto 4, 3), 78, 0, 0, [], 0),
  (77, (.iconst 0, 1), 0, 0, 0, [], 0),
  (78, (.putfield 317, 3), 10, 36, 0, [2, 4139, 0], 0),
  (81, (.aload_n 0, 1), 0, 0, 0, [], 0),
  (82, (.getfield 317, 3), 10, 36, 0, [0, 4139], 0),
  (85, (.ifCond .eq 4, 3), 89, 0, 0, [], 0)]
def lp_c279_2 : List lp_E := [(88, (.return_, 1), 0, 0, 0, [], 0),
  (89, (.aload_n 0, 1), 0, 0, 0, [], 0),
  (90, (.getfield 314, 3), 10, 35, 0, [0, 4138], 0),
  (93, (.istore_n 2, 1), 2, 0, 0, [], 0),
  (94, (.aload_n 0, 1), 0, 0, 0, [], 0),
  (95, (.invokevirtual 321, 3), 274, 1, 0, [0, 0, 6169], 0),
  (98, (.aload_n 0, 1), 0, 0, 0, [], 0),
  (99, (.getfield 17, 3), 10, 2, 0, [1, 4105], 0),
  (102, (.iload_n 1, 1), 1, 0, 0, [], 0),
  (103, (.iload_n 2, 1), 2, 0, 0, [], 0),
  (104, (.aload_n 0, 1), 0, 0, 0, [], 0),
  (105, (.iconst 5, 1), 0, 0, 5, [], 0),
  (106, (.invokevirtual 327, 3), 275, 2, 0, [0, 1, 6181], 0),
  (109, (.ifCond .eq 19, 3), 128, 0, 0, [], 0),
  (112, (.aload_n 0, 1), 0, 0, 0, [], 0),
  (113, (.iconst 1, 1), 0, 0, 1, [], 0),
  (114, (.aload_n 0, 1), 0, 0, 0, [], 0),
  (115, (.getfield 17, 3), 10, 2, 0, [1, 4105], 0),
  (118, (.iconst 0, 1), 0, 0, 0, [], 0),
  (119, (.iaload, 1), 20, 0, 0, [], 0),
  (120, (.iconst 1, 1), 0, 0, 1, [], 0),
  (121, (.isub, 1), 0, 0, 0, [], 0),
  (122, (.invokevirtual 324, 3), 276, 3, 0, [0, 1, 6193], 0),
  (125, (.goto 4, 3), 129, 0, 0, [], 0)]
def lp_c279_3 : List lp_E := [(128, (.iconst 1, 1), 0, 0, 1, [], 0),
  (129, (.invokestatic 135, 3), 179, 4, 0, [1, 0, 5032], 0),
  (132, (.return_, 1), 0, 0, 0, [], 0)]
/-- LampPressesModel.readsWire()V -/
def lp_c279 : List (Nat × List lp_E) := [(40, lp_c279_0), (88, lp_c279_1), (128, lp_c279_2), (133, lp_c279_3)]
/-- LampPressesModel.readsOne(Z)V -/
def lp_c280 : List (Nat × List lp_E) := [(48, [(0, (.aload_n 0, 1), 0, 0, 0, [], 0),
  (1, (.getfield 311, 3), 10, 34, 0, [0, 4137], 0),
  (4, (.istore_n 2, 1), 2, 0, 0, [], 0),
  (5, (.iload_n 1, 1), 1, 0, 0, [], 0),
  (6, (.ifCond .eq 18, 3), 24, 0, 0, [], 0),
  (9, (.aload_n 0, 1), 0, 0, 0, [], 0),
  (10, (.iconst 0, 1), 0, 0, 0, [], 0),
  (11, (.invokevirtual 327, 3), 275, 2, 0, [0, 1, 6181], 0),
  (14, (.ifCond .eq 10, 3), 24, 0, 0, [], 0),
  (17, (.aload_n 0, 1), 0, 0, 0, [], 0),
  (18, (.invokevirtual 330, 3), 277, 1, 0, [0, 0, 6185], 0),
  (21, (.goto 39, 3), 60, 0, 0, [], 0),
  (24, (.aload_n 0, 1), 0, 0, 0, [], 0),
  (25, (.iconst 1, 1), 0, 0, 1, [], 0),
  (26, (.invokevirtual 327, 3), 275, 2, 0, [0, 1, 6181], 0),
  (29, (.ifCond .eq 11, 3), 40, 0, 0, [], 0),
  (32, (.aload_n 0, 1), 0, 0, 0, [], 0),
  (33, (.iload_n 2, 1), 2, 0, 0, [], 0),
  (34, (.invokevirtual 333, 3), 278, 2, 0, [0, 0, 6189], 0),
  (37, (.goto 23, 3), 60, 0, 0, [], 0),
  (40, (.aload_n 0, 1), 0, 0, 0, [], 0),
  (41, (.iconst 4, 1), 0, 0, 4, [], 0),
  (42, (.invokevirtual 327, 3), 275, 2, 0, [0, 1, 6181], 0),
  (45, (.ifCond .eq 10, 3), 55, 0, 0, [], 0)]),
 (89, [(48, (.aload_n 0, 1), 0, 0, 0, [], 0),
  (49, (.invokevirtual 336, 3), 279, 1, 0, [0, 0, 6197], 0),
  (52, (.goto 8, 3), 60, 0, 0, [], 0),
  (55, (.aload_n 0, 1), 0, 0, 0, [], 0),
  (56, (.iconst 1, 1), 0, 0, 1, [], 0),
  (57, (.putfield 317, 3), 10, 36, 0, [2, 4139, 0], 0),
  (60, (.aload_n 0, 1), 0, 0, 0, [], 0),
  (61, (.getfield 317, 3), 10, 36, 0, [0, 4139], 0),
  (64, (.ifCond .eq 4, 3), 68, 0, 0, [], 0),
  (67, (.return_, 1), 0, 0, 0, [], 0),
  (68, (.aload_n 0, 1), 0, 0, 0, [], 0),
  (69, (.getfield 305, 3), 10, 33, 0, [0, 4136], 0),
  (72, (.iconst 3, 1), 0, 0, 3, [], 0),
  (73, (.if_icmp .ne 10, 3), 83, 0, 0, [], 0),
  (76, (.aload_n 0, 1), 0, 0, 0, [], 0),
  (77, (.invokevirtual 321, 3), 274, 1, 0, [0, 0, 6169], 0),
  (80, (.goto 8, 3), 88, 0, 0, [], 0),
  (83, (.aload_n 0, 1), 0, 0, 0, [], 0),
  (84, (.iconst 1, 1), 0, 0, 1, [], 0),
  (85, (.putfield 317, 3), 10, 36, 0, [2, 4139, 0], 0),
  (88, (.return_, 1), 0, 0, 0, [], 0)])]
/-- LampPressesModel.text()I -/
def lp_c281 : List (Nat × List lp_E) := [(44, [(0, (.aload_n 0, 1), 0, 0, 0, [], 0),
  (1, (.getfield 17, 3), 10, 2, 0, [1, 4105], 0),
  (4, (.invokestatic 92, 3), 165, 1, 0, [1, 0, 4101], 0),
  (7, (.aload_n 0, 1), 0, 0, 0, [], 0),
  (8, (.iconst 0, 1), 0, 0, 0, [], 0),
  (9, (.putfield 302, 3), 10, 32, 0, [0, 4135, 0], 0),
  (12, (.aload_n 0, 1), 0, 0, 0, [], 0),
  (13, (.iconst 3, 1), 0, 0, 3, [], 0),
  (14, (.putfield 305, 3), 10, 33, 0, [0, 4136, 0], 0),
  (17, (.aload_n 0, 1), 0, 0, 0, [], 0),
  (18, (.iconst 0, 1), 0, 0, 0, [], 0),
  (19, (.putfield 317, 3), 10, 36, 0, [2, 4139, 0], 0),
  (22, (.aload_n 0, 1), 0, 0, 0, [], 0),
  (23, (.invokevirtual 321, 3), 274, 1, 0, [0, 0, 6169], 0),
  (26, (.iconst 1, 1), 0, 0, 1, [], 0),
  (27, (.istore_n 1, 1), 1, 0, 0, [], 1),
  (28, (.aload_n 0, 1), 0, 0, 0, [], 0),
  (29, (.getfield 317, 3), 10, 36, 0, [0, 4139], 0),
  (32, (.ifCond .ne 20, 3), 52, 0, 0, [], 0),
  (35, (.aload_n 0, 1), 0, 0, 0, [], 0),
  (36, (.getfield 305, 3), 10, 33, 0, [0, 4136], 0),
  (39, (.ifCond .eq 13, 3), 52, 0, 0, [], 0),
  (42, (.aload_n 0, 1), 0, 0, 0, [], 0),
  (43, (.iload_n 1, 1), 1, 0, 0, [], 0)]),
 (89, [(44, (.invokevirtual 339, 3), 280, 2, 0, [0, 0, 6177], 0),
  (47, (.iconst 0, 1), 0, 0, 0, [], 0),
  (48, (.istore_n 1, 1), 1, 0, 0, [], 0),
  (49, (.goto (-21), 3), 28, 0, 0, [], 2),
  (52, (.aload_n 0, 1), 0, 0, 0, [], 0),
  (53, (.iconst 0, 1), 0, 0, 0, [], 0),
  (54, (.putfield 296, 3), 10, 30, 0, [0, 4133, 0], 0),
  (57, (.aload_n 0, 1), 0, 0, 0, [], 0),
  (58, (.getfield 317, 3), 10, 36, 0, [0, 4139], 0),
  (61, (.ifCond .eq 11, 3), 72, 0, 0, [], 0),
  (64, (.bipush (-4), 2), 0, 0, (-4), [], 0),
  (66, (.aload_n 0, 1), 0, 0, 0, [], 0),
  (67, (.getfield 311, 3), 10, 34, 0, [0, 4137], 0),
  (70, (.isub, 1), 0, 0, 0, [], 0),
  (71, (.ireturn, 1), 0, 0, 0, [], 0),
  (72, (.aload_n 0, 1), 0, 0, 0, [], 0),
  (73, (.getfield 17, 3), 10, 2, 0, [1, 4105], 0),
  (76, (.aload_n 0, 1), 0, 0, 0, [], 0),
  (77, (.getfield 13, 3), 10, 1, 0, [1, 4104], 0),
  (80, (.invokestatic 125, 3), 166, 2, 0, [1, 0, 5017], 0),
  (83, (.aload_n 0, 1), 0, 0, 0, [], 0),
  (84, (.iconst 0, 1), 0, 0, 0, [], 0),
  (85, (.putfield 96, 3), 10, 5, 0, [0, 4108, 0], 0),
  (88, (.aload_n 0, 1), 0, 0, 0, [], 0)]),
 (93, [(89, (.invokevirtual 99, 3), 169, 1, 0, [0, 1, 4231], 0),
  (92, (.ireturn, 1), 0, 0, 0, [], 0)])]
/-- java/lang/Integer.bitCount(I)I -/
def lp_c282 : List (Nat × List lp_E) := [(32, [(0, (.iload_n 0, 1), 0, 0, 0, [], 0),
  (1, (.iload_n 0, 1), 0, 0, 0, [], 0),
  (2, (.iconst 1, 1), 0, 0, 1, [], 0),
  (3, (.iushr, 1), 0, 0, 0, [], 0),
  (4, (.ldc_w 265, 3), 0, 0, 1431655765, [0, 2221], 0),
  (7, (.iand, 1), 0, 0, 0, [], 0),
  (8, (.isub, 1), 0, 0, 0, [], 0),
  (9, (.istore_n 0, 1), 0, 0, 0, [], 0),
  (10, (.iload_n 0, 1), 0, 0, 0, [], 0),
  (11, (.ldc_w 266, 3), 0, 0, 858993459, [0, 2222], 0),
  (14, (.iand, 1), 0, 0, 0, [], 0),
  (15, (.iload_n 0, 1), 0, 0, 0, [], 0),
  (16, (.iconst 2, 1), 0, 0, 2, [], 0),
  (17, (.iushr, 1), 0, 0, 0, [], 0),
  (18, (.ldc_w 266, 3), 0, 0, 858993459, [0, 2222], 0),
  (21, (.iand, 1), 0, 0, 0, [], 0),
  (22, (.iadd, 1), 0, 0, 0, [], 0),
  (23, (.istore_n 0, 1), 0, 0, 0, [], 0),
  (24, (.iload_n 0, 1), 0, 0, 0, [], 0),
  (25, (.iload_n 0, 1), 0, 0, 0, [], 0),
  (26, (.iconst 4, 1), 0, 0, 4, [], 0),
  (27, (.iushr, 1), 0, 0, 0, [], 0),
  (28, (.iadd, 1), 0, 0, 0, [], 0),
  (29, (.ldc_w 267, 3), 0, 0, 252645135, [0, 2223], 0)]),
 (53, [(32, (.iand, 1), 0, 0, 0, [], 0),
  (33, (.istore_n 0, 1), 0, 0, 0, [], 0),
  (34, (.iload_n 0, 1), 0, 0, 0, [], 0),
  (35, (.iload_n 0, 1), 0, 0, 0, [], 0),
  (36, (.bipush 8, 2), 0, 0, 8, [], 0),
  (38, (.iushr, 1), 0, 0, 0, [], 0),
  (39, (.iadd, 1), 0, 0, 0, [], 0),
  (40, (.istore_n 0, 1), 0, 0, 0, [], 0),
  (41, (.iload_n 0, 1), 0, 0, 0, [], 0),
  (42, (.iload_n 0, 1), 0, 0, 0, [], 0),
  (43, (.bipush 16, 2), 0, 0, 16, [], 0),
  (45, (.iushr, 1), 0, 0, 0, [], 0),
  (46, (.iadd, 1), 0, 0, 0, [], 0),
  (47, (.istore_n 0, 1), 0, 0, 0, [], 0),
  (48, (.iload_n 0, 1), 0, 0, 0, [], 0),
  (49, (.bipush 63, 2), 0, 0, 63, [], 0),
  (51, (.iand, 1), 0, 0, 0, [], 0),
  (52, (.ireturn, 1), 0, 0, 0, [], 0)])]
/-- java/lang/Math.max(II)I -/
def lp_c283 : List (Nat × List lp_E) := [(11, [(0, (.iload_n 0, 1), 0, 0, 0, [], 0),
  (1, (.iload_n 1, 1), 1, 0, 0, [], 0),
  (2, (.if_icmp .lt 7, 3), 9, 0, 0, [], 0),
  (5, (.iload_n 0, 1), 0, 0, 0, [], 0),
  (6, (.goto 4, 3), 10, 0, 0, [], 0),
  (9, (.iload_n 1, 1), 1, 0, 0, [], 0),
  (10, (.ireturn, 1), 0, 0, 0, [], 0)])]
/-- java/lang/Math.min(II)I -/
def lp_c284 : List (Nat × List lp_E) := [(11, [(0, (.iload_n 0, 1), 0, 0, 0, [], 0),
  (1, (.iload_n 1, 1), 1, 0, 0, [], 0),
  (2, (.if_icmp .gt 7, 3), 9, 0, 0, [], 0),
  (5, (.iload_n 0, 1), 0, 0, 0, [], 0),
  (6, (.goto 4, 3), 10, 0, 0, [], 0),
  (9, (.iload_n 1, 1), 1, 0, 0, [], 0),
  (10, (.ireturn, 1), 0, 0, 0, [], 0)])]
/-- java/lang/String.length()I -/
def lp_c285 : List (Nat × List lp_E) := [(11, [(0, (.aload_n 0, 1), 0, 0, 0, [], 0),
  (1, (.getfield 9, 3), 0, 0, 0, [2, 6201], 0),
  (4, (.arraylength, 1), 100, 0, 0, [], 0),
  (5, (.aload_n 0, 1), 0, 0, 0, [], 0),
  (6, (.invokevirtual 335, 3), 287, 1, 0, [0, 1, 1157], 0),
  (9, (.ishr, 1), 0, 0, 0, [], 0),
  (10, (.ireturn, 1), 0, 0, 0, [], 0)])]
/-- java/lang/String.charAt(I)C -/
def lp_c286 : List (Nat × List lp_E) := [(25, [(0, (.aload_n 0, 1), 0, 0, 0, [], 0),
  (1, (.invokevirtual 492, 3), 288, 1, 0, [0, 1, 1167], 0),
  (4, (.ifCond .eq 12, 3), 16, 0, 0, [], 0),
  (7, (.aload_n 0, 1), 0, 0, 0, [], 0),
  (8, (.getfield 9, 3), 0, 0, 0, [2, 6201], 0),
  (11, (.iload_n 1, 1), 1, 0, 0, [], 0),
  (12, (.invokestatic 495, 3), 290, 2, 0, [1, 1, 1171], 0),
  (15, (.ireturn, 1), 2, 0, 0, [], 0),
  (16, (.aload_n 0, 1), 0, 0, 0, [], 0),
  (17, (.getfield 9, 3), 0, 0, 0, [2, 6201], 0),
  (20, (.iload_n 1, 1), 1, 0, 0, [], 0),
  (21, (.invokestatic 498, 3), 0, 2, 0, [9, 1, 1182], 0),
  (24, (.ireturn, 1), 2, 0, 0, [], 0)])]
/-- java/lang/String.coder()B -/
def lp_c287 : List (Nat × List lp_E) := [(15, [(0, (.getstatic 38, 3), 0, 0, 0, [0, 1161], 0),
  (3, (.ifCond .eq 10, 3), 13, 0, 0, [], 0),
  (6, (.aload_n 0, 1), 0, 0, 0, [], 0),
  (7, (.getfield 15, 3), 0, 0, 0, [3, 6202], 0),
  (10, (.goto 4, 3), 14, 0, 0, [], 0),
  (13, (.iconst 1, 1), 0, 0, 1, [], 0),
  (14, (.ireturn, 1), 3, 0, 0, [], 0)])]
/-- java/lang/String.isLatin1()Z -/
def lp_c288 : List (Nat × List lp_E) := [(19, [(0, (.getstatic 38, 3), 0, 0, 0, [0, 1161], 0),
  (3, (.ifCond .eq 14, 3), 17, 0, 0, [], 0),
  (6, (.aload_n 0, 1), 0, 0, 0, [], 0),
  (7, (.getfield 15, 3), 0, 0, 0, [3, 6202], 0),
  (10, (.ifCond .ne 7, 3), 17, 0, 0, [], 0),
  (13, (.iconst 1, 1), 0, 0, 1, [], 0),
  (14, (.goto 4, 3), 18, 0, 0, [], 0),
  (17, (.iconst 0, 1), 0, 0, 0, [], 0),
  (18, (.ireturn, 1), 1, 0, 0, [], 0)])]
/-- java/lang/String.checkIndex(II)V -/
def lp_c289 : List (Nat × List lp_E) := [(10, [(0, (.iload_n 0, 1), 0, 0, 0, [], 0),
  (1, (.iload_n 1, 1), 1, 0, 0, [], 0),
  (2, (.getstatic 1053, 3), 0, 0, 0, [1, 1177], 0),
  (5, (.invokestatic 1059, 3), 292, 3, 0, [1, 1, 1179], 0),
  (8, (.pop, 1), 0, 0, 0, [], 0),
  (9, (.return_, 1), 0, 0, 0, [], 0)])]
/-- java/lang/StringLatin1.charAt([BI)C -/
def lp_c290 : List (Nat × List lp_E) := [(15, [(0, (.iload_n 1, 1), 1, 0, 0, [], 0),
  (1, (.aload_n 0, 1), 0, 0, 0, [], 0),
  (2, (.arraylength, 1), 100, 0, 0, [], 0),
  (3, (.invokestatic 9, 3), 289, 2, 0, [1, 0, 1174], 0),
  (6, (.aload_n 0, 1), 0, 0, 0, [], 0),
  (7, (.iload_n 1, 1), 1, 0, 0, [], 0),
  (8, (.baload, 1), 100, 0, 0, [], 0),
  (9, (.sipush 255, 3), 0, 0, 255, [], 0),
  (12, (.iand, 1), 0, 0, 0, [], 0),
  (13, (.i2c, 1), 0, 0, 0, [], 0),
  (14, (.ireturn, 1), 2, 0, 0, [], 0)])]
/-- java/util/Arrays.fill([II)V -/
def lp_c291 : List (Nat × List lp_E) := [(21, [(0, (.iconst 0, 1), 0, 0, 0, [], 0),
  (1, (.istore_n 2, 1), 2, 0, 0, [], 0),
  (2, (.aload_n 0, 1), 0, 0, 0, [], 0),
  (3, (.arraylength, 1), 20, 0, 0, [], 0),
  (4, (.istore_n 3, 1), 3, 0, 0, [], 1),
  (5, (.iload_n 2, 1), 2, 0, 0, [], 0),
  (6, (.iload_n 3, 1), 3, 0, 0, [], 0),
  (7, (.if_icmp .ge 13, 3), 20, 0, 0, [], 0),
  (10, (.aload_n 0, 1), 0, 0, 0, [], 0),
  (11, (.iload_n 2, 1), 2, 0, 0, [], 0),
  (12, (.iload_n 1, 1), 1, 0, 0, [], 0),
  (13, (.iastore, 1), 0, 0, 0, [], 0),
  (14, (.iinc 2 1, 3), 2, 0, 1, [], 0),
  (17, (.goto (-12), 3), 5, 0, 0, [], 2),
  (20, (.return_, 1), 0, 0, 0, [], 0)])]
/-- jdk/internal/util/Preconditions.checkIndex(IILjava/util/function/BiFunction;)I -/
def lp_c292 : List (Nat × List lp_E) := [(18, [(0, (.iload_n 0, 1), 0, 0, 0, [], 0),
  (1, (.ifCond .lt 8, 3), 9, 0, 0, [], 0),
  (4, (.iload_n 0, 1), 0, 0, 0, [], 0),
  (5, (.iload_n 1, 1), 1, 0, 0, [], 0),
  (6, (.if_icmp .lt 10, 3), 16, 0, 0, [], 0),
  (9, (.aload_n 2, 1), 2, 0, 0, [], 0),
  (10, (.iload_n 0, 1), 0, 0, 0, [], 0),
  (11, (.iload_n 1, 1), 1, 0, 0, [], 0),
  (12, (.invokestatic 95, 3), 0, 0, 0, [9, 0, 0], 0),
  (15, (.athrow, 1), 0, 0, 0, [], 0),
  (16, (.iload_n 0, 1), 0, 0, 0, [], 0),
  (17, (.ireturn, 1), 0, 0, 0, [], 0)])]
def lp_c293_0 : List lp_E := [(0, (.new 7, 3), 9, 17, 0, [20], 0),
  (3, (.dup, 1), 0, 0, 0, [], 0),
  (4, (.invokespecial 9, 3), 77, 1, 0, [2, 0, 22], 0),
  (7, (.astore_n 1, 1), 1, 0, 0, [], 0),
  (8, (.new 10, 3), 10, 37, 0, [4094], 0),
  (11, (.dup, 1), 0, 0, 0, [], 0),
  (12, (.invokespecial 12, 3), 162, 1, 0, [2, 0, 4096], 0),
  (15, (.astore_n 2, 1), 2, 0, 0, [], 0),
  (16, (.iconst 0, 1), 0, 0, 0, [], 0),
  (17, (.istore_n 3, 1), 3, 0, 0, [], 1),
  (18, (.iload_n 3, 1), 3, 0, 0, [], 0),
  (19, (.aload_n 0, 1), 0, 0, 0, [], 0),
  (20, (.arraylength, 1), 300, 0, 0, [], 0),
  (21, (.bipush 6, 2), 0, 0, 6, [], 0),
  (23, (.isub, 1), 0, 0, 0, [], 0),
  (24, (.if_icmp .gt 1575, 3), 1599, 0, 0, [], 0),
  (27, (.aload_n 0, 1), 0, 0, 0, [], 0),
  (28, (.iload_n 3, 1), 3, 0, 0, [], 0),
  (29, (.iaload, 1), 300, 0, 0, [], 0),
  (30, (.bipush 63, 2), 0, 0, 63, [], 0),
  (32, (.iand, 1), 0, 0, 0, [], 1),
  (33, (.tableswitch 1560 0 54 #[235, 298, 321, 334, 357, 380, 423, 456, 489, 522, 555, 568, 581, 624, 657, 680, 703, 716, 729, 762, 795, 808, 821, 854, 867, 890, 913, 936, 959, 972, 985, 998, 1031, 1064, 1087, 1110, 1133, 1156, 1169, 1202, 1225, 1238, 1251, 1284, 1297, 1320, 1343, 1366, 1399, 1442, 1465, 1478, 1491, 1514, 1537], 235), 1593, 55, 0, [268, 331, 354, 367, 390, 413, 456, 489, 522, 555, 588, 601, 614, 657, 690, 713, 736, 749, 762, 795, 828, 841, 854, 887, 900, 923, 946, 969, 992, 1005, 1018, 1031, 1064, 1097, 1120, 1143, 1166, 1189, 1202, 1235, 1258, 1271, 1284, 1317, 1330, 1353, 1376, 1399, 1432, 1475, 1498, 1511, 1524, 1547, 1570], 0),
  (268, (.aload_n 1, 1), 1, 0, 0, [], 0),
  (269, (.aload_n 0, 1), 0, 0, 0, [], 0)]
def lp_c293_1 : List lp_E := [(270, (.iload_n 3, 1), 3, 0, 0, [], 0),
  (271, (.iconst 1, 1), 0, 0, 1, [], 0),
  (272, (.iadd, 1), 0, 0, 0, [], 0),
  (273, (.iaload, 1), 300, 0, 0, [], 0),
  (274, (.aload_n 0, 1), 0, 0, 0, [], 0),
  (275, (.iload_n 3, 1), 3, 0, 0, [], 0),
  (276, (.iconst 2, 1), 0, 0, 2, [], 0),
  (277, (.iadd, 1), 0, 0, 0, [], 0),
  (278, (.iaload, 1), 300, 0, 0, [], 0),
  (279, (.aload_n 0, 1), 0, 0, 0, [], 0),
  (280, (.iload_n 3, 1), 3, 0, 0, [], 0),
  (281, (.iconst 3, 1), 0, 0, 3, [], 0),
  (282, (.iadd, 1), 0, 0, 0, [], 0),
  (283, (.iaload, 1), 300, 0, 0, [], 0),
  (284, (.aload_n 0, 1), 0, 0, 0, [], 0),
  (285, (.iload_n 3, 1), 3, 0, 0, [], 0),
  (286, (.iconst 4, 1), 0, 0, 4, [], 0),
  (287, (.iadd, 1), 0, 0, 0, [], 0),
  (288, (.iaload, 1), 300, 0, 0, [], 0),
  (289, (.aload_n 0, 1), 0, 0, 0, [], 0),
  (290, (.iload_n 3, 1), 3, 0, 0, [], 0),
  (291, (.iconst 5, 1), 0, 0, 5, [], 0),
  (292, (.iadd, 1), 0, 0, 0, [], 0),
  (293, (.iaload, 1), 300, 0, 0, [], 0)]
def lp_c293_2 : List lp_E := [(294, (.invokevirtual 13, 3), 78, 6, 0, [0, 1, 1106], 0),
  (297, (.aload_n 2, 1), 2, 0, 0, [], 0),
  (298, (.aload_n 0, 1), 0, 0, 0, [], 0),
  (299, (.iload_n 3, 1), 3, 0, 0, [], 0),
  (300, (.iconst 1, 1), 0, 0, 1, [], 0),
  (301, (.iadd, 1), 0, 0, 0, [], 0),
  (302, (.iaload, 1), 300, 0, 0, [], 0),
  (303, (.aload_n 0, 1), 0, 0, 0, [], 0),
  (304, (.iload_n 3, 1), 3, 0, 0, [], 0),
  (305, (.iconst 2, 1), 0, 0, 2, [], 0),
  (306, (.iadd, 1), 0, 0, 0, [], 0),
  (307, (.iaload, 1), 300, 0, 0, [], 0),
  (308, (.aload_n 0, 1), 0, 0, 0, [], 0),
  (309, (.iload_n 3, 1), 3, 0, 0, [], 0),
  (310, (.iconst 3, 1), 0, 0, 3, [], 0),
  (311, (.iadd, 1), 0, 0, 0, [], 0),
  (312, (.iaload, 1), 300, 0, 0, [], 0),
  (313, (.aload_n 0, 1), 0, 0, 0, [], 0),
  (314, (.iload_n 3, 1), 3, 0, 0, [], 0),
  (315, (.iconst 4, 1), 0, 0, 4, [], 0),
  (316, (.iadd, 1), 0, 0, 0, [], 0),
  (317, (.iaload, 1), 300, 0, 0, [], 0),
  (318, (.aload_n 0, 1), 0, 0, 0, [], 0),
  (319, (.iload_n 3, 1), 3, 0, 0, [], 0)]
def lp_c293_3 : List lp_E := [(320, (.iconst 5, 1), 0, 0, 5, [], 0),
  (321, (.iadd, 1), 0, 0, 0, [], 0),
  (322, (.iaload, 1), 300, 0, 0, [], 0),
  (323, (.invokevirtual 17, 3), 270, 6, 0, [0, 1, 6157], 0),
  (326, (.if_icmp .eq 1267, 3), 1593, 0, 0, [], 0),
  (329, (.iconst 0, 1), 0, 0, 0, [], 0),
  (330, (.ireturn, 1), 1, 0, 0, [], 0),
  (331, (.aload_n 1, 1), 1, 0, 0, [], 0),
  (332, (.aload_n 0, 1), 0, 0, 0, [], 0),
  (333, (.iload_n 3, 1), 3, 0, 0, [], 0),
  (334, (.iconst 1, 1), 0, 0, 1, [], 0),
  (335, (.iadd, 1), 0, 0, 0, [], 0),
  (336, (.iaload, 1), 300, 0, 0, [], 0),
  (337, (.invokevirtual 18, 3), 79, 2, 0, [0, 1, 1114], 0),
  (340, (.aload_n 2, 1), 2, 0, 0, [], 0),
  (341, (.aload_n 0, 1), 0, 0, 0, [], 0),
  (342, (.iload_n 3, 1), 3, 0, 0, [], 0),
  (343, (.iconst 1, 1), 0, 0, 1, [], 0),
  (344, (.iadd, 1), 0, 0, 0, [], 0),
  (345, (.iaload, 1), 300, 0, 0, [], 0),
  (346, (.invokevirtual 22, 3), 271, 2, 0, [0, 1, 6161], 0),
  (349, (.if_icmp .eq 1244, 3), 1593, 0, 0, [], 0),
  (352, (.iconst 0, 1), 0, 0, 0, [], 0),
  (353, (.ireturn, 1), 1, 0, 0, [], 0)]
def lp_c293_4 : List lp_E := [(354, (.aload_n 1, 1), 1, 0, 0, [], 0),
  (355, (.invokevirtual 23, 3), 80, 1, 0, [0, 1, 1118], 0),
  (358, (.aload_n 2, 1), 2, 0, 0, [], 0),
  (359, (.invokevirtual 27, 3), 281, 1, 0, [0, 1, 6165], 0),
  (362, (.if_icmp .eq 1231, 3), 1593, 0, 0, [], 0),
  (365, (.iconst 0, 1), 0, 0, 0, [], 0),
  (366, (.ireturn, 1), 1, 0, 0, [], 0),
  (367, (.aload_n 1, 1), 1, 0, 0, [], 0),
  (368, (.aload_n 0, 1), 0, 0, 0, [], 0),
  (369, (.iload_n 3, 1), 3, 0, 0, [], 0),
  (370, (.iconst 1, 1), 0, 0, 1, [], 0),
  (371, (.iadd, 1), 0, 0, 0, [], 0),
  (372, (.iaload, 1), 300, 0, 0, [], 0),
  (373, (.invokevirtual 28, 3), 81, 2, 0, [0, 1, 2027], 0),
  (376, (.aload_n 2, 1), 2, 0, 0, [], 0),
  (377, (.aload_n 0, 1), 0, 0, 0, [], 0),
  (378, (.iload_n 3, 1), 3, 0, 0, [], 0),
  (379, (.iconst 1, 1), 0, 0, 1, [], 0),
  (380, (.iadd, 1), 0, 0, 0, [], 0),
  (381, (.iaload, 1), 300, 0, 0, [], 0),
  (382, (.invokevirtual 31, 3), 174, 2, 0, [0, 1, 4216], 0),
  (385, (.if_icmp .eq 1208, 3), 1593, 0, 0, [], 0),
  (388, (.iconst 0, 1), 0, 0, 0, [], 0),
  (389, (.ireturn, 1), 1, 0, 0, [], 0)]
def lp_c293_5 : List lp_E := [(390, (.aload_n 1, 1), 1, 0, 0, [], 0),
  (391, (.aload_n 0, 1), 0, 0, 0, [], 0),
  (392, (.iload_n 3, 1), 3, 0, 0, [], 0),
  (393, (.iconst 1, 1), 0, 0, 1, [], 0),
  (394, (.iadd, 1), 0, 0, 0, [], 0),
  (395, (.iaload, 1), 300, 0, 0, [], 0),
  (396, (.invokevirtual 32, 3), 82, 2, 0, [0, 1, 2048], 0),
  (399, (.aload_n 2, 1), 2, 0, 0, [], 0),
  (400, (.aload_n 0, 1), 0, 0, 0, [], 0),
  (401, (.iload_n 3, 1), 3, 0, 0, [], 0),
  (402, (.iconst 1, 1), 0, 0, 1, [], 0),
  (403, (.iadd, 1), 0, 0, 0, [], 0),
  (404, (.iaload, 1), 300, 0, 0, [], 0),
  (405, (.invokevirtual 36, 3), 176, 2, 0, [0, 1, 5005], 0),
  (408, (.if_icmp .eq 1185, 3), 1593, 0, 0, [], 0),
  (411, (.iconst 0, 1), 0, 0, 0, [], 0),
  (412, (.ireturn, 1), 1, 0, 0, [], 0),
  (413, (.aload_n 1, 1), 1, 0, 0, [], 0),
  (414, (.aload_n 0, 1), 0, 0, 0, [], 0),
  (415, (.iload_n 3, 1), 3, 0, 0, [], 0),
  (416, (.iconst 1, 1), 0, 0, 1, [], 0),
  (417, (.iadd, 1), 0, 0, 0, [], 0),
  (418, (.iaload, 1), 300, 0, 0, [], 0),
  (419, (.aload_n 0, 1), 0, 0, 0, [], 0)]
def lp_c293_6 : List lp_E := [(420, (.iload_n 3, 1), 3, 0, 0, [], 0),
  (421, (.iconst 2, 1), 0, 0, 2, [], 0),
  (422, (.iadd, 1), 0, 0, 0, [], 0),
  (423, (.iaload, 1), 300, 0, 0, [], 0),
  (424, (.aload_n 0, 1), 0, 0, 0, [], 0),
  (425, (.iload_n 3, 1), 3, 0, 0, [], 0),
  (426, (.iconst 3, 1), 0, 0, 3, [], 0),
  (427, (.iadd, 1), 0, 0, 0, [], 0),
  (428, (.iaload, 1), 300, 0, 0, [], 0),
  (429, (.invokevirtual 37, 3), 83, 4, 0, [0, 1, 2064], 0),
  (432, (.aload_n 2, 1), 2, 0, 0, [], 0),
  (433, (.aload_n 0, 1), 0, 0, 0, [], 0),
  (434, (.iload_n 3, 1), 3, 0, 0, [], 0),
  (435, (.iconst 1, 1), 0, 0, 1, [], 0),
  (436, (.iadd, 1), 0, 0, 0, [], 0),
  (437, (.iaload, 1), 300, 0, 0, [], 0),
  (438, (.aload_n 0, 1), 0, 0, 0, [], 0),
  (439, (.iload_n 3, 1), 3, 0, 0, [], 0),
  (440, (.iconst 2, 1), 0, 0, 2, [], 0),
  (441, (.iadd, 1), 0, 0, 0, [], 0),
  (442, (.iaload, 1), 300, 0, 0, [], 0),
  (443, (.aload_n 0, 1), 0, 0, 0, [], 0),
  (444, (.iload_n 3, 1), 3, 0, 0, [], 0),
  (445, (.iconst 3, 1), 0, 0, 3, [], 0)]
def lp_c293_7 : List lp_E := [(446, (.iadd, 1), 0, 0, 0, [], 0),
  (447, (.iaload, 1), 300, 0, 0, [], 0),
  (448, (.invokevirtual 41, 3), 180, 4, 0, [0, 1, 5028], 0),
  (451, (.if_icmp .eq 1142, 3), 1593, 0, 0, [], 0),
  (454, (.iconst 0, 1), 0, 0, 0, [], 0),
  (455, (.ireturn, 1), 1, 0, 0, [], 0),
  (456, (.aload_n 1, 1), 1, 0, 0, [], 0),
  (457, (.aload_n 0, 1), 0, 0, 0, [], 0),
  (458, (.iload_n 3, 1), 3, 0, 0, [], 0),
  (459, (.iconst 1, 1), 0, 0, 1, [], 0),
  (460, (.iadd, 1), 0, 0, 0, [], 0),
  (461, (.iaload, 1), 300, 0, 0, [], 0),
  (462, (.aload_n 0, 1), 0, 0, 0, [], 0),
  (463, (.iload_n 3, 1), 3, 0, 0, [], 0),
  (464, (.iconst 2, 1), 0, 0, 2, [], 0),
  (465, (.iadd, 1), 0, 0, 0, [], 0),
  (466, (.iaload, 1), 300, 0, 0, [], 0),
  (467, (.invokevirtual 42, 3), 84, 3, 0, [0, 1, 2073], 0),
  (470, (.aload_n 2, 1), 2, 0, 0, [], 0),
  (471, (.aload_n 0, 1), 0, 0, 0, [], 0),
  (472, (.iload_n 3, 1), 3, 0, 0, [], 0),
  (473, (.iconst 1, 1), 0, 0, 1, [], 0),
  (474, (.iadd, 1), 0, 0, 0, [], 0),
  (475, (.iaload, 1), 300, 0, 0, [], 0)]
def lp_c293_8 : List lp_E := [(476, (.aload_n 0, 1), 0, 0, 0, [], 0),
  (477, (.iload_n 3, 1), 3, 0, 0, [], 0),
  (478, (.iconst 2, 1), 0, 0, 2, [], 0),
  (479, (.iadd, 1), 0, 0, 0, [], 0),
  (480, (.iaload, 1), 300, 0, 0, [], 0),
  (481, (.invokevirtual 46, 3), 182, 3, 0, [0, 1, 5035], 0),
  (484, (.if_icmp .eq 1109, 3), 1593, 0, 0, [], 0),
  (487, (.iconst 0, 1), 0, 0, 0, [], 0),
  (488, (.ireturn, 1), 1, 0, 0, [], 0),
  (489, (.aload_n 1, 1), 1, 0, 0, [], 0),
  (490, (.aload_n 0, 1), 0, 0, 0, [], 0),
  (491, (.iload_n 3, 1), 3, 0, 0, [], 0),
  (492, (.iconst 1, 1), 0, 0, 1, [], 0),
  (493, (.iadd, 1), 0, 0, 0, [], 0),
  (494, (.iaload, 1), 300, 0, 0, [], 0),
  (495, (.aload_n 0, 1), 0, 0, 0, [], 0),
  (496, (.iload_n 3, 1), 3, 0, 0, [], 0),
  (497, (.iconst 2, 1), 0, 0, 2, [], 0),
  (498, (.iadd, 1), 0, 0, 0, [], 0),
  (499, (.iaload, 1), 300, 0, 0, [], 0),
  (500, (.invokevirtual 47, 3), 85, 3, 0, [0, 1, 2077], 0),
  (503, (.aload_n 2, 1), 2, 0, 0, [], 0),
  (504, (.aload_n 0, 1), 0, 0, 0, [], 0),
  (505, (.iload_n 3, 1), 3, 0, 0, [], 0)]
def lp_c293_9 : List lp_E := [(506, (.iconst 1, 1), 0, 0, 1, [], 0),
  (507, (.iadd, 1), 0, 0, 0, [], 0),
  (508, (.iaload, 1), 300, 0, 0, [], 0),
  (509, (.aload_n 0, 1), 0, 0, 0, [], 0),
  (510, (.iload_n 3, 1), 3, 0, 0, [], 0),
  (511, (.iconst 2, 1), 0, 0, 2, [], 0),
  (512, (.iadd, 1), 0, 0, 0, [], 0),
  (513, (.iaload, 1), 300, 0, 0, [], 0),
  (514, (.invokevirtual 50, 3), 183, 3, 0, [0, 1, 5043], 0),
  (517, (.if_icmp .eq 1076, 3), 1593, 0, 0, [], 0),
  (520, (.iconst 0, 1), 0, 0, 0, [], 0),
  (521, (.ireturn, 1), 1, 0, 0, [], 0),
  (522, (.aload_n 1, 1), 1, 0, 0, [], 0),
  (523, (.aload_n 0, 1), 0, 0, 0, [], 0),
  (524, (.iload_n 3, 1), 3, 0, 0, [], 0),
  (525, (.iconst 1, 1), 0, 0, 1, [], 0),
  (526, (.iadd, 1), 0, 0, 0, [], 0),
  (527, (.iaload, 1), 300, 0, 0, [], 0),
  (528, (.aload_n 0, 1), 0, 0, 0, [], 0),
  (529, (.iload_n 3, 1), 3, 0, 0, [], 0),
  (530, (.iconst 2, 1), 0, 0, 2, [], 0),
  (531, (.iadd, 1), 0, 0, 0, [], 0),
  (532, (.iaload, 1), 300, 0, 0, [], 0),
  (533, (.invokevirtual 51, 3), 86, 3, 0, [0, 1, 2085], 0)]
def lp_c293_10 : List lp_E := [(536, (.aload_n 2, 1), 2, 0, 0, [], 0),
  (537, (.aload_n 0, 1), 0, 0, 0, [], 0),
  (538, (.iload_n 3, 1), 3, 0, 0, [], 0),
  (539, (.iconst 1, 1), 0, 0, 1, [], 0),
  (540, (.iadd, 1), 0, 0, 0, [], 0),
  (541, (.iaload, 1), 300, 0, 0, [], 0),
  (542, (.aload_n 0, 1), 0, 0, 0, [], 0),
  (543, (.iload_n 3, 1), 3, 0, 0, [], 0),
  (544, (.iconst 2, 1), 0, 0, 2, [], 0),
  (545, (.iadd, 1), 0, 0, 0, [], 0),
  (546, (.iaload, 1), 300, 0, 0, [], 0),
  (547, (.invokevirtual 54, 3), 184, 3, 0, [0, 1, 5047], 0),
  (550, (.if_icmp .eq 1043, 3), 1593, 0, 0, [], 0),
  (553, (.iconst 0, 1), 0, 0, 0, [], 0),
  (554, (.ireturn, 1), 1, 0, 0, [], 0),
  (555, (.aload_n 1, 1), 1, 0, 0, [], 0),
  (556, (.aload_n 0, 1), 0, 0, 0, [], 0),
  (557, (.iload_n 3, 1), 3, 0, 0, [], 0),
  (558, (.iconst 1, 1), 0, 0, 1, [], 0),
  (559, (.iadd, 1), 0, 0, 0, [], 0),
  (560, (.iaload, 1), 300, 0, 0, [], 0),
  (561, (.aload_n 0, 1), 0, 0, 0, [], 0),
  (562, (.iload_n 3, 1), 3, 0, 0, [], 0),
  (563, (.iconst 2, 1), 0, 0, 2, [], 0)]
def lp_c293_11 : List lp_E := [(564, (.iadd, 1), 0, 0, 0, [], 0),
  (565, (.iaload, 1), 300, 0, 0, [], 0),
  (566, (.invokevirtual 55, 3), 87, 3, 0, [0, 1, 2089], 0),
  (569, (.aload_n 2, 1), 2, 0, 0, [], 0),
  (570, (.aload_n 0, 1), 0, 0, 0, [], 0),
  (571, (.iload_n 3, 1), 3, 0, 0, [], 0),
  (572, (.iconst 1, 1), 0, 0, 1, [], 0),
  (573, (.iadd, 1), 0, 0, 0, [], 0),
  (574, (.iaload, 1), 300, 0, 0, [], 0),
  (575, (.aload_n 0, 1), 0, 0, 0, [], 0),
  (576, (.iload_n 3, 1), 3, 0, 0, [], 0),
  (577, (.iconst 2, 1), 0, 0, 2, [], 0),
  (578, (.iadd, 1), 0, 0, 0, [], 0),
  (579, (.iaload, 1), 300, 0, 0, [], 0),
  (580, (.invokevirtual 58, 3), 187, 3, 0, [0, 1, 5051], 0),
  (583, (.if_icmp .eq 1010, 3), 1593, 0, 0, [], 0),
  (586, (.iconst 0, 1), 0, 0, 0, [], 0),
  (587, (.ireturn, 1), 1, 0, 0, [], 0),
  (588, (.aload_n 1, 1), 1, 0, 0, [], 0),
  (589, (.invokevirtual 59, 3), 88, 1, 0, [0, 1, 2105], 0),
  (592, (.aload_n 2, 1), 2, 0, 0, [], 0),
  (593, (.invokevirtual 62, 3), 188, 1, 0, [0, 1, 5063], 0),
  (596, (.if_icmp .eq 997, 3), 1593, 0, 0, [], 0),
  (599, (.iconst 0, 1), 0, 0, 0, [], 0)]
def lp_c293_12 : List lp_E := [(600, (.ireturn, 1), 1, 0, 0, [], 0),
  (601, (.aload_n 1, 1), 1, 0, 0, [], 0),
  (602, (.invokevirtual 63, 3), 89, 1, 0, [0, 1, 2114], 0),
  (605, (.aload_n 2, 1), 2, 0, 0, [], 0),
  (606, (.invokevirtual 66, 3), 189, 1, 0, [0, 1, 5071], 0),
  (609, (.if_icmp .eq 984, 3), 1593, 0, 0, [], 0),
  (612, (.iconst 0, 1), 0, 0, 0, [], 0),
  (613, (.ireturn, 1), 1, 0, 0, [], 0),
  (614, (.aload_n 1, 1), 1, 0, 0, [], 0),
  (615, (.aload_n 0, 1), 0, 0, 0, [], 0),
  (616, (.iload_n 3, 1), 3, 0, 0, [], 0),
  (617, (.iconst 1, 1), 0, 0, 1, [], 0),
  (618, (.iadd, 1), 0, 0, 0, [], 0),
  (619, (.iaload, 1), 300, 0, 0, [], 0),
  (620, (.aload_n 0, 1), 0, 0, 0, [], 0),
  (621, (.iload_n 3, 1), 3, 0, 0, [], 0),
  (622, (.iconst 2, 1), 0, 0, 2, [], 0),
  (623, (.iadd, 1), 0, 0, 0, [], 0),
  (624, (.iaload, 1), 300, 0, 0, [], 0),
  (625, (.aload_n 0, 1), 0, 0, 0, [], 0),
  (626, (.iload_n 3, 1), 3, 0, 0, [], 0),
  (627, (.iconst 3, 1), 0, 0, 3, [], 0),
  (628, (.iadd, 1), 0, 0, 0, [], 0),
  (629, (.iaload, 1), 300, 0, 0, [], 0)]
def lp_c293_13 : List lp_E := [(630, (.invokevirtual 67, 3), 90, 4, 0, [0, 1, 2183], 0),
  (633, (.aload_n 2, 1), 2, 0, 0, [], 0),
  (634, (.aload_n 0, 1), 0, 0, 0, [], 0),
  (635, (.iload_n 3, 1), 3, 0, 0, [], 0),
  (636, (.iconst 1, 1), 0, 0, 1, [], 0),
  (637, (.iadd, 1), 0, 0, 0, [], 0),
  (638, (.iaload, 1), 300, 0, 0, [], 0),
  (639, (.aload_n 0, 1), 0, 0, 0, [], 0),
  (640, (.iload_n 3, 1), 3, 0, 0, [], 0),
  (641, (.iconst 2, 1), 0, 0, 2, [], 0),
  (642, (.iadd, 1), 0, 0, 0, [], 0),
  (643, (.iaload, 1), 300, 0, 0, [], 0),
  (644, (.aload_n 0, 1), 0, 0, 0, [], 0),
  (645, (.iload_n 3, 1), 3, 0, 0, [], 0),
  (646, (.iconst 3, 1), 0, 0, 3, [], 0),
  (647, (.iadd, 1), 0, 0, 0, [], 0),
  (648, (.iaload, 1), 300, 0, 0, [], 0),
  (649, (.invokevirtual 70, 3), 190, 4, 0, [0, 1, 5125], 0),
  (652, (.if_icmp .eq 941, 3), 1593, 0, 0, [], 0),
  (655, (.iconst 0, 1), 0, 0, 0, [], 0),
  (656, (.ireturn, 1), 1, 0, 0, [], 0),
  (657, (.aload_n 1, 1), 1, 0, 0, [], 0),
  (658, (.aload_n 0, 1), 0, 0, 0, [], 0),
  (659, (.iload_n 3, 1), 3, 0, 0, [], 0)]
def lp_c293_14 : List lp_E := [(660, (.iconst 1, 1), 0, 0, 1, [], 0),
  (661, (.iadd, 1), 0, 0, 0, [], 0),
  (662, (.iaload, 1), 300, 0, 0, [], 0),
  (663, (.aload_n 0, 1), 0, 0, 0, [], 0),
  (664, (.iload_n 3, 1), 3, 0, 0, [], 0),
  (665, (.iconst 2, 1), 0, 0, 2, [], 0),
  (666, (.iadd, 1), 0, 0, 0, [], 0),
  (667, (.iaload, 1), 300, 0, 0, [], 0),
  (668, (.invokevirtual 71, 3), 91, 3, 0, [0, 1, 2193], 0),
  (671, (.aload_n 2, 1), 2, 0, 0, [], 0),
  (672, (.aload_n 0, 1), 0, 0, 0, [], 0),
  (673, (.iload_n 3, 1), 3, 0, 0, [], 0),
  (674, (.iconst 1, 1), 0, 0, 1, [], 0),
  (675, (.iadd, 1), 0, 0, 0, [], 0),
  (676, (.iaload, 1), 300, 0, 0, [], 0),
  (677, (.aload_n 0, 1), 0, 0, 0, [], 0),
  (678, (.iload_n 3, 1), 3, 0, 0, [], 0),
  (679, (.iconst 2, 1), 0, 0, 2, [], 0),
  (680, (.iadd, 1), 0, 0, 0, [], 0),
  (681, (.iaload, 1), 300, 0, 0, [], 0),
  (682, (.invokevirtual 75, 3), 177, 3, 0, [0, 1, 5020], 0),
  (685, (.if_icmp .eq 908, 3), 1593, 0, 0, [], 0),
  (688, (.iconst 0, 1), 0, 0, 0, [], 0),
  (689, (.ireturn, 1), 1, 0, 0, [], 0)]
def lp_c293_15 : List lp_E := [(690, (.aload_n 1, 1), 1, 0, 0, [], 0),
  (691, (.aload_n 0, 1), 0, 0, 0, [], 0),
  (692, (.iload_n 3, 1), 3, 0, 0, [], 0),
  (693, (.iconst 1, 1), 0, 0, 1, [], 0),
  (694, (.iadd, 1), 0, 0, 0, [], 0),
  (695, (.iaload, 1), 300, 0, 0, [], 0),
  (696, (.invokevirtual 76, 3), 92, 2, 0, [0, 1, 2198], 0),
  (699, (.aload_n 2, 1), 2, 0, 0, [], 0),
  (700, (.aload_n 0, 1), 0, 0, 0, [], 0),
  (701, (.iload_n 3, 1), 3, 0, 0, [], 0),
  (702, (.iconst 1, 1), 0, 0, 1, [], 0),
  (703, (.iadd, 1), 0, 0, 0, [], 0),
  (704, (.iaload, 1), 300, 0, 0, [], 0),
  (705, (.invokevirtual 79, 3), 192, 2, 0, [0, 1, 5132], 0),
  (708, (.if_icmp .eq 885, 3), 1593, 0, 0, [], 0),
  (711, (.iconst 0, 1), 0, 0, 0, [], 0),
  (712, (.ireturn, 1), 1, 0, 0, [], 0),
  (713, (.aload_n 1, 1), 1, 0, 0, [], 0),
  (714, (.aload_n 0, 1), 0, 0, 0, [], 0),
  (715, (.iload_n 3, 1), 3, 0, 0, [], 0),
  (716, (.iconst 1, 1), 0, 0, 1, [], 0),
  (717, (.iadd, 1), 0, 0, 0, [], 0),
  (718, (.iaload, 1), 300, 0, 0, [], 0),
  (719, (.invokevirtual 80, 3), 93, 2, 0, [0, 1, 2202], 0)]
def lp_c293_16 : List lp_E := [(722, (.aload_n 2, 1), 2, 0, 0, [], 0),
  (723, (.aload_n 0, 1), 0, 0, 0, [], 0),
  (724, (.iload_n 3, 1), 3, 0, 0, [], 0),
  (725, (.iconst 1, 1), 0, 0, 1, [], 0),
  (726, (.iadd, 1), 0, 0, 0, [], 0),
  (727, (.iaload, 1), 300, 0, 0, [], 0),
  (728, (.invokevirtual 83, 3), 194, 2, 0, [0, 1, 5136], 0),
  (731, (.if_icmp .eq 862, 3), 1593, 0, 0, [], 0),
  (734, (.iconst 0, 1), 0, 0, 0, [], 0),
  (735, (.ireturn, 1), 1, 0, 0, [], 0),
  (736, (.aload_n 1, 1), 1, 0, 0, [], 0),
  (737, (.invokevirtual 84, 3), 94, 1, 0, [0, 1, 2224], 0),
  (740, (.aload_n 2, 1), 2, 0, 0, [], 0),
  (741, (.invokevirtual 87, 3), 178, 1, 0, [0, 1, 5024], 0),
  (744, (.if_icmp .eq 849, 3), 1593, 0, 0, [], 0),
  (747, (.iconst 0, 1), 0, 0, 0, [], 0),
  (748, (.ireturn, 1), 1, 0, 0, [], 0),
  (749, (.aload_n 1, 1), 1, 0, 0, [], 0),
  (750, (.invokevirtual 88, 3), 95, 1, 0, [0, 1, 2228], 0),
  (753, (.aload_n 2, 1), 2, 0, 0, [], 0),
  (754, (.invokevirtual 91, 3), 195, 1, 0, [0, 1, 5144], 0),
  (757, (.if_icmp .eq 836, 3), 1593, 0, 0, [], 0),
  (760, (.iconst 0, 1), 0, 0, 0, [], 0),
  (761, (.ireturn, 1), 1, 0, 0, [], 0)]
def lp_c293_17 : List lp_E := [(762, (.aload_n 1, 1), 1, 0, 0, [], 0),
  (763, (.aload_n 0, 1), 0, 0, 0, [], 0),
  (764, (.iload_n 3, 1), 3, 0, 0, [], 0),
  (765, (.iconst 1, 1), 0, 0, 1, [], 0),
  (766, (.iadd, 1), 0, 0, 0, [], 0),
  (767, (.iaload, 1), 300, 0, 0, [], 0),
  (768, (.aload_n 0, 1), 0, 0, 0, [], 0),
  (769, (.iload_n 3, 1), 3, 0, 0, [], 0),
  (770, (.iconst 2, 1), 0, 0, 2, [], 0),
  (771, (.iadd, 1), 0, 0, 0, [], 0),
  (772, (.iaload, 1), 300, 0, 0, [], 0),
  (773, (.invokevirtual 92, 3), 96, 3, 0, [0, 1, 2236], 0),
  (776, (.aload_n 2, 1), 2, 0, 0, [], 0),
  (777, (.aload_n 0, 1), 0, 0, 0, [], 0),
  (778, (.iload_n 3, 1), 3, 0, 0, [], 0),
  (779, (.iconst 1, 1), 0, 0, 1, [], 0),
  (780, (.iadd, 1), 0, 0, 0, [], 0),
  (781, (.iaload, 1), 300, 0, 0, [], 0),
  (782, (.aload_n 0, 1), 0, 0, 0, [], 0),
  (783, (.iload_n 3, 1), 3, 0, 0, [], 0),
  (784, (.iconst 2, 1), 0, 0, 2, [], 0),
  (785, (.iadd, 1), 0, 0, 0, [], 0),
  (786, (.iaload, 1), 300, 0, 0, [], 0),
  (787, (.invokevirtual 95, 3), 210, 3, 0, [0, 1, 5148], 0)]
def lp_c293_18 : List lp_E := [(790, (.if_icmp .eq 803, 3), 1593, 0, 0, [], 0),
  (793, (.iconst 0, 1), 0, 0, 0, [], 0),
  (794, (.ireturn, 1), 1, 0, 0, [], 0),
  (795, (.aload_n 1, 1), 1, 0, 0, [], 0),
  (796, (.aload_n 0, 1), 0, 0, 0, [], 0),
  (797, (.iload_n 3, 1), 3, 0, 0, [], 0),
  (798, (.iconst 1, 1), 0, 0, 1, [], 0),
  (799, (.iadd, 1), 0, 0, 0, [], 0),
  (800, (.iaload, 1), 300, 0, 0, [], 0),
  (801, (.aload_n 0, 1), 0, 0, 0, [], 0),
  (802, (.iload_n 3, 1), 3, 0, 0, [], 0),
  (803, (.iconst 2, 1), 0, 0, 2, [], 0),
  (804, (.iadd, 1), 0, 0, 0, [], 0),
  (805, (.iaload, 1), 300, 0, 0, [], 0),
  (806, (.invokevirtual 96, 3), 97, 3, 0, [0, 1, 3002], 0),
  (809, (.aload_n 2, 1), 2, 0, 0, [], 0),
  (810, (.aload_n 0, 1), 0, 0, 0, [], 0),
  (811, (.iload_n 3, 1), 3, 0, 0, [], 0),
  (812, (.iconst 1, 1), 0, 0, 1, [], 0),
  (813, (.iadd, 1), 0, 0, 0, [], 0),
  (814, (.iaload, 1), 300, 0, 0, [], 0),
  (815, (.aload_n 0, 1), 0, 0, 0, [], 0),
  (816, (.iload_n 3, 1), 3, 0, 0, [], 0),
  (817, (.iconst 2, 1), 0, 0, 2, [], 0)]
def lp_c293_19 : List lp_E := [(818, (.iadd, 1), 0, 0, 0, [], 0),
  (819, (.iaload, 1), 300, 0, 0, [], 0),
  (820, (.invokevirtual 99, 3), 211, 3, 0, [0, 1, 5152], 0),
  (823, (.if_icmp .eq 770, 3), 1593, 0, 0, [], 0),
  (826, (.iconst 0, 1), 0, 0, 0, [], 0),
  (827, (.ireturn, 1), 1, 0, 0, [], 0),
  (828, (.aload_n 1, 1), 1, 0, 0, [], 0),
  (829, (.invokevirtual 100, 3), 98, 1, 0, [0, 1, 3006], 0),
  (832, (.aload_n 2, 1), 2, 0, 0, [], 0),
  (833, (.invokevirtual 103, 3), 213, 1, 0, [0, 1, 5156], 0),
  (836, (.if_icmp .eq 757, 3), 1593, 0, 0, [], 0),
  (839, (.iconst 0, 1), 0, 0, 0, [], 0),
  (840, (.ireturn, 1), 1, 0, 0, [], 0),
  (841, (.aload_n 1, 1), 1, 0, 0, [], 0),
  (842, (.invokevirtual 104, 3), 99, 1, 0, [0, 1, 3010], 0),
  (845, (.aload_n 2, 1), 2, 0, 0, [], 0),
  (846, (.invokevirtual 107, 3), 214, 1, 0, [0, 1, 5164], 0),
  (849, (.if_icmp .eq 744, 3), 1593, 0, 0, [], 0),
  (852, (.iconst 0, 1), 0, 0, 0, [], 0),
  (853, (.ireturn, 1), 1, 0, 0, [], 0),
  (854, (.aload_n 1, 1), 1, 0, 0, [], 0),
  (855, (.aload_n 0, 1), 0, 0, 0, [], 0),
  (856, (.iload_n 3, 1), 3, 0, 0, [], 0),
  (857, (.iconst 1, 1), 0, 0, 1, [], 0)]
def lp_c293_20 : List lp_E := [(858, (.iadd, 1), 0, 0, 0, [], 0),
  (859, (.iaload, 1), 300, 0, 0, [], 0),
  (860, (.aload_n 0, 1), 0, 0, 0, [], 0),
  (861, (.iload_n 3, 1), 3, 0, 0, [], 0),
  (862, (.iconst 2, 1), 0, 0, 2, [], 0),
  (863, (.iadd, 1), 0, 0, 0, [], 0),
  (864, (.iaload, 1), 300, 0, 0, [], 0),
  (865, (.invokevirtual 108, 3), 100, 3, 0, [0, 1, 3021], 0),
  (868, (.aload_n 2, 1), 2, 0, 0, [], 0),
  (869, (.aload_n 0, 1), 0, 0, 0, [], 0),
  (870, (.iload_n 3, 1), 3, 0, 0, [], 0),
  (871, (.iconst 1, 1), 0, 0, 1, [], 0),
  (872, (.iadd, 1), 0, 0, 0, [], 0),
  (873, (.iaload, 1), 300, 0, 0, [], 0),
  (874, (.aload_n 0, 1), 0, 0, 0, [], 0),
  (875, (.iload_n 3, 1), 3, 0, 0, [], 0),
  (876, (.iconst 2, 1), 0, 0, 2, [], 0),
  (877, (.iadd, 1), 0, 0, 0, [], 0),
  (878, (.iaload, 1), 300, 0, 0, [], 0),
  (879, (.invokevirtual 111, 3), 215, 3, 0, [0, 1, 5172], 0),
  (882, (.if_icmp .eq 711, 3), 1593, 0, 0, [], 0),
  (885, (.iconst 0, 1), 0, 0, 0, [], 0),
  (886, (.ireturn, 1), 1, 0, 0, [], 0),
  (887, (.aload_n 1, 1), 1, 0, 0, [], 0)]
def lp_c293_21 : List lp_E := [(888, (.invokevirtual 112, 3), 101, 1, 0, [0, 1, 3025], 0),
  (891, (.aload_n 2, 1), 2, 0, 0, [], 0),
  (892, (.invokevirtual 115, 3), 217, 1, 0, [0, 1, 5180], 0),
  (895, (.if_icmp .eq 698, 3), 1593, 0, 0, [], 0),
  (898, (.iconst 0, 1), 0, 0, 0, [], 0),
  (899, (.ireturn, 1), 1, 0, 0, [], 0),
  (900, (.aload_n 1, 1), 1, 0, 0, [], 0),
  (901, (.aload_n 0, 1), 0, 0, 0, [], 0),
  (902, (.iload_n 3, 1), 3, 0, 0, [], 0),
  (903, (.iconst 1, 1), 0, 0, 1, [], 0),
  (904, (.iadd, 1), 0, 0, 0, [], 0),
  (905, (.iaload, 1), 300, 0, 0, [], 0),
  (906, (.invokevirtual 116, 3), 102, 2, 0, [0, 1, 3029], 0),
  (909, (.aload_n 2, 1), 2, 0, 0, [], 0),
  (910, (.aload_n 0, 1), 0, 0, 0, [], 0),
  (911, (.iload_n 3, 1), 3, 0, 0, [], 0),
  (912, (.iconst 1, 1), 0, 0, 1, [], 0),
  (913, (.iadd, 1), 0, 0, 0, [], 0),
  (914, (.iaload, 1), 300, 0, 0, [], 0),
  (915, (.invokevirtual 119, 3), 218, 2, 0, [0, 1, 5188], 0),
  (918, (.if_icmp .eq 675, 3), 1593, 0, 0, [], 0),
  (921, (.iconst 0, 1), 0, 0, 0, [], 0),
  (922, (.ireturn, 1), 1, 0, 0, [], 0),
  (923, (.aload_n 1, 1), 1, 0, 0, [], 0)]
def lp_c293_22 : List lp_E := [(924, (.aload_n 0, 1), 0, 0, 0, [], 0),
  (925, (.iload_n 3, 1), 3, 0, 0, [], 0),
  (926, (.iconst 1, 1), 0, 0, 1, [], 0),
  (927, (.iadd, 1), 0, 0, 0, [], 0),
  (928, (.iaload, 1), 300, 0, 0, [], 0),
  (929, (.invokevirtual 120, 3), 103, 2, 0, [0, 1, 3033], 0),
  (932, (.aload_n 2, 1), 2, 0, 0, [], 0),
  (933, (.aload_n 0, 1), 0, 0, 0, [], 0),
  (934, (.iload_n 3, 1), 3, 0, 0, [], 0),
  (935, (.iconst 1, 1), 0, 0, 1, [], 0),
  (936, (.iadd, 1), 0, 0, 0, [], 0),
  (937, (.iaload, 1), 300, 0, 0, [], 0),
  (938, (.invokevirtual 123, 3), 223, 2, 0, [0, 1, 5192], 0),
  (941, (.if_icmp .eq 652, 3), 1593, 0, 0, [], 0),
  (944, (.iconst 0, 1), 0, 0, 0, [], 0),
  (945, (.ireturn, 1), 1, 0, 0, [], 0),
  (946, (.aload_n 1, 1), 1, 0, 0, [], 0),
  (947, (.aload_n 0, 1), 0, 0, 0, [], 0),
  (948, (.iload_n 3, 1), 3, 0, 0, [], 0),
  (949, (.iconst 1, 1), 0, 0, 1, [], 0),
  (950, (.iadd, 1), 0, 0, 0, [], 0),
  (951, (.iaload, 1), 300, 0, 0, [], 0),
  (952, (.invokevirtual 124, 3), 104, 2, 0, [0, 1, 3067], 0),
  (955, (.aload_n 2, 1), 2, 0, 0, [], 0)]
def lp_c293_23 : List lp_E := [(956, (.aload_n 0, 1), 0, 0, 0, [], 0),
  (957, (.iload_n 3, 1), 3, 0, 0, [], 0),
  (958, (.iconst 1, 1), 0, 0, 1, [], 0),
  (959, (.iadd, 1), 0, 0, 0, [], 0),
  (960, (.iaload, 1), 300, 0, 0, [], 0),
  (961, (.invokevirtual 127, 3), 225, 2, 0, [0, 1, 5216], 0),
  (964, (.if_icmp .eq 629, 3), 1593, 0, 0, [], 0),
  (967, (.iconst 0, 1), 0, 0, 0, [], 0),
  (968, (.ireturn, 1), 1, 0, 0, [], 0),
  (969, (.aload_n 1, 1), 1, 0, 0, [], 0),
  (970, (.aload_n 0, 1), 0, 0, 0, [], 0),
  (971, (.iload_n 3, 1), 3, 0, 0, [], 0),
  (972, (.iconst 1, 1), 0, 0, 1, [], 0),
  (973, (.iadd, 1), 0, 0, 0, [], 0),
  (974, (.iaload, 1), 300, 0, 0, [], 0),
  (975, (.invokevirtual 128, 3), 105, 2, 0, [0, 1, 3075], 0),
  (978, (.aload_n 2, 1), 2, 0, 0, [], 0),
  (979, (.aload_n 0, 1), 0, 0, 0, [], 0),
  (980, (.iload_n 3, 1), 3, 0, 0, [], 0),
  (981, (.iconst 1, 1), 0, 0, 1, [], 0),
  (982, (.iadd, 1), 0, 0, 0, [], 0),
  (983, (.iaload, 1), 300, 0, 0, [], 0),
  (984, (.invokevirtual 131, 3), 227, 2, 0, [0, 1, 5220], 0),
  (987, (.if_icmp .eq 606, 3), 1593, 0, 0, [], 0)]
def lp_c293_24 : List lp_E := [(990, (.iconst 0, 1), 0, 0, 0, [], 0),
  (991, (.ireturn, 1), 1, 0, 0, [], 0),
  (992, (.aload_n 1, 1), 1, 0, 0, [], 0),
  (993, (.invokevirtual 132, 3), 106, 1, 0, [0, 1, 3084], 0),
  (996, (.aload_n 2, 1), 2, 0, 0, [], 0),
  (997, (.invokevirtual 135, 3), 228, 1, 0, [0, 1, 5228], 0),
  (1000, (.if_icmp .eq 593, 3), 1593, 0, 0, [], 0),
  (1003, (.iconst 0, 1), 0, 0, 0, [], 0),
  (1004, (.ireturn, 1), 1, 0, 0, [], 0),
  (1005, (.aload_n 1, 1), 1, 0, 0, [], 0),
  (1006, (.invokevirtual 136, 3), 107, 1, 0, [0, 1, 3088], 0),
  (1009, (.aload_n 2, 1), 2, 0, 0, [], 0),
  (1010, (.invokevirtual 139, 3), 231, 1, 0, [0, 1, 5236], 0),
  (1013, (.if_icmp .eq 580, 3), 1593, 0, 0, [], 0),
  (1016, (.iconst 0, 1), 0, 0, 0, [], 0),
  (1017, (.ireturn, 1), 1, 0, 0, [], 0),
  (1018, (.aload_n 1, 1), 1, 0, 0, [], 0),
  (1019, (.invokevirtual 140, 3), 108, 1, 0, [0, 1, 3092], 0),
  (1022, (.aload_n 2, 1), 2, 0, 0, [], 0),
  (1023, (.invokevirtual 143, 3), 233, 1, 0, [0, 1, 6000], 0),
  (1026, (.if_icmp .eq 567, 3), 1593, 0, 0, [], 0),
  (1029, (.iconst 0, 1), 0, 0, 0, [], 0),
  (1030, (.ireturn, 1), 1, 0, 0, [], 0),
  (1031, (.aload_n 1, 1), 1, 0, 0, [], 0)]
def lp_c293_25 : List lp_E := [(1032, (.aload_n 0, 1), 0, 0, 0, [], 0),
  (1033, (.iload_n 3, 1), 3, 0, 0, [], 0),
  (1034, (.iconst 1, 1), 0, 0, 1, [], 0),
  (1035, (.iadd, 1), 0, 0, 0, [], 0),
  (1036, (.iaload, 1), 300, 0, 0, [], 0),
  (1037, (.aload_n 0, 1), 0, 0, 0, [], 0),
  (1038, (.iload_n 3, 1), 3, 0, 0, [], 0),
  (1039, (.iconst 2, 1), 0, 0, 2, [], 0),
  (1040, (.iadd, 1), 0, 0, 0, [], 0),
  (1041, (.iaload, 1), 300, 0, 0, [], 0),
  (1042, (.invokevirtual 144, 3), 109, 3, 0, [0, 1, 3104], 0),
  (1045, (.aload_n 2, 1), 2, 0, 0, [], 0),
  (1046, (.aload_n 0, 1), 0, 0, 0, [], 0),
  (1047, (.iload_n 3, 1), 3, 0, 0, [], 0),
  (1048, (.iconst 1, 1), 0, 0, 1, [], 0),
  (1049, (.iadd, 1), 0, 0, 0, [], 0),
  (1050, (.iaload, 1), 300, 0, 0, [], 0),
  (1051, (.aload_n 0, 1), 0, 0, 0, [], 0),
  (1052, (.iload_n 3, 1), 3, 0, 0, [], 0),
  (1053, (.iconst 2, 1), 0, 0, 2, [], 0),
  (1054, (.iadd, 1), 0, 0, 0, [], 0),
  (1055, (.iaload, 1), 300, 0, 0, [], 0),
  (1056, (.invokevirtual 147, 3), 234, 3, 0, [0, 1, 6008], 0),
  (1059, (.if_icmp .eq 534, 3), 1593, 0, 0, [], 0)]
def lp_c293_26 : List lp_E := [(1062, (.iconst 0, 1), 0, 0, 0, [], 0),
  (1063, (.ireturn, 1), 1, 0, 0, [], 0),
  (1064, (.aload_n 1, 1), 1, 0, 0, [], 0),
  (1065, (.aload_n 0, 1), 0, 0, 0, [], 0),
  (1066, (.iload_n 3, 1), 3, 0, 0, [], 0),
  (1067, (.iconst 1, 1), 0, 0, 1, [], 0),
  (1068, (.iadd, 1), 0, 0, 0, [], 0),
  (1069, (.iaload, 1), 300, 0, 0, [], 0),
  (1070, (.aload_n 0, 1), 0, 0, 0, [], 0),
  (1071, (.iload_n 3, 1), 3, 0, 0, [], 0),
  (1072, (.iconst 2, 1), 0, 0, 2, [], 0),
  (1073, (.iadd, 1), 0, 0, 0, [], 0),
  (1074, (.iaload, 1), 300, 0, 0, [], 0),
  (1075, (.invokevirtual 148, 3), 110, 3, 0, [0, 1, 3108], 0),
  (1078, (.aload_n 2, 1), 2, 0, 0, [], 0),
  (1079, (.aload_n 0, 1), 0, 0, 0, [], 0),
  (1080, (.iload_n 3, 1), 3, 0, 0, [], 0),
  (1081, (.iconst 1, 1), 0, 0, 1, [], 0),
  (1082, (.iadd, 1), 0, 0, 0, [], 0),
  (1083, (.iaload, 1), 300, 0, 0, [], 0),
  (1084, (.aload_n 0, 1), 0, 0, 0, [], 0),
  (1085, (.iload_n 3, 1), 3, 0, 0, [], 0),
  (1086, (.iconst 2, 1), 0, 0, 2, [], 0),
  (1087, (.iadd, 1), 0, 0, 0, [], 0)]
def lp_c293_27 : List lp_E := [(1088, (.iaload, 1), 300, 0, 0, [], 0),
  (1089, (.invokevirtual 151, 3), 235, 3, 0, [0, 1, 6012], 0),
  (1092, (.if_icmp .eq 501, 3), 1593, 0, 0, [], 0),
  (1095, (.iconst 0, 1), 0, 0, 0, [], 0),
  (1096, (.ireturn, 1), 1, 0, 0, [], 0),
  (1097, (.aload_n 1, 1), 1, 0, 0, [], 0),
  (1098, (.aload_n 0, 1), 0, 0, 0, [], 0),
  (1099, (.iload_n 3, 1), 3, 0, 0, [], 0),
  (1100, (.iconst 1, 1), 0, 0, 1, [], 0),
  (1101, (.iadd, 1), 0, 0, 0, [], 0),
  (1102, (.iaload, 1), 300, 0, 0, [], 0),
  (1103, (.invokevirtual 152, 3), 111, 2, 0, [0, 1, 3112], 0),
  (1106, (.aload_n 2, 1), 2, 0, 0, [], 0),
  (1107, (.aload_n 0, 1), 0, 0, 0, [], 0),
  (1108, (.iload_n 3, 1), 3, 0, 0, [], 0),
  (1109, (.iconst 1, 1), 0, 0, 1, [], 0),
  (1110, (.iadd, 1), 0, 0, 0, [], 0),
  (1111, (.iaload, 1), 300, 0, 0, [], 0),
  (1112, (.invokevirtual 155, 3), 237, 2, 0, [0, 1, 6016], 0),
  (1115, (.if_icmp .eq 478, 3), 1593, 0, 0, [], 0),
  (1118, (.iconst 0, 1), 0, 0, 0, [], 0),
  (1119, (.ireturn, 1), 1, 0, 0, [], 0),
  (1120, (.aload_n 1, 1), 1, 0, 0, [], 0),
  (1121, (.aload_n 0, 1), 0, 0, 0, [], 0)]
def lp_c293_28 : List lp_E := [(1122, (.iload_n 3, 1), 3, 0, 0, [], 0),
  (1123, (.iconst 1, 1), 0, 0, 1, [], 0),
  (1124, (.iadd, 1), 0, 0, 0, [], 0),
  (1125, (.iaload, 1), 300, 0, 0, [], 0),
  (1126, (.invokevirtual 156, 3), 112, 2, 0, [0, 1, 3124], 0),
  (1129, (.aload_n 2, 1), 2, 0, 0, [], 0),
  (1130, (.aload_n 0, 1), 0, 0, 0, [], 0),
  (1131, (.iload_n 3, 1), 3, 0, 0, [], 0),
  (1132, (.iconst 1, 1), 0, 0, 1, [], 0),
  (1133, (.iadd, 1), 0, 0, 0, [], 0),
  (1134, (.iaload, 1), 300, 0, 0, [], 0),
  (1135, (.invokevirtual 159, 3), 238, 2, 0, [0, 1, 6024], 0),
  (1138, (.if_icmp .eq 455, 3), 1593, 0, 0, [], 0),
  (1141, (.iconst 0, 1), 0, 0, 0, [], 0),
  (1142, (.ireturn, 1), 1, 0, 0, [], 0),
  (1143, (.aload_n 1, 1), 1, 0, 0, [], 0),
  (1144, (.aload_n 0, 1), 0, 0, 0, [], 0),
  (1145, (.iload_n 3, 1), 3, 0, 0, [], 0),
  (1146, (.iconst 1, 1), 0, 0, 1, [], 0),
  (1147, (.iadd, 1), 0, 0, 0, [], 0),
  (1148, (.iaload, 1), 300, 0, 0, [], 0),
  (1149, (.invokevirtual 160, 3), 113, 2, 0, [0, 1, 3132], 0),
  (1152, (.aload_n 2, 1), 2, 0, 0, [], 0),
  (1153, (.aload_n 0, 1), 0, 0, 0, [], 0)]
def lp_c293_29 : List lp_E := [(1154, (.iload_n 3, 1), 3, 0, 0, [], 0),
  (1155, (.iconst 1, 1), 0, 0, 1, [], 0),
  (1156, (.iadd, 1), 0, 0, 0, [], 0),
  (1157, (.iaload, 1), 300, 0, 0, [], 0),
  (1158, (.invokevirtual 163, 3), 224, 2, 0, [0, 1, 5212], 0),
  (1161, (.if_icmp .eq 432, 3), 1593, 0, 0, [], 0),
  (1164, (.iconst 0, 1), 0, 0, 0, [], 0),
  (1165, (.ireturn, 1), 1, 0, 0, [], 0),
  (1166, (.aload_n 1, 1), 1, 0, 0, [], 0),
  (1167, (.aload_n 0, 1), 0, 0, 0, [], 0),
  (1168, (.iload_n 3, 1), 3, 0, 0, [], 0),
  (1169, (.iconst 1, 1), 0, 0, 1, [], 0),
  (1170, (.iadd, 1), 0, 0, 0, [], 0),
  (1171, (.iaload, 1), 300, 0, 0, [], 0),
  (1172, (.invokevirtual 164, 3), 114, 2, 0, [0, 1, 3136], 0),
  (1175, (.aload_n 2, 1), 2, 0, 0, [], 0),
  (1176, (.aload_n 0, 1), 0, 0, 0, [], 0),
  (1177, (.iload_n 3, 1), 3, 0, 0, [], 0),
  (1178, (.iconst 1, 1), 0, 0, 1, [], 0),
  (1179, (.iadd, 1), 0, 0, 0, [], 0),
  (1180, (.iaload, 1), 300, 0, 0, [], 0),
  (1181, (.invokevirtual 167, 3), 240, 2, 0, [0, 1, 6028], 0),
  (1184, (.if_icmp .eq 409, 3), 1593, 0, 0, [], 0),
  (1187, (.iconst 0, 1), 0, 0, 0, [], 0)]
def lp_c293_30 : List lp_E := [(1188, (.ireturn, 1), 1, 0, 0, [], 0),
  (1189, (.aload_n 1, 1), 1, 0, 0, [], 0),
  (1190, (.invokevirtual 168, 3), 115, 1, 0, [0, 1, 3152], 0),
  (1193, (.aload_n 2, 1), 2, 0, 0, [], 0),
  (1194, (.invokevirtual 171, 3), 229, 1, 0, [0, 1, 5232], 0),
  (1197, (.if_icmp .eq 396, 3), 1593, 0, 0, [], 0),
  (1200, (.iconst 0, 1), 0, 0, 0, [], 0),
  (1201, (.ireturn, 1), 1, 0, 0, [], 0),
  (1202, (.aload_n 1, 1), 1, 0, 0, [], 0),
  (1203, (.aload_n 0, 1), 0, 0, 0, [], 0),
  (1204, (.iload_n 3, 1), 3, 0, 0, [], 0),
  (1205, (.iconst 1, 1), 0, 0, 1, [], 0),
  (1206, (.iadd, 1), 0, 0, 0, [], 0),
  (1207, (.iaload, 1), 300, 0, 0, [], 0),
  (1208, (.aload_n 0, 1), 0, 0, 0, [], 0),
  (1209, (.iload_n 3, 1), 3, 0, 0, [], 0),
  (1210, (.iconst 2, 1), 0, 0, 2, [], 0),
  (1211, (.iadd, 1), 0, 0, 0, [], 0),
  (1212, (.iaload, 1), 300, 0, 0, [], 0),
  (1213, (.invokevirtual 172, 3), 116, 3, 0, [0, 1, 3156], 0),
  (1216, (.aload_n 2, 1), 2, 0, 0, [], 0),
  (1217, (.aload_n 0, 1), 0, 0, 0, [], 0),
  (1218, (.iload_n 3, 1), 3, 0, 0, [], 0),
  (1219, (.iconst 1, 1), 0, 0, 1, [], 0)]
def lp_c293_31 : List lp_E := [(1220, (.iadd, 1), 0, 0, 0, [], 0),
  (1221, (.iaload, 1), 300, 0, 0, [], 0),
  (1222, (.aload_n 0, 1), 0, 0, 0, [], 0),
  (1223, (.iload_n 3, 1), 3, 0, 0, [], 0),
  (1224, (.iconst 2, 1), 0, 0, 2, [], 0),
  (1225, (.iadd, 1), 0, 0, 0, [], 0),
  (1226, (.iaload, 1), 300, 0, 0, [], 0),
  (1227, (.invokevirtual 175, 3), 241, 3, 0, [0, 1, 6036], 0),
  (1230, (.if_icmp .eq 363, 3), 1593, 0, 0, [], 0),
  (1233, (.iconst 0, 1), 0, 0, 0, [], 0),
  (1234, (.ireturn, 1), 1, 0, 0, [], 0),
  (1235, (.aload_n 1, 1), 1, 0, 0, [], 0),
  (1236, (.aload_n 0, 1), 0, 0, 0, [], 0),
  (1237, (.iload_n 3, 1), 3, 0, 0, [], 0),
  (1238, (.iconst 1, 1), 0, 0, 1, [], 0),
  (1239, (.iadd, 1), 0, 0, 0, [], 0),
  (1240, (.iaload, 1), 300, 0, 0, [], 0),
  (1241, (.invokevirtual 176, 3), 117, 2, 0, [0, 1, 3160], 0),
  (1244, (.aload_n 2, 1), 2, 0, 0, [], 0),
  (1245, (.aload_n 0, 1), 0, 0, 0, [], 0),
  (1246, (.iload_n 3, 1), 3, 0, 0, [], 0),
  (1247, (.iconst 1, 1), 0, 0, 1, [], 0),
  (1248, (.iadd, 1), 0, 0, 0, [], 0),
  (1249, (.iaload, 1), 300, 0, 0, [], 0)]
def lp_c293_32 : List lp_E := [(1250, (.invokevirtual 179, 3), 242, 2, 0, [0, 1, 6040], 0),
  (1253, (.if_icmp .eq 340, 3), 1593, 0, 0, [], 0),
  (1256, (.iconst 0, 1), 0, 0, 0, [], 0),
  (1257, (.ireturn, 1), 1, 0, 0, [], 0),
  (1258, (.aload_n 1, 1), 1, 0, 0, [], 0),
  (1259, (.invokevirtual 180, 3), 118, 1, 0, [0, 1, 3164], 0),
  (1262, (.aload_n 2, 1), 2, 0, 0, [], 0),
  (1263, (.invokevirtual 183, 3), 243, 1, 0, [0, 1, 6044], 0),
  (1266, (.if_icmp .eq 327, 3), 1593, 0, 0, [], 0),
  (1269, (.iconst 0, 1), 0, 0, 0, [], 0),
  (1270, (.ireturn, 1), 1, 0, 0, [], 0),
  (1271, (.aload_n 1, 1), 1, 0, 0, [], 0),
  (1272, (.invokevirtual 184, 3), 119, 1, 0, [0, 1, 3168], 0),
  (1275, (.aload_n 2, 1), 2, 0, 0, [], 0),
  (1276, (.invokevirtual 187, 3), 244, 1, 0, [0, 1, 6048], 0),
  (1279, (.if_icmp .eq 314, 3), 1593, 0, 0, [], 0),
  (1282, (.iconst 0, 1), 0, 0, 0, [], 0),
  (1283, (.ireturn, 1), 1, 0, 0, [], 0),
  (1284, (.aload_n 1, 1), 1, 0, 0, [], 0),
  (1285, (.aload_n 0, 1), 0, 0, 0, [], 0),
  (1286, (.iload_n 3, 1), 3, 0, 0, [], 0),
  (1287, (.iconst 1, 1), 0, 0, 1, [], 0),
  (1288, (.iadd, 1), 0, 0, 0, [], 0),
  (1289, (.iaload, 1), 300, 0, 0, [], 0)]
def lp_c293_33 : List lp_E := [(1290, (.aload_n 0, 1), 0, 0, 0, [], 0),
  (1291, (.iload_n 3, 1), 3, 0, 0, [], 0),
  (1292, (.iconst 2, 1), 0, 0, 2, [], 0),
  (1293, (.iadd, 1), 0, 0, 0, [], 0),
  (1294, (.iaload, 1), 300, 0, 0, [], 0),
  (1295, (.invokevirtual 188, 3), 120, 3, 0, [0, 1, 3172], 0),
  (1298, (.aload_n 2, 1), 2, 0, 0, [], 0),
  (1299, (.aload_n 0, 1), 0, 0, 0, [], 0),
  (1300, (.iload_n 3, 1), 3, 0, 0, [], 0),
  (1301, (.iconst 1, 1), 0, 0, 1, [], 0),
  (1302, (.iadd, 1), 0, 0, 0, [], 0),
  (1303, (.iaload, 1), 300, 0, 0, [], 0),
  (1304, (.aload_n 0, 1), 0, 0, 0, [], 0),
  (1305, (.iload_n 3, 1), 3, 0, 0, [], 0),
  (1306, (.iconst 2, 1), 0, 0, 2, [], 0),
  (1307, (.iadd, 1), 0, 0, 0, [], 0),
  (1308, (.iaload, 1), 300, 0, 0, [], 0),
  (1309, (.invokevirtual 191, 3), 245, 3, 0, [0, 1, 6053], 0),
  (1312, (.if_icmp .eq 281, 3), 1593, 0, 0, [], 0),
  (1315, (.iconst 0, 1), 0, 0, 0, [], 0),
  (1316, (.ireturn, 1), 1, 0, 0, [], 0),
  (1317, (.aload_n 1, 1), 1, 0, 0, [], 0),
  (1318, (.invokevirtual 192, 3), 121, 1, 0, [0, 1, 3180], 0),
  (1321, (.aload_n 2, 1), 2, 0, 0, [], 0)]
def lp_c293_34 : List lp_E := [(1322, (.invokevirtual 195, 3), 251, 1, 0, [0, 1, 6057], 0),
  (1325, (.if_icmp .eq 268, 3), 1593, 0, 0, [], 0),
  (1328, (.iconst 0, 1), 0, 0, 0, [], 0),
  (1329, (.ireturn, 1), 1, 0, 0, [], 0),
  (1330, (.aload_n 1, 1), 1, 0, 0, [], 0),
  (1331, (.aload_n 0, 1), 0, 0, 0, [], 0),
  (1332, (.iload_n 3, 1), 3, 0, 0, [], 0),
  (1333, (.iconst 1, 1), 0, 0, 1, [], 0),
  (1334, (.iadd, 1), 0, 0, 0, [], 0),
  (1335, (.iaload, 1), 300, 0, 0, [], 0),
  (1336, (.invokevirtual 196, 3), 122, 2, 0, [0, 1, 3230], 0),
  (1339, (.aload_n 2, 1), 2, 0, 0, [], 0),
  (1340, (.aload_n 0, 1), 0, 0, 0, [], 0),
  (1341, (.iload_n 3, 1), 3, 0, 0, [], 0),
  (1342, (.iconst 1, 1), 0, 0, 1, [], 0),
  (1343, (.iadd, 1), 0, 0, 0, [], 0),
  (1344, (.iaload, 1), 300, 0, 0, [], 0),
  (1345, (.invokevirtual 199, 3), 252, 2, 0, [0, 1, 6077], 0),
  (1348, (.if_icmp .eq 245, 3), 1593, 0, 0, [], 0),
  (1351, (.iconst 0, 1), 0, 0, 0, [], 0),
  (1352, (.ireturn, 1), 1, 0, 0, [], 0),
  (1353, (.aload_n 1, 1), 1, 0, 0, [], 0),
  (1354, (.aload_n 0, 1), 0, 0, 0, [], 0),
  (1355, (.iload_n 3, 1), 3, 0, 0, [], 0)]
def lp_c293_35 : List lp_E := [(1356, (.iconst 1, 1), 0, 0, 1, [], 0),
  (1357, (.iadd, 1), 0, 0, 0, [], 0),
  (1358, (.iaload, 1), 300, 0, 0, [], 0),
  (1359, (.invokevirtual 200, 3), 123, 2, 0, [0, 1, 3234], 0),
  (1362, (.aload_n 2, 1), 2, 0, 0, [], 0),
  (1363, (.aload_n 0, 1), 0, 0, 0, [], 0),
  (1364, (.iload_n 3, 1), 3, 0, 0, [], 0),
  (1365, (.iconst 1, 1), 0, 0, 1, [], 0),
  (1366, (.iadd, 1), 0, 0, 0, [], 0),
  (1367, (.iaload, 1), 300, 0, 0, [], 0),
  (1368, (.invokevirtual 203, 3), 253, 2, 0, [0, 1, 6081], 0),
  (1371, (.if_icmp .eq 222, 3), 1593, 0, 0, [], 0),
  (1374, (.iconst 0, 1), 0, 0, 0, [], 0),
  (1375, (.ireturn, 1), 1, 0, 0, [], 0),
  (1376, (.aload_n 1, 1), 1, 0, 0, [], 0),
  (1377, (.aload_n 0, 1), 0, 0, 0, [], 0),
  (1378, (.iload_n 3, 1), 3, 0, 0, [], 0),
  (1379, (.iconst 1, 1), 0, 0, 1, [], 0),
  (1380, (.iadd, 1), 0, 0, 0, [], 0),
  (1381, (.iaload, 1), 300, 0, 0, [], 0),
  (1382, (.invokevirtual 204, 3), 124, 2, 0, [0, 1, 3238], 0),
  (1385, (.aload_n 2, 1), 2, 0, 0, [], 0),
  (1386, (.aload_n 0, 1), 0, 0, 0, [], 0),
  (1387, (.iload_n 3, 1), 3, 0, 0, [], 0)]
def lp_c293_36 : List lp_E := [(1388, (.iconst 1, 1), 0, 0, 1, [], 0),
  (1389, (.iadd, 1), 0, 0, 0, [], 0),
  (1390, (.iaload, 1), 300, 0, 0, [], 0),
  (1391, (.invokevirtual 207, 3), 254, 2, 0, [0, 1, 6085], 0),
  (1394, (.if_icmp .eq 199, 3), 1593, 0, 0, [], 0),
  (1397, (.iconst 0, 1), 0, 0, 0, [], 0),
  (1398, (.ireturn, 1), 1, 0, 0, [], 0),
  (1399, (.aload_n 1, 1), 1, 0, 0, [], 0),
  (1400, (.aload_n 0, 1), 0, 0, 0, [], 0),
  (1401, (.iload_n 3, 1), 3, 0, 0, [], 0),
  (1402, (.iconst 1, 1), 0, 0, 1, [], 0),
  (1403, (.iadd, 1), 0, 0, 0, [], 0),
  (1404, (.iaload, 1), 300, 0, 0, [], 0),
  (1405, (.aload_n 0, 1), 0, 0, 0, [], 0),
  (1406, (.iload_n 3, 1), 3, 0, 0, [], 0),
  (1407, (.iconst 2, 1), 0, 0, 2, [], 0),
  (1408, (.iadd, 1), 0, 0, 0, [], 0),
  (1409, (.iaload, 1), 300, 0, 0, [], 0),
  (1410, (.invokevirtual 208, 3), 125, 3, 0, [0, 1, 4002], 0),
  (1413, (.aload_n 2, 1), 2, 0, 0, [], 0),
  (1414, (.aload_n 0, 1), 0, 0, 0, [], 0),
  (1415, (.iload_n 3, 1), 3, 0, 0, [], 0),
  (1416, (.iconst 1, 1), 0, 0, 1, [], 0),
  (1417, (.iadd, 1), 0, 0, 0, [], 0)]
def lp_c293_37 : List lp_E := [(1418, (.iaload, 1), 300, 0, 0, [], 0),
  (1419, (.aload_n 0, 1), 0, 0, 0, [], 0),
  (1420, (.iload_n 3, 1), 3, 0, 0, [], 0),
  (1421, (.iconst 2, 1), 0, 0, 2, [], 0),
  (1422, (.iadd, 1), 0, 0, 0, [], 0),
  (1423, (.iaload, 1), 300, 0, 0, [], 0),
  (1424, (.invokevirtual 211, 3), 255, 3, 0, [0, 1, 6093], 0),
  (1427, (.if_icmp .eq 166, 3), 1593, 0, 0, [], 0),
  (1430, (.iconst 0, 1), 0, 0, 0, [], 0),
  (1431, (.ireturn, 1), 1, 0, 0, [], 0),
  (1432, (.aload_n 1, 1), 1, 0, 0, [], 0),
  (1433, (.aload_n 0, 1), 0, 0, 0, [], 0),
  (1434, (.iload_n 3, 1), 3, 0, 0, [], 0),
  (1435, (.iconst 1, 1), 0, 0, 1, [], 0),
  (1436, (.iadd, 1), 0, 0, 0, [], 0),
  (1437, (.iaload, 1), 300, 0, 0, [], 0),
  (1438, (.aload_n 0, 1), 0, 0, 0, [], 0),
  (1439, (.iload_n 3, 1), 3, 0, 0, [], 0),
  (1440, (.iconst 2, 1), 0, 0, 2, [], 0),
  (1441, (.iadd, 1), 0, 0, 0, [], 0),
  (1442, (.iaload, 1), 300, 0, 0, [], 0),
  (1443, (.aload_n 0, 1), 0, 0, 0, [], 0),
  (1444, (.iload_n 3, 1), 3, 0, 0, [], 0),
  (1445, (.iconst 3, 1), 0, 0, 3, [], 0)]
def lp_c293_38 : List lp_E := [(1446, (.iadd, 1), 0, 0, 0, [], 0),
  (1447, (.iaload, 1), 300, 0, 0, [], 0),
  (1448, (.invokevirtual 212, 3), 126, 4, 0, [0, 1, 4010], 0),
  (1451, (.aload_n 2, 1), 2, 0, 0, [], 0),
  (1452, (.aload_n 0, 1), 0, 0, 0, [], 0),
  (1453, (.iload_n 3, 1), 3, 0, 0, [], 0),
  (1454, (.iconst 1, 1), 0, 0, 1, [], 0),
  (1455, (.iadd, 1), 0, 0, 0, [], 0),
  (1456, (.iaload, 1), 300, 0, 0, [], 0),
  (1457, (.aload_n 0, 1), 0, 0, 0, [], 0),
  (1458, (.iload_n 3, 1), 3, 0, 0, [], 0),
  (1459, (.iconst 2, 1), 0, 0, 2, [], 0),
  (1460, (.iadd, 1), 0, 0, 0, [], 0),
  (1461, (.iaload, 1), 300, 0, 0, [], 0),
  (1462, (.aload_n 0, 1), 0, 0, 0, [], 0),
  (1463, (.iload_n 3, 1), 3, 0, 0, [], 0),
  (1464, (.iconst 3, 1), 0, 0, 3, [], 0),
  (1465, (.iadd, 1), 0, 0, 0, [], 0),
  (1466, (.iaload, 1), 300, 0, 0, [], 0),
  (1467, (.invokevirtual 215, 3), 256, 4, 0, [0, 1, 6097], 0),
  (1470, (.if_icmp .eq 123, 3), 1593, 0, 0, [], 0),
  (1473, (.iconst 0, 1), 0, 0, 0, [], 0),
  (1474, (.ireturn, 1), 1, 0, 0, [], 0),
  (1475, (.aload_n 1, 1), 1, 0, 0, [], 0)]
def lp_c293_39 : List lp_E := [(1476, (.aload_n 0, 1), 0, 0, 0, [], 0),
  (1477, (.iload_n 3, 1), 3, 0, 0, [], 0),
  (1478, (.iconst 1, 1), 0, 0, 1, [], 0),
  (1479, (.iadd, 1), 0, 0, 0, [], 0),
  (1480, (.iaload, 1), 300, 0, 0, [], 0),
  (1481, (.invokevirtual 216, 3), 127, 2, 0, [0, 1, 4014], 0),
  (1484, (.aload_n 2, 1), 2, 0, 0, [], 0),
  (1485, (.aload_n 0, 1), 0, 0, 0, [], 0),
  (1486, (.iload_n 3, 1), 3, 0, 0, [], 0),
  (1487, (.iconst 1, 1), 0, 0, 1, [], 0),
  (1488, (.iadd, 1), 0, 0, 0, [], 0),
  (1489, (.iaload, 1), 300, 0, 0, [], 0),
  (1490, (.invokevirtual 219, 3), 257, 2, 0, [0, 1, 6101], 0),
  (1493, (.if_icmp .eq 100, 3), 1593, 0, 0, [], 0),
  (1496, (.iconst 0, 1), 0, 0, 0, [], 0),
  (1497, (.ireturn, 1), 1, 0, 0, [], 0),
  (1498, (.aload_n 1, 1), 1, 0, 0, [], 0),
  (1499, (.invokevirtual 220, 3), 128, 1, 0, [0, 1, 4018], 0),
  (1502, (.aload_n 2, 1), 2, 0, 0, [], 0),
  (1503, (.invokevirtual 223, 3), 258, 1, 0, [0, 1, 6105], 0),
  (1506, (.if_icmp .eq 87, 3), 1593, 0, 0, [], 0),
  (1509, (.iconst 0, 1), 0, 0, 0, [], 0),
  (1510, (.ireturn, 1), 1, 0, 0, [], 0),
  (1511, (.aload_n 1, 1), 1, 0, 0, [], 0)]
def lp_c293_40 : List lp_E := [(1512, (.invokevirtual 224, 3), 129, 1, 0, [0, 1, 4022], 0),
  (1515, (.aload_n 2, 1), 2, 0, 0, [], 0),
  (1516, (.invokevirtual 227, 3), 259, 1, 0, [0, 1, 6109], 0),
  (1519, (.if_icmp .eq 74, 3), 1593, 0, 0, [], 0),
  (1522, (.iconst 0, 1), 0, 0, 0, [], 0),
  (1523, (.ireturn, 1), 1, 0, 0, [], 0),
  (1524, (.aload_n 1, 1), 1, 0, 0, [], 0),
  (1525, (.aload_n 0, 1), 0, 0, 0, [], 0),
  (1526, (.iload_n 3, 1), 3, 0, 0, [], 0),
  (1527, (.iconst 1, 1), 0, 0, 1, [], 0),
  (1528, (.iadd, 1), 0, 0, 0, [], 0),
  (1529, (.iaload, 1), 300, 0, 0, [], 0),
  (1530, (.invokevirtual 228, 3), 130, 2, 0, [0, 1, 4026], 0),
  (1533, (.aload_n 2, 1), 2, 0, 0, [], 0),
  (1534, (.aload_n 0, 1), 0, 0, 0, [], 0),
  (1535, (.iload_n 3, 1), 3, 0, 0, [], 0),
  (1536, (.iconst 1, 1), 0, 0, 1, [], 0),
  (1537, (.iadd, 1), 0, 0, 0, [], 0),
  (1538, (.iaload, 1), 300, 0, 0, [], 0),
  (1539, (.invokevirtual 231, 3), 266, 2, 0, [0, 1, 6113], 0),
  (1542, (.if_icmp .eq 51, 3), 1593, 0, 0, [], 0),
  (1545, (.iconst 0, 1), 0, 0, 0, [], 0),
  (1546, (.ireturn, 1), 1, 0, 0, [], 0),
  (1547, (.aload_n 1, 1), 1, 0, 0, [], 0)]
def lp_c293_41 : List lp_E := [(1548, (.aload_n 0, 1), 0, 0, 0, [], 0),
  (1549, (.iload_n 3, 1), 3, 0, 0, [], 0),
  (1550, (.iconst 1, 1), 0, 0, 1, [], 0),
  (1551, (.iadd, 1), 0, 0, 0, [], 0),
  (1552, (.iaload, 1), 300, 0, 0, [], 0),
  (1553, (.invokevirtual 232, 3), 131, 2, 0, [0, 1, 4073], 0),
  (1556, (.aload_n 2, 1), 2, 0, 0, [], 0),
  (1557, (.aload_n 0, 1), 0, 0, 0, [], 0),
  (1558, (.iload_n 3, 1), 3, 0, 0, [], 0),
  (1559, (.iconst 1, 1), 0, 0, 1, [], 0),
  (1560, (.iadd, 1), 0, 0, 0, [], 0),
  (1561, (.iaload, 1), 300, 0, 0, [], 0),
  (1562, (.invokevirtual 235, 3), 267, 2, 0, [0, 1, 6145], 0),
  (1565, (.if_icmp .eq 28, 3), 1593, 0, 0, [], 0),
  (1568, (.iconst 0, 1), 0, 0, 0, [], 0),
  (1569, (.ireturn, 1), 1, 0, 0, [], 0),
  (1570, (.aload_n 1, 1), 1, 0, 0, [], 0),
  (1571, (.aload_n 0, 1), 0, 0, 0, [], 0),
  (1572, (.iload_n 3, 1), 3, 0, 0, [], 0),
  (1573, (.iconst 1, 1), 0, 0, 1, [], 0),
  (1574, (.iadd, 1), 0, 0, 0, [], 0),
  (1575, (.iaload, 1), 300, 0, 0, [], 0),
  (1576, (.invokevirtual 236, 3), 132, 2, 0, [0, 1, 4085], 0),
  (1579, (.aload_n 2, 1), 2, 0, 0, [], 0)]
def lp_c293_42 : List lp_E := [(1580, (.aload_n 0, 1), 0, 0, 0, [], 0),
  (1581, (.iload_n 3, 1), 3, 0, 0, [], 0),
  (1582, (.iconst 1, 1), 0, 0, 1, [], 0),
  (1583, (.iadd, 1), 0, 0, 0, [], 0),
  (1584, (.iaload, 1), 300, 0, 0, [], 0),
  (1585, (.invokevirtual 239, 3), 269, 2, 0, [0, 1, 6149], 0),
  (1588, (.if_icmp .eq 5, 3), 1593, 0, 0, [], 0),
  (1591, (.iconst 0, 1), 0, 0, 0, [], 0),
  (1592, (.ireturn, 1), 1, 0, 0, [], 0),
  (1593, (.iinc 3 6, 3), 3, 0, 6, [], 0),
  (1596, (.goto (-1578), 3), 18, 0, 0, [], 2),
  (1599, (.iconst 1, 1), 0, 0, 1, [], 0),
  (1600, (.ireturn, 1), 1, 0, 0, [], 0)]
/-- LampPressesLaw.law([I)Z -/
def lp_c293 : List (Nat × List lp_E) := [(270, lp_c293_0), (294, lp_c293_1), (320, lp_c293_2), (354, lp_c293_3), (390, lp_c293_4), (420, lp_c293_5), (446, lp_c293_6), (476, lp_c293_7), (506, lp_c293_8), (536, lp_c293_9), (564, lp_c293_10), (600, lp_c293_11), (630, lp_c293_12), (660, lp_c293_13), (690, lp_c293_14), (722, lp_c293_15), (762, lp_c293_16), (790, lp_c293_17), (818, lp_c293_18), (858, lp_c293_19), (888, lp_c293_20), (924, lp_c293_21), (956, lp_c293_22), (990, lp_c293_23), (1032, lp_c293_24), (1062, lp_c293_25), (1088, lp_c293_26), (1122, lp_c293_27), (1154, lp_c293_28), (1188, lp_c293_29), (1220, lp_c293_30), (1250, lp_c293_31), (1290, lp_c293_32), (1322, lp_c293_33), (1356, lp_c293_34), (1388, lp_c293_35), (1418, lp_c293_36), (1446, lp_c293_37), (1476, lp_c293_38), (1512, lp_c293_39), (1548, lp_c293_40), (1580, lp_c293_41), (1601, lp_c293_42)]
def lp_cd (m : Nat) : List (Nat × List lp_E) := (bif Nat.ble 147 m then (bif Nat.ble 221 m then (bif Nat.ble 258 m then (bif Nat.ble 276 m then (bif Nat.ble 285 m then (bif Nat.ble 290 m then (bif Nat.ble 292 m then (bif Nat.ble 293 m then (bif Nat.ble 294 m then [] else lp_c293) else lp_c292) else (bif Nat.ble 291 m then lp_c291 else lp_c290)) else (bif Nat.ble 287 m then (bif Nat.ble 288 m then (bif Nat.ble 289 m then lp_c289 else lp_c288) else lp_c287) else (bif Nat.ble 286 m then lp_c286 else lp_c285))) else (bif Nat.ble 280 m then (bif Nat.ble 282 m then (bif Nat.ble 283 m then (bif Nat.ble 284 m then lp_c284 else lp_c283) else lp_c282) else (bif Nat.ble 281 m then lp_c281 else lp_c280)) else (bif Nat.ble 278 m then (bif Nat.ble 279 m then lp_c279 else lp_c278) else (bif Nat.ble 277 m then lp_c277 else lp_c276)))) else (bif Nat.ble 267 m then (bif Nat.ble 271 m then (bif Nat.ble 273 m then (bif Nat.ble 274 m then (bif Nat.ble 275 m then lp_c275 else lp_c274) else lp_c273) else (bif Nat.ble 272 m then lp_c272 else lp_c271)) else (bif Nat.ble 269 m then (bif Nat.ble 270 m then lp_c270 else lp_c269) else (bif Nat.ble 268 m then lp_c268 else lp_c267))) else (bif Nat.ble 262 m then (bif Nat.ble 264 m then (bif Nat.ble 265 m then (bif Nat.ble 266 m then lp_c266 else lp_c265) else lp_c264) else (bif Nat.ble 263 m then lp_c263 else lp_c262)) else (bif Nat.ble 260 m then (bif Nat.ble 261 m then lp_c261 else lp_c260) else (bif Nat.ble 259 m then lp_c259 else lp_c258))))) else (bif Nat.ble 239 m then (bif Nat.ble 248 m then (bif Nat.ble 253 m then (bif Nat.ble 255 m then (bif Nat.ble 256 m then (bif Nat.ble 257 m then lp_c257 else lp_c256) else lp_c255) else (bif Nat.ble 254 m then lp_c254 else lp_c253)) else (bif Nat.ble 250 m then (bif Nat.ble 251 m then (bif Nat.ble 252 m then lp_c252 else lp_c251) else lp_c250) else (bif Nat.ble 249 m then lp_c249 else lp_c248))) else (bif Nat.ble 243 m then (bif Nat.ble 245 m then (bif Nat.ble 246 m then (bif Nat.ble 247 m then lp_c247 else lp_c246) else lp_c245) else (bif Nat.ble 244 m then lp_c244 else lp_c243)) else (bif Nat.ble 241 m then (bif Nat.ble 242 m then lp_c242 else lp_c241) else (bif Nat.ble 240 m then lp_c240 else lp_c239)))) else (bif Nat.ble 230 m then (bif Nat.ble 234 m then (bif Nat.ble 236 m then (bif Nat.ble 237 m then (bif Nat.ble 238 m then lp_c238 else lp_c237) else lp_c236) else (bif Nat.ble 235 m then lp_c235 else lp_c234)) else (bif Nat.ble 232 m then (bif Nat.ble 233 m then lp_c233 else lp_c232) else (bif Nat.ble 231 m then lp_c231 else lp_c230))) else (bif Nat.ble 225 m then (bif Nat.ble 227 m then (bif Nat.ble 228 m then (bif Nat.ble 229 m then lp_c229 else lp_c228) else lp_c227) else (bif Nat.ble 226 m then lp_c226 else lp_c225)) else (bif Nat.ble 223 m then (bif Nat.ble 224 m then lp_c224 else lp_c223) else (bif Nat.ble 222 m then lp_c222 else lp_c221)))))) else (bif Nat.ble 184 m then (bif Nat.ble 202 m then (bif Nat.ble 211 m then (bif Nat.ble 216 m then (bif Nat.ble 218 m then (bif Nat.ble 219 m then (bif Nat.ble 220 m then lp_c220 else lp_c219) else lp_c218) else (bif Nat.ble 217 m then lp_c217 else lp_c216)) else (bif Nat.ble 213 m then (bif Nat.ble 214 m then (bif Nat.ble 215 m then lp_c215 else lp_c214) else lp_c213) else (bif Nat.ble 212 m then lp_c212 else lp_c211))) else (bif Nat.ble 206 m then (bif Nat.ble 208 m then (bif Nat.ble 209 m then (bif Nat.ble 210 m then lp_c210 else lp_c209) else lp_c208) else (bif Nat.ble 207 m then lp_c207 else lp_c206)) else (bif Nat.ble 204 m then (bif Nat.ble 205 m then lp_c205 else lp_c204) else (bif Nat.ble 203 m then lp_c203 else lp_c202)))) else (bif Nat.ble 193 m then (bif Nat.ble 197 m then (bif Nat.ble 199 m then (bif Nat.ble 200 m then (bif Nat.ble 201 m then lp_c201 else lp_c200) else lp_c199) else (bif Nat.ble 198 m then lp_c198 else lp_c197)) else (bif Nat.ble 195 m then (bif Nat.ble 196 m then lp_c196 else lp_c195) else (bif Nat.ble 194 m then lp_c194 else lp_c193))) else (bif Nat.ble 188 m then (bif Nat.ble 190 m then (bif Nat.ble 191 m then (bif Nat.ble 192 m then lp_c192 else lp_c191) else lp_c190) else (bif Nat.ble 189 m then lp_c189 else lp_c188)) else (bif Nat.ble 186 m then (bif Nat.ble 187 m then lp_c187 else lp_c186) else (bif Nat.ble 185 m then lp_c185 else lp_c184))))) else (bif Nat.ble 165 m then (bif Nat.ble 174 m then (bif Nat.ble 179 m then (bif Nat.ble 181 m then (bif Nat.ble 182 m then (bif Nat.ble 183 m then lp_c183 else lp_c182) else lp_c181) else (bif Nat.ble 180 m then lp_c180 else lp_c179)) else (bif Nat.ble 176 m then (bif Nat.ble 177 m then (bif Nat.ble 178 m then lp_c178 else lp_c177) else lp_c176) else (bif Nat.ble 175 m then lp_c175 else lp_c174))) else (bif Nat.ble 169 m then (bif Nat.ble 171 m then (bif Nat.ble 172 m then (bif Nat.ble 173 m then lp_c173 else lp_c172) else lp_c171) else (bif Nat.ble 170 m then lp_c170 else lp_c169)) else (bif Nat.ble 167 m then (bif Nat.ble 168 m then lp_c168 else lp_c167) else (bif Nat.ble 166 m then lp_c166 else lp_c165)))) else (bif Nat.ble 156 m then (bif Nat.ble 160 m then (bif Nat.ble 162 m then (bif Nat.ble 163 m then (bif Nat.ble 164 m then lp_c164 else lp_c163) else lp_c162) else (bif Nat.ble 161 m then lp_c161 else lp_c160)) else (bif Nat.ble 158 m then (bif Nat.ble 159 m then lp_c159 else lp_c158) else (bif Nat.ble 157 m then lp_c157 else lp_c156))) else (bif Nat.ble 151 m then (bif Nat.ble 153 m then (bif Nat.ble 154 m then (bif Nat.ble 155 m then lp_c155 else lp_c154) else lp_c153) else (bif Nat.ble 152 m then lp_c152 else lp_c151)) else (bif Nat.ble 149 m then (bif Nat.ble 150 m then lp_c150 else lp_c149) else (bif Nat.ble 148 m then lp_c148 else lp_c147))))))) else (bif Nat.ble 73 m then (bif Nat.ble 110 m then (bif Nat.ble 128 m then (bif Nat.ble 137 m then (bif Nat.ble 142 m then (bif Nat.ble 144 m then (bif Nat.ble 145 m then (bif Nat.ble 146 m then lp_c146 else lp_c145) else lp_c144) else (bif Nat.ble 143 m then lp_c143 else lp_c142)) else (bif Nat.ble 139 m then (bif Nat.ble 140 m then (bif Nat.ble 141 m then lp_c141 else lp_c140) else lp_c139) else (bif Nat.ble 138 m then lp_c138 else lp_c137))) else (bif Nat.ble 132 m then (bif Nat.ble 134 m then (bif Nat.ble 135 m then (bif Nat.ble 136 m then lp_c136 else lp_c135) else lp_c134) else (bif Nat.ble 133 m then lp_c133 else lp_c132)) else (bif Nat.ble 130 m then (bif Nat.ble 131 m then lp_c131 else lp_c130) else (bif Nat.ble 129 m then lp_c129 else lp_c128)))) else (bif Nat.ble 119 m then (bif Nat.ble 123 m then (bif Nat.ble 125 m then (bif Nat.ble 126 m then (bif Nat.ble 127 m then lp_c127 else lp_c126) else lp_c125) else (bif Nat.ble 124 m then lp_c124 else lp_c123)) else (bif Nat.ble 121 m then (bif Nat.ble 122 m then lp_c122 else lp_c121) else (bif Nat.ble 120 m then lp_c120 else lp_c119))) else (bif Nat.ble 114 m then (bif Nat.ble 116 m then (bif Nat.ble 117 m then (bif Nat.ble 118 m then lp_c118 else lp_c117) else lp_c116) else (bif Nat.ble 115 m then lp_c115 else lp_c114)) else (bif Nat.ble 112 m then (bif Nat.ble 113 m then lp_c113 else lp_c112) else (bif Nat.ble 111 m then lp_c111 else lp_c110))))) else (bif Nat.ble 91 m then (bif Nat.ble 100 m then (bif Nat.ble 105 m then (bif Nat.ble 107 m then (bif Nat.ble 108 m then (bif Nat.ble 109 m then lp_c109 else lp_c108) else lp_c107) else (bif Nat.ble 106 m then lp_c106 else lp_c105)) else (bif Nat.ble 102 m then (bif Nat.ble 103 m then (bif Nat.ble 104 m then lp_c104 else lp_c103) else lp_c102) else (bif Nat.ble 101 m then lp_c101 else lp_c100))) else (bif Nat.ble 95 m then (bif Nat.ble 97 m then (bif Nat.ble 98 m then (bif Nat.ble 99 m then lp_c99 else lp_c98) else lp_c97) else (bif Nat.ble 96 m then lp_c96 else lp_c95)) else (bif Nat.ble 93 m then (bif Nat.ble 94 m then lp_c94 else lp_c93) else (bif Nat.ble 92 m then lp_c92 else lp_c91)))) else (bif Nat.ble 82 m then (bif Nat.ble 86 m then (bif Nat.ble 88 m then (bif Nat.ble 89 m then (bif Nat.ble 90 m then lp_c90 else lp_c89) else lp_c88) else (bif Nat.ble 87 m then lp_c87 else lp_c86)) else (bif Nat.ble 84 m then (bif Nat.ble 85 m then lp_c85 else lp_c84) else (bif Nat.ble 83 m then lp_c83 else lp_c82))) else (bif Nat.ble 77 m then (bif Nat.ble 79 m then (bif Nat.ble 80 m then (bif Nat.ble 81 m then lp_c81 else lp_c80) else lp_c79) else (bif Nat.ble 78 m then lp_c78 else lp_c77)) else (bif Nat.ble 75 m then (bif Nat.ble 76 m then lp_c76 else lp_c75) else (bif Nat.ble 74 m then lp_c74 else lp_c73)))))) else (bif Nat.ble 36 m then (bif Nat.ble 54 m then (bif Nat.ble 63 m then (bif Nat.ble 68 m then (bif Nat.ble 70 m then (bif Nat.ble 71 m then (bif Nat.ble 72 m then lp_c72 else lp_c71) else lp_c70) else (bif Nat.ble 69 m then lp_c69 else lp_c68)) else (bif Nat.ble 65 m then (bif Nat.ble 66 m then (bif Nat.ble 67 m then lp_c67 else lp_c66) else lp_c65) else (bif Nat.ble 64 m then lp_c64 else lp_c63))) else (bif Nat.ble 58 m then (bif Nat.ble 60 m then (bif Nat.ble 61 m then (bif Nat.ble 62 m then lp_c62 else lp_c61) else lp_c60) else (bif Nat.ble 59 m then lp_c59 else lp_c58)) else (bif Nat.ble 56 m then (bif Nat.ble 57 m then lp_c57 else lp_c56) else (bif Nat.ble 55 m then lp_c55 else lp_c54)))) else (bif Nat.ble 45 m then (bif Nat.ble 49 m then (bif Nat.ble 51 m then (bif Nat.ble 52 m then (bif Nat.ble 53 m then lp_c53 else lp_c52) else lp_c51) else (bif Nat.ble 50 m then lp_c50 else lp_c49)) else (bif Nat.ble 47 m then (bif Nat.ble 48 m then lp_c48 else lp_c47) else (bif Nat.ble 46 m then lp_c46 else lp_c45))) else (bif Nat.ble 40 m then (bif Nat.ble 42 m then (bif Nat.ble 43 m then (bif Nat.ble 44 m then lp_c44 else lp_c43) else lp_c42) else (bif Nat.ble 41 m then lp_c41 else lp_c40)) else (bif Nat.ble 38 m then (bif Nat.ble 39 m then lp_c39 else lp_c38) else (bif Nat.ble 37 m then lp_c37 else lp_c36))))) else (bif Nat.ble 18 m then (bif Nat.ble 27 m then (bif Nat.ble 31 m then (bif Nat.ble 33 m then (bif Nat.ble 34 m then (bif Nat.ble 35 m then lp_c35 else lp_c34) else lp_c33) else (bif Nat.ble 32 m then lp_c32 else lp_c31)) else (bif Nat.ble 29 m then (bif Nat.ble 30 m then lp_c30 else lp_c29) else (bif Nat.ble 28 m then lp_c28 else lp_c27))) else (bif Nat.ble 22 m then (bif Nat.ble 24 m then (bif Nat.ble 25 m then (bif Nat.ble 26 m then lp_c26 else lp_c25) else lp_c24) else (bif Nat.ble 23 m then lp_c23 else lp_c22)) else (bif Nat.ble 20 m then (bif Nat.ble 21 m then lp_c21 else lp_c20) else (bif Nat.ble 19 m then lp_c19 else lp_c18)))) else (bif Nat.ble 9 m then (bif Nat.ble 13 m then (bif Nat.ble 15 m then (bif Nat.ble 16 m then (bif Nat.ble 17 m then lp_c17 else lp_c16) else lp_c15) else (bif Nat.ble 14 m then lp_c14 else lp_c13)) else (bif Nat.ble 11 m then (bif Nat.ble 12 m then lp_c12 else lp_c11) else (bif Nat.ble 10 m then lp_c10 else lp_c9))) else (bif Nat.ble 4 m then (bif Nat.ble 6 m then (bif Nat.ble 7 m then (bif Nat.ble 8 m then lp_c8 else lp_c7) else lp_c6) else (bif Nat.ble 5 m then lp_c5 else lp_c4)) else (bif Nat.ble 2 m then (bif Nat.ble 3 m then lp_c3 else lp_c2) else (bif Nat.ble 1 m then lp_c1 else lp_c0))))))))
end
section
/-! ===== names, words of the tables by their places, and what of the code tables is to be checked (printed by wip/whole/gen_facts.py) ===== -/
def lp_tb : List (List Jvm.Cond) := [tables_1_1, tables_1_2, tables_1_3, tables_1_4, tables_1_5, tables_1_6, tables_1_7]
def lp_wd (p : Nat) : Option Jvm.Cond := (lp_tb.getD (p / 1000) [])[p % 1000]?
theorem lp_wd_in {p : Nat} {w : Jvm.Cond} (h : lp_wd p = some w) : w ∈ tables_1 := by
  have h1 : w ∈ lp_tb.getD (p / 1000) [] := List.mem_of_getElem? h
  have h2 : ∀ i, lp_tb.getD i [] = [] ∨ lp_tb.getD i [] ∈ lp_tb := by
    intro i
    rw [List.getD_eq_getElem?_getD]
    cases hq : lp_tb[i]? with
    | none => exact Or.inl rfl
    | some x => exact Or.inr (List.mem_of_getElem? hq)
  rcases h2 (p / 1000) with e | e
  · rw [e] at h1; cases h1
  · generalize lp_tb.getD (p / 1000) [] = q at h1 e
    simp only [lp_tb, List.mem_cons, List.not_mem_nil, or_false] at e
    simp only [tables_1, List.mem_append]
    rcases e with e | e | e | e | e | e | e <;> rw [e] at h1 <;> simp [h1]
theorem lp_wd_tbl {p : Nat} {w : Jvm.Cond} (h : lp_wd p = some w) : w ∈ lw_tbl := List.mem_append_right _ (lp_wd_in h)
def lp_cn (c : Nat) : String := (bif Nat.ble 10 c then (bif Nat.ble 15 c then (bif Nat.ble 17 c then (bif Nat.ble 18 c then (bif Nat.ble 19 c then "LampPressesLaw" else "jdk/internal/util/Preconditions") else "java/util/Arrays") else (bif Nat.ble 16 c then "java/lang/System" else "java/lang/StringUTF16")) else (bif Nat.ble 12 c then (bif Nat.ble 13 c then (bif Nat.ble 14 c then "java/lang/StringLatin1" else "java/lang/String") else "java/lang/Math") else (bif Nat.ble 11 c then "java/lang/Integer" else "LampPressesModel"))) else (bif Nat.ble 5 c then (bif Nat.ble 7 c then (bif Nat.ble 8 c then (bif Nat.ble 9 c then "LampPresses" else "LampPresses$Tape") else "LampPresses$Solver") else (bif Nat.ble 6 c then "LampPresses$Search" else "LampPresses$Reader")) else (bif Nat.ble 2 c then (bif Nat.ble 3 c then (bif Nat.ble 4 c then "LampPresses$Past" else "LampPresses$Net") else "LampPresses$Line") else (bif Nat.ble 1 c then "LampPresses$Levels" else "LampPresses$Book"))))
def lp_T0 : u_T := fun k => match k with
  | 0 => ("LampPresses$Book", "size", "I", false)
  | 1 => ("LampPresses$Book", "lampOf", "[I", true)
  | _ => ("LampPresses$Book", "timesOf", "[I", true)
def lp_T1 : u_T := fun k => match k with
  | 0 => ("LampPresses$Levels", "known", "Z", false)
  | 1 => ("LampPresses$Levels", "farKnown", "Z", false)
  | 2 => ("LampPresses$Levels", "deepest", "I", false)
  | 3 => ("LampPresses$Levels", "counts", "[I", true)
  | 4 => ("LampPresses$Levels", "far", "[I", true)
  | 5 => ("LampPresses$Levels", "turning", "[I", true)
  | 6 => ("LampPresses$Levels", "turningSize", "I", false)
  | 7 => ("LampPresses$Levels", "steadySize", "I", false)
  | 8 => ("LampPresses$Levels", "first", "[I", true)
  | 9 => ("LampPresses$Levels", "way", "[I", true)
  | _ => ("LampPresses$Levels", "search", "LLampPresses$Search;", true)
def lp_T2 : u_T := fun k => match k with
  | 0 => ("LampPresses$Line", "known", "Z", false)
  | 1 => ("LampPresses$Line", "length", "I", false)
  | _ => ("LampPresses$Line", "bytes", "[B", true)
def lp_T3 : u_T := fun k => match k with
  | 0 => ("LampPresses$Net", "states", "I", false)
  | 1 => ("LampPresses$Net", "lamps", "I", false)
  | 2 => ("LampPresses$Net", "pressed", "I", false)
  | 3 => ("LampPresses$Net", "shows", "[I", true)
  | 4 => ("LampPresses$Net", "goals", "[I", true)
  | 5 => ("LampPresses$Net", "steps", "[[I", true)
  | _ => ("LampPresses$Net", "entries", "LLampPresses$Book;", true)
def lp_T4 : u_T := fun k => match k with
  | 0 => ("LampPresses$Past", "size", "I", false)
  | 1 => ("LampPresses$Past", "next", "I", false)
  | _ => ("LampPresses$Past", "kept", "[LLampPresses$Net;", true)
def lp_T5 : u_T := fun k => match k with
  | 0 => ("LampPresses$Reader", "draft", "LLampPresses$Net;", true)
  | 1 => ("LampPresses$Reader", "tape", "LLampPresses$Tape;", true)
  | 2 => ("LampPresses$Reader", "kind", "I", false)
  | 3 => ("LampPresses$Reader", "start", "I", false)
  | _ => ("LampPresses$Reader", "end", "I", false)
def lp_T6 : u_T := fun k => match k with
  | 0 => ("LampPresses$Search", "known", "Z", false)
  | 1 => ("LampPresses$Search", "best", "I", false)
  | 2 => ("LampPresses$Search", "found", "[I", true)
  | 3 => ("LampPresses$Search", "tried", "[I", true)
  | _ => ("LampPresses$Search", "byLamps", "Z", true)
def lp_T7 : u_T := fun k => match k with
  | 0 => ("LampPresses$Solver", "known", "Z", false)
  | 1 => ("LampPresses$Solver", "rank", "I", false)
  | 2 => ("LampPresses$Solver", "free", "I", false)
  | 3 => ("LampPresses$Solver", "states", "I", false)
  | 4 => ("LampPresses$Solver", "size", "I", false)
  | 5 => ("LampPresses$Solver", "left", "[[I", true)
  | 6 => ("LampPresses$Solver", "made", "[[I", true)
  | 7 => ("LampPresses$Solver", "rowOf", "[I", true)
  | 8 => ("LampPresses$Solver", "turned", "[I", true)
  | 9 => ("LampPresses$Solver", "chosen", "[I", true)
  | _ => ("LampPresses$Solver", "bases", "[[I", true)
def lp_T8 : u_T := fun k => match k with
  | 0 => ("LampPresses$Tape", "length", "I", false)
  | _ => ("LampPresses$Tape", "bytes", "[B", true)
def lp_T9 : u_T := fun k => match k with
  | 0 => ("LampPresses", "net", "LLampPresses$Net;", true)
  | 1 => ("LampPresses", "past", "LLampPresses$Past;", true)
  | 2 => ("LampPresses", "tape", "LLampPresses$Tape;", true)
  | 3 => ("LampPresses", "reader", "LLampPresses$Reader;", true)
  | 4 => ("LampPresses", "solver", "LLampPresses$Solver;", true)
  | 5 => ("LampPresses", "trial", "LLampPresses$Solver;", true)
  | 6 => ("LampPresses", "fewestRow", "LLampPresses$Search;", true)
  | 7 => ("LampPresses", "sparestRow", "LLampPresses$Search;", true)
  | 8 => ("LampPresses", "levelRow", "LLampPresses$Search;", true)
  | 9 => ("LampPresses", "levels", "LLampPresses$Levels;", true)
  | 10 => ("LampPresses", "spelled", "LLampPresses$Line;", true)
  | 11 => ("LampPresses", "reported", "LLampPresses$Line;", true)
  | 12 => ("LampPresses", "change", "[I", true)
  | 13 => ("LampPresses", "row", "[I", true)
  | 14 => ("LampPresses", "firstPlan", "[I", true)
  | 15 => ("LampPresses", "hasPlan", "Z", false)
  | _ => ("LampPresses", "planKnown", "Z", false)
def lp_T10 : u_T := fun k => match k with
  | 0 => ("LampPressesModel", "thrown", "I", false)
  | 1 => ("LampPressesModel", "now", "[I", true)
  | 2 => ("LampPressesModel", "read", "[I", true)
  | 3 => ("LampPressesModel", "then", "[I", true)
  | 4 => ("LampPressesModel", "before", "[I", true)
  | 5 => ("LampPressesModel", "acts", "I", false)
  | 6 => ("LampPressesModel", "who", "[I", true)
  | 7 => ("LampPressesModel", "span", "[I", true)
  | 8 => ("LampPressesModel", "isBegun", "[Z", true)
  | 9 => ("LampPressesModel", "spanRank", "[I", true)
  | 10 => ("LampPressesModel", "vector", "[I", true)
  | 11 => ("LampPressesModel", "wanted", "[I", true)
  | 12 => ("LampPressesModel", "rowNow", "[I", true)
  | 13 => ("LampPressesModel", "bases", "[I", true)
  | 14 => ("LampPressesModel", "chosen", "[I", true)
  | 15 => ("LampPressesModel", "baseRow", "[I", true)
  | 16 => ("LampPressesModel", "baseMany", "I", false)
  | 17 => ("LampPressesModel", "bestRow", "[I", true)
  | 18 => ("LampPressesModel", "tryRow", "[I", true)
  | 19 => ("LampPressesModel", "timesOf", "[I", true)
  | 20 => ("LampPressesModel", "bestCost", "I", false)
  | 21 => ("LampPressesModel", "farOf", "[I", true)
  | 22 => ("LampPressesModel", "shownRow", "[I", true)
  | 23 => ("LampPressesModel", "levels", "[I", true)
  | 24 => ("LampPressesModel", "queue", "[I", true)
  | 25 => ("LampPressesModel", "queued", "I", false)
  | 26 => ("LampPressesModel", "laidBy", "[I", true)
  | 27 => ("LampPressesModel", "text", "[I", true)
  | 28 => ("LampPressesModel", "textMany", "I", false)
  | 29 => ("LampPressesModel", "tape", "[I", true)
  | 30 => ("LampPressesModel", "taped", "I", false)
  | 31 => ("LampPressesModel", "words", "[B", true)
  | 32 => ("LampPressesModel", "spot", "I", false)
  | 33 => ("LampPressesModel", "token", "I", false)
  | 34 => ("LampPressesModel", "begun", "I", false)
  | 35 => ("LampPressesModel", "number", "I", false)
  | _ => ("LampPressesModel", "wrong", "Z", false)
def lp_T (c : Nat) : u_T := (bif Nat.ble 5 c then (bif Nat.ble 8 c then (bif Nat.ble 9 c then (bif Nat.ble 10 c then lp_T10 else lp_T9) else lp_T8) else (bif Nat.ble 6 c then (bif Nat.ble 7 c then lp_T7 else lp_T6) else lp_T5)) else (bif Nat.ble 2 c then (bif Nat.ble 3 c then (bif Nat.ble 4 c then lp_T4 else lp_T3) else lp_T2) else (bif Nat.ble 1 c then lp_T1 else lp_T0)))
def lp_nf (c : Nat) : Nat := (bif Nat.ble 5 c then (bif Nat.ble 8 c then (bif Nat.ble 9 c then (bif Nat.ble 10 c then 37 else 17) else 2) else (bif Nat.ble 6 c then (bif Nat.ble 7 c then 11 else 5) else 5)) else (bif Nat.ble 2 c then (bif Nat.ble 3 c then (bif Nat.ble 4 c then 3 else 7) else 3) else (bif Nat.ble 1 c then 11 else 3)))
/-- whether a place of an object holds a reference -/
def lp_isR (c j : Nat) : Bool := ((bif Nat.ble 5 c then (bif Nat.ble 8 c then (bif Nat.ble 9 c then (bif Nat.ble 10 c then [false, true, true, true, true, false, true, true, true, true, true, true, true, true, true, true, false, true, true, true, false, true, true, true, true, false, true, true, false, true, false, true, false, false, false, false, false] else [true, true, true, true, true, true, true, true, true, true, true, true, true, true, true, false, false]) else [false, true]) else (bif Nat.ble 6 c then (bif Nat.ble 7 c then [false, false, false, false, false, true, true, true, true, true, true] else [false, false, true, true, false]) else [true, true, false, false, false])) else (bif Nat.ble 2 c then (bif Nat.ble 3 c then (bif Nat.ble 4 c then [false, false, true] else [false, false, false, true, true, true, true]) else [false, false, true]) else (bif Nat.ble 1 c then [false, false, false, true, true, true, false, false, true, true, true] else [false, true, true]))) : List Bool).getD j false
def lp_cl : List vw_C := [(lp_cn 0, lp_T 0, lp_nf 0), (lp_cn 1, lp_T 1, lp_nf 1), (lp_cn 2, lp_T 2, lp_nf 2), (lp_cn 3, lp_T 3, lp_nf 3), (lp_cn 4, lp_T 4, lp_nf 4), (lp_cn 5, lp_T 5, lp_nf 5), (lp_cn 6, lp_T 6, lp_nf 6), (lp_cn 7, lp_T 7, lp_nf 7), (lp_cn 8, lp_T 8, lp_nf 8), (lp_cn 9, lp_T 9, lp_nf 9), (lp_cn 10, lp_T 10, lp_nf 10)]
def lp_lp (c j : Nat) : Nat := ((bif Nat.ble 5 c then (bif Nat.ble 8 c then (bif Nat.ble 9 c then (bif Nat.ble 10 c then [4140, 4142, 4144, 4146, 4148, 4150, 4152, 4154, 4156, 4158, 4160, 4162, 4164, 4166, 4168, 4170, 4172, 4174, 4176, 4178, 4180, 4182, 4184, 4186, 4188, 4190, 4192, 4194, 4196, 4198, 4200, 4202, 4204, 4206, 4208, 4210, 4212] else [1071, 1073, 1075, 1077, 1079, 1081, 1083, 1085, 1087, 1089, 1091, 1093, 1095, 1097, 1099, 1101, 1103]) else [124, 126]) else (bif Nat.ble 6 c then (bif Nat.ble 7 c then [181, 183, 185, 187, 189, 191, 193, 195, 197, 199, 201] else [218, 220, 222, 224, 226]) else [144, 146, 148, 150, 152])) else (bif Nat.ble 2 c then (bif Nat.ble 3 c then (bif Nat.ble 4 c then [106, 108, 110] else [78, 80, 82, 84, 86, 88, 90]) else [1047, 1049, 1051]) else (bif Nat.ble 1 c then [1011, 1013, 1015, 1017, 1019, 1021, 1023, 1025, 1027, 1029, 1031] else [47, 49, 51]))) : List Nat).getD j 0
theorem lp_lay_ok : ∀ c, c < 11 → ∀ k, k < lp_nf c → lp_wd (lp_lp c k) = some (u_lay (lp_cn c) (lp_T c) k) := by decide +kernel
theorem lp_hin : ∀ c, c < 11 → ∀ w ∈ u_ws (lp_cn c) (lp_T c) (lp_nf c), w ∈ lw_tbl := fun c hc w hw => by
  obtain ⟨k, hk, rfl⟩ := List.mem_map.mp hw
  exact lp_wd_tbl (lp_lay_ok c hc k (List.mem_range.mp hk))
def lp_ty (c k : Nat) : FieldType := (parseFieldDescriptor (lp_T c k).2.2.1).getD .int
theorem lp_hty : ∀ c, c < 11 → ∀ k, k < lp_nf c → parseFieldDescriptor (lp_T c k).2.2.1 = some (lp_ty c k) := by decide +kernel
theorem lp_hnm : ∀ c, c < 11 → ∀ a, a < lp_nf c → ∀ b, b < lp_nf c → a ≠ b → (lp_T c a).2.1 ≠ (lp_T c b).2.1 := by decide +kernel
theorem lp_hdc : ∀ c, c < 11 → ∀ k, k < lp_nf c → (lp_T c k).1 = lp_cn c := by decide +kernel
theorem lp_hcl : ∀ c, c < 11 → lp_cl[c]? = some (lp_cn c, lp_T c, lp_nf c) := by
  intro c hc
  have h : c = 0 ∨ c = 1 ∨ c = 2 ∨ c = 3 ∨ c = 4 ∨ c = 5 ∨ c = 6 ∨ c = 7 ∨ c = 8 ∨ c = 9 ∨ c = 10 := by omega
  rcases h with rfl | rfl | rfl | rfl | rfl | rfl | rfl | rfl | rfl | rfl | rfl <;> rfl
def lp_ip (c : Nat) : Nat := ([3, 9, 10, 2, 4, 6, 8, 7, 5, 1, 12, 19, 11, 13, 14, 16, 17, 18, 15, 0] : List Nat).getD c 0
theorem lp_ini_ok : ∀ c, c < 20 → lp_wd (lp_ip c) = some (.initialized (lp_cn c)) := by decide +kernel
def lp_np (c : Nat) : Nat := ([37, 230, 1035, 29, 94, 131, 205, 156, 114, 21, 4095] : List Nat).getD c 0
theorem lp_new_ok : ∀ c, c < 11 → lp_wd (lp_np c) = some (.instantiable (lp_cn c) (lp_nf c)) := by decide +kernel
def lp_ow (m : Nat) : Nat := (bif Nat.ble 77 m then (bif Nat.ble 290 m then (bif Nat.ble 292 m then (bif Nat.ble 293 m then (bif Nat.ble 294 m then 0 else 19) else 18) else (bif Nat.ble 291 m then 17 else 14)) else (bif Nat.ble 282 m then (bif Nat.ble 283 m then (bif Nat.ble 285 m then 13 else 12) else 11) else (bif Nat.ble 162 m then 10 else 9))) else (bif Nat.ble 36 m then (bif Nat.ble 54 m then (bif Nat.ble 58 m then (bif Nat.ble 75 m then 8 else 7) else 6) else (bif Nat.ble 39 m then 5 else 4)) else (bif Nat.ble 11 m then (bif Nat.ble 17 m then 3 else 2) else (bif Nat.ble 4 m then 1 else 0))))
def lp_nd (m : Nat) : String × String := (bif Nat.ble 147 m then (bif Nat.ble 220 m then (bif Nat.ble 257 m then (bif Nat.ble 275 m then (bif Nat.ble 284 m then (bif Nat.ble 289 m then (bif Nat.ble 291 m then (bif Nat.ble 292 m then (bif Nat.ble 293 m then ("law", "([I)Z") else ("checkIndex", "(IILjava/util/function/BiFunction;)I")) else ("fill", "([II)V")) else (bif Nat.ble 290 m then ("charAt", "([BI)C") else ("checkIndex", "(II)V"))) else (bif Nat.ble 286 m then (bif Nat.ble 287 m then (bif Nat.ble 288 m then ("isLatin1", "()Z") else ("coder", "()B")) else ("charAt", "(I)C")) else (bif Nat.ble 285 m then ("length", "()I") else ("min", "(II)I")))) else (bif Nat.ble 279 m then (bif Nat.ble 281 m then (bif Nat.ble 282 m then (bif Nat.ble 283 m then ("max", "(II)I") else ("bitCount", "(I)I")) else ("text", "()I")) else (bif Nat.ble 280 m then ("readsOne", "(Z)V") else ("readsWire", "()V"))) else (bif Nat.ble 277 m then (bif Nat.ble 278 m then ("readsLamp", "(I)V") else ("readsStates", "()V")) else (bif Nat.ble 276 m then ("needsNumber", "(II)I") else ("takesWord", "(I)Z"))))) else (bif Nat.ble 266 m then (bif Nat.ble 270 m then (bif Nat.ble 272 m then (bif Nat.ble 273 m then (bif Nat.ble 274 m then ("goesOn", "()V") else ("here", "()I")) else ("wordFrom", "(I)I")) else (bif Nat.ble 271 m then ("back", "(I)I") else ("feed", "(IIIII)I"))) else (bif Nat.ble 268 m then (bif Nat.ble 269 m then ("count", "(I)I") else ("litMany", "()I")) else (bif Nat.ble 267 m then ("report", "(I)I") else ("spell", "(I)I")))) else (bif Nat.ble 261 m then (bif Nat.ble 263 m then (bif Nat.ble 264 m then (bif Nat.ble 265 m then ("writesWire", "(II)V") else ("writesLamp", "(I)V")) else ("toldText", "(I)I")) else (bif Nat.ble 262 m then ("writesNumber", "(I)V") else ("writesWord", "(I)V"))) else (bif Nat.ble 259 m then (bif Nat.ble 260 m then ("writes", "(I)V") else ("even", "()I")) else (bif Nat.ble 258 m then ("mend", "()I") else ("without", "(I)I")))))) else (bif Nat.ble 238 m then (bif Nat.ble 247 m then (bif Nat.ble 252 m then (bif Nat.ble 254 m then (bif Nat.ble 255 m then (bif Nat.ble 256 m then ("byWire", "(III)I") else ("byOwn", "(II)I")) else ("far", "(I)I")) else (bif Nat.ble 253 m then ("levelOf", "(I)I") else ("level", "(I)I"))) else (bif Nat.ble 249 m then (bif Nat.ble 250 m then (bif Nat.ble 251 m then ("deepest", "()I") else ("laysLevels", "()V")) else ("behind", "(II)I")) else (bif Nat.ble 248 m then ("digitOf", "(II)I") else ("wayNow", "()I")))) else (bif Nat.ble 242 m then (bif Nat.ble 244 m then (bif Nat.ble 245 m then (bif Nat.ble 246 m then ("isLeveled", "()Z") else ("book", "(II)I")) else ("hub", "()I")) else (bif Nat.ble 243 m then ("ways", "()I") else ("cycle", "(I)I"))) else (bif Nat.ble 240 m then (bif Nat.ble 241 m then ("after", "(II)I") else ("greedy", "(I)I")) else (bif Nat.ble 239 m then ("offBehind", "(I)I") else ("only", "(I)I"))))) else (bif Nat.ble 229 m then (bif Nat.ble 233 m then (bif Nat.ble 235 m then (bif Nat.ble 236 m then (bif Nat.ble 237 m then ("part", "(I)I") else ("areLamps", "(I)Z")) else ("same", "(II)I")) else (bif Nat.ble 234 m then ("distance", "(II)I") else ("parts", "()I"))) else (bif Nat.ble 231 m then (bif Nat.ble 232 m then ("laysFar", "(I)V") else ("off", "()I")) else (bif Nat.ble 230 m then ("offNow", "()I") else ("hardest", "()I")))) else (bif Nat.ble 224 m then (bif Nat.ble 226 m then (bif Nat.ble 227 m then (bif Nat.ble 228 m then ("alones", "()I") else ("alone", "(I)I")) else ("aloneOf", "(I)I")) else (bif Nat.ble 225 m then ("fixed", "(I)I") else ("sparest", "(I)I"))) else (bif Nat.ble 222 m then (bif Nat.ble 223 m then ("fewest", "(I)I") else ("bestOf", "(IZ)I")) else (bif Nat.ble 221 m then ("looksBest", "(Z)I") else ("isAhead", "([I[I)Z"))))))) else (bif Nat.ble 183 m then (bif Nat.ble 201 m then (bif Nat.ble 210 m then (bif Nat.ble 215 m then (bif Nat.ble 217 m then (bif Nat.ble 218 m then (bif Nat.ble 219 m then ("pressedLamps", "([I)I") else ("plan", "(I)I")) else ("plans", "()I")) else (bif Nat.ble 216 m then ("planMany", "()I") else ("base", "(II)I"))) else (bif Nat.ble 212 m then (bif Nat.ble 213 m then (bif Nat.ble 214 m then ("quiet", "()I") else ("rank", "()I")) else ("rankNow", "()I")) else (bif Nat.ble 211 m then ("weight", "(II)I") else ("of", "(II)I")))) else (bif Nat.ble 205 m then (bif Nat.ble 207 m then (bif Nat.ble 208 m then (bif Nat.ble 209 m then ("laysBases", "()V") else ("sumOf", "([I)I")) else ("findsPlan", "([I)Z")) else (bif Nat.ble 206 m then ("rowFrom", "(I[I)V") else ("wantsLess", "(II)V"))) else (bif Nat.ble 203 m then (bif Nat.ble 204 m then ("isReached", "(I)Z") else ("wantsGoals", "()V")) else (bif Nat.ble 202 m then ("power", "(I)I") else ("allLamps", "()I"))))) else (bif Nat.ble 192 m then (bif Nat.ble 196 m then (bif Nat.ble 198 m then (bif Nat.ble 199 m then (bif Nat.ble 200 m then ("joins", "(I)V") else ("spans", "(II)V")) else ("inverse", "(I)I")) else (bif Nat.ble 197 m then ("fallsIn", "(I)Z") else ("spanAt", "(II)I"))) else (bif Nat.ble 194 m then (bif Nat.ble 195 m then ("undo", "()I") else ("scale", "(I)I")) else (bif Nat.ble 193 m then ("wireMany", "()I") else ("lift", "(I)I")))) else (bif Nat.ble 187 m then (bif Nat.ble 189 m then (bif Nat.ble 190 m then (bif Nat.ble 191 m then ("isWired", "(IIIII)Z") else ("lay", "(III)I")) else ("solve", "()I")) else (bif Nat.ble 188 m then ("aim", "()I") else ("press", "(II)I"))) else (bif Nat.ble 185 m then (bif Nat.ble 186 m then ("presses", "(II)V") else ("stepOf", "(II)I")) else (bif Nat.ble 184 m then ("show", "(II)I") else ("goal", "(II)I")))))) else (bif Nat.ble 165 m then (bif Nat.ble 174 m then (bif Nat.ble 178 m then (bif Nat.ble 180 m then (bif Nat.ble 181 m then (bif Nat.ble 182 m then ("own", "(II)I") else ("sets", "(III)I")) else ("wire", "(III)I")) else (bif Nat.ble 179 m then ("wires", "([IIII)V") else ("mirror", "()I"))) else (bif Nat.ble 176 m then (bif Nat.ble 177 m then ("swap", "(II)Z") else ("drop", "(I)Z")) else (bif Nat.ble 175 m then ("stands", "([II)V") else ("lamp", "(I)I")))) else (bif Nat.ble 169 m then (bif Nat.ble 171 m then (bif Nat.ble 172 m then (bif Nat.ble 173 m then ("adds", "([II)V") else ("wireAt", "(II)I")) else ("isState", "(I)Z")) else (bif Nat.ble 170 m then ("isLamp", "(I)Z") else ("many", "()I"))) else (bif Nat.ble 167 m then (bif Nat.ble 168 m then ("m", "()I") else ("keeps", "()V")) else (bif Nat.ble 166 m then ("copies", "([I[I)V") else ("starts", "([I)V"))))) else (bif Nat.ble 156 m then (bif Nat.ble 160 m then (bif Nat.ble 162 m then (bif Nat.ble 163 m then (bif Nat.ble 164 m then ("has", "(II)Z") else ("in", "(III)Z")) else ("<init>", "()V")) else (bif Nat.ble 161 m then ("sum", "([II)I") else ("power", "(II)I"))) else (bif Nat.ble 158 m then (bif Nat.ble 159 m then ("mod", "(II)I") else ("areJoined", "(IIIII)Z")) else (bif Nat.ble 157 m then ("isLayout", "(III)Z") else ("writeFewest", "()V")))) else (bif Nat.ble 151 m then (bif Nat.ble 153 m then (bif Nat.ble 154 m then (bif Nat.ble 155 m then ("writeWire", "(II)V") else ("writeLamp", "(I)V")) else ("writeNet", "()V")) else (bif Nat.ble 152 m then ("plansWith", "(III)I") else ("greediest", "(I)I"))) else (bif Nat.ble 149 m then (bif Nat.ble 150 m then ("reachedFrom", "(I)I") else ("pressesForOne", "(I)I")) else (bif Nat.ble 148 m then ("bestPlan", "(LLampPresses$Search;I)I") else ("setChangeToGoals", "()V")))))))) else (bif Nat.ble 73 m then (bif Nat.ble 110 m then (bif Nat.ble 128 m then (bif Nat.ble 137 m then (bif Nat.ble 142 m then (bif Nat.ble 144 m then (bif Nat.ble 145 m then (bif Nat.ble 146 m then ("quietRows", "()I") else ("arePlansTold", "()Z")) else ("areLevelsTold", "()Z")) else (bif Nat.ble 143 m then ("allWays", "()I") else ("isSet", "(I)Z"))) else (bif Nat.ble 139 m then (bif Nat.ble 140 m then (bif Nat.ble 141 m then ("isPair", "(II)Z") else ("measureLevels", "()V")) else ("findBest", "(LLampPresses$Search;)V")) else (bif Nat.ble 138 m then ("findPlan", "()V") else ("settle", "()V")))) else (bif Nat.ble 132 m then (bif Nat.ble 134 m then (bif Nat.ble 135 m then (bif Nat.ble 136 m then ("stepsChange", "()V") else ("statesChange", "()V")) else ("keepForSteps", "()V")) else (bif Nat.ble 133 m then ("keepForStates", "()V") else ("count", "(I)I"))) else (bif Nat.ble 130 m then (bif Nat.ble 131 m then ("report", "(I)I") else ("spell", "(I)I")) else (bif Nat.ble 129 m then ("even", "()I") else ("mend", "()I"))))) else (bif Nat.ble 119 m then (bif Nat.ble 123 m then (bif Nat.ble 125 m then (bif Nat.ble 126 m then (bif Nat.ble 127 m then ("without", "(I)I") else ("byWire", "(III)I")) else ("byOwn", "(II)I")) else (bif Nat.ble 124 m then ("far", "(I)I") else ("levelOf", "(I)I"))) else (bif Nat.ble 121 m then (bif Nat.ble 122 m then ("level", "(I)I") else ("deepest", "()I")) else (bif Nat.ble 120 m then ("book", "(II)I") else ("hub", "()I")))) else (bif Nat.ble 114 m then (bif Nat.ble 116 m then (bif Nat.ble 117 m then (bif Nat.ble 118 m then ("ways", "()I") else ("cycle", "(I)I")) else ("after", "(II)I")) else (bif Nat.ble 115 m then ("hardest", "()I") else ("greedy", "(I)I"))) else (bif Nat.ble 112 m then (bif Nat.ble 113 m then ("sparest", "(I)I") else ("only", "(I)I")) else (bif Nat.ble 111 m then ("part", "(I)I") else ("same", "(II)I")))))) else (bif Nat.ble 91 m then (bif Nat.ble 100 m then (bif Nat.ble 105 m then (bif Nat.ble 107 m then (bif Nat.ble 108 m then (bif Nat.ble 109 m then ("distance", "(II)I") else ("parts", "()I")) else ("off", "()I")) else (bif Nat.ble 106 m then ("alones", "()I") else ("alone", "(I)I"))) else (bif Nat.ble 102 m then (bif Nat.ble 103 m then (bif Nat.ble 104 m then ("fixed", "(I)I") else ("fewest", "(I)I")) else ("plan", "(I)I")) else (bif Nat.ble 101 m then ("plans", "()I") else ("base", "(II)I")))) else (bif Nat.ble 95 m then (bif Nat.ble 97 m then (bif Nat.ble 98 m then (bif Nat.ble 99 m then ("quiet", "()I") else ("rank", "()I")) else ("weight", "(II)I")) else (bif Nat.ble 96 m then ("of", "(II)I") else ("undo", "()I"))) else (bif Nat.ble 93 m then (bif Nat.ble 94 m then ("mirror", "()I") else ("scale", "(I)I")) else (bif Nat.ble 92 m then ("lift", "(I)I") else ("swap", "(II)Z"))))) else (bif Nat.ble 82 m then (bif Nat.ble 86 m then (bif Nat.ble 88 m then (bif Nat.ble 89 m then (bif Nat.ble 90 m then ("lay", "(III)I") else ("solve", "()I")) else ("aim", "()I")) else (bif Nat.ble 87 m then ("press", "(II)I") else ("show", "(II)I"))) else (bif Nat.ble 84 m then (bif Nat.ble 85 m then ("goal", "(II)I") else ("own", "(II)I")) else (bif Nat.ble 83 m then ("wire", "(III)I") else ("drop", "(I)Z")))) else (bif Nat.ble 77 m then (bif Nat.ble 79 m then (bif Nat.ble 80 m then (bif Nat.ble 81 m then ("lamp", "(I)I") else ("text", "()I")) else ("back", "(I)I")) else (bif Nat.ble 78 m then ("feed", "(IIIII)I") else ("<init>", "()V"))) else (bif Nat.ble 75 m then (bif Nat.ble 76 m then ("put", "(I)V") else ("<init>", "()V")) else (bif Nat.ble 74 m then ("addBase", "(I[I)V") else ("isMoved", "(I)Z"))))))) else (bif Nat.ble 36 m then (bif Nat.ble 54 m then (bif Nat.ble 63 m then (bif Nat.ble 68 m then (bif Nat.ble 70 m then (bif Nat.ble 71 m then (bif Nat.ble 72 m then ("isChosen", "(I)Z") else ("firstRow", "([I)V")) else ("fits", "([I)Z")) else (bif Nat.ble 69 m then ("fillBase", "([II)V") else ("findBases", "()V"))) else (bif Nat.ble 65 m then (bif Nat.ble 66 m then (bif Nat.ble 67 m then ("addTimes", "([I[II)V") else ("clearOthers", "(I)V")) else ("inverse", "(I)I")) else (bif Nat.ble 64 m then ("bringUp", "(II)V") else ("rowWith", "(I)I")))) else (bif Nat.ble 58 m then (bif Nat.ble 60 m then (bif Nat.ble 61 m then (bif Nat.ble 62 m then ("reduce", "()V") else ("clearColumn", "(I)V")) else ("clearRow", "(I)V")) else (bif Nat.ble 59 m then ("load", "(LLampPresses$Net;)V") else ("<init>", "()V"))) else (bif Nat.ble 56 m then (bif Nat.ble 57 m then ("price", "(II)I") else ("descend", "(LLampPresses$Search;LLampPresses$Solver;II)V")) else (bif Nat.ble 55 m then ("seek", "(LLampPresses$Solver;[I)V") else ("<init>", "(Z)V"))))) else (bif Nat.ble 45 m then (bif Nat.ble 49 m then (bif Nat.ble 51 m then (bif Nat.ble 52 m then (bif Nat.ble 53 m then ("isGap", "(I)Z") else ("isSpelled", "(I)Z")) else ("byteAt", "(I)I")) else (bif Nat.ble 50 m then ("kindAt", "(I)I") else ("advance", "()V"))) else (bif Nat.ble 47 m then (bif Nat.ble 48 m then ("isWord", "(Ljava/lang/String;)Z") else ("digit", "()I")) else (bif Nat.ble 46 m then ("takeStop", "()Z") else ("takeNumber", "(II)I")))) else (bif Nat.ble 40 m then (bif Nat.ble 42 m then (bif Nat.ble 43 m then (bif Nat.ble 44 m then ("takeOption", "(Ljava/lang/String;III)I") else ("readWire", "()Z")) else ("readLamp", "()Z")) else (bif Nat.ble 41 m then ("readStates", "()Z") else ("read", "()I"))) else (bif Nat.ble 38 m then (bif Nat.ble 39 m then ("<init>", "(LLampPresses$Tape;)V") else ("bringBack", "(LLampPresses$Net;)V")) else (bif Nat.ble 37 m then ("keep", "(LLampPresses$Net;)V") else ("<init>", "()V")))))) else (bif Nat.ble 18 m then (bif Nat.ble 27 m then (bif Nat.ble 31 m then (bif Nat.ble 33 m then (bif Nat.ble 34 m then (bif Nat.ble 35 m then ("spread", "(I)I") else ("neighbours", "(I)I")) else ("stepsAndWires", "()I")) else (bif Nat.ble 32 m then ("wires", "()I") else ("lit", "()I"))) else (bif Nat.ble 29 m then (bif Nat.ble 30 m then ("missedBehind", "([II)I") else ("missed", "()I")) else (bif Nat.ble 28 m then ("stepOnce", "([II)V") else ("pressLamp", "(II)V")))) else (bif Nat.ble 22 m then (bif Nat.ble 24 m then (bif Nat.ble 25 m then (bif Nat.ble 26 m then ("exchangeIn", "([III)V") else ("exchange", "(II)V")) else ("join", "(III)V")) else (bif Nat.ble 23 m then ("remove", "(I)V") else ("add", "(III)V"))) else (bif Nat.ble 20 m then (bif Nat.ble 21 m then ("copyFrom", "(LLampPresses$Net;)V") else ("empty", "()V")) else (bif Nat.ble 19 m then ("isState", "(I)Z") else ("has", "(I)Z"))))) else (bif Nat.ble 9 m then (bif Nat.ble 13 m then (bif Nat.ble 15 m then (bif Nat.ble 16 m then (bif Nat.ble 17 m then ("<init>", "()V") else ("answer", "(I)I")) else ("putByte", "(I)V")) else (bif Nat.ble 14 m then ("put", "(Ljava/lang/String;I)V") else ("put", "(Ljava/lang/String;)V"))) else (bif Nat.ble 11 m then (bif Nat.ble 12 m then ("start", "()V") else ("<init>", "(I)V")) else (bif Nat.ble 10 m then ("spreadCounts", "(I)V") else ("turn", "(LLampPresses$Net;)V")))) else (bif Nat.ble 4 m then (bif Nat.ble 6 m then (bif Nat.ble 7 m then (bif Nat.ble 8 m then ("isAhead", "(I)Z") else ("note", "(II)V")) else ("begin", "(LLampPresses$Net;LLampPresses$Solver;)V")) else (bif Nat.ble 5 m then ("measure", "(LLampPresses$Net;LLampPresses$Solver;)V") else ("<init>", "()V"))) else (bif Nat.ble 2 m then (bif Nat.ble 3 m then ("copyFrom", "(LLampPresses$Book;)V") else ("entry", "(II)I")) else (bif Nat.ble 1 m then ("enter", "(II)V") else ("<init>", "()V")))))))))
def lp_y (m : Nat) : MethodName := ⟨lp_cn (lp_ow m), (lp_nd m).1, (lp_nd m).2⟩
def lp_b (m : Nat) : ByteArray := (bif Nat.ble 147 m then (bif Nat.ble 220 m then (bif Nat.ble 257 m then (bif Nat.ble 275 m then (bif Nat.ble 284 m then (bif Nat.ble 289 m then (bif Nat.ble 291 m then (bif Nat.ble 292 m then (bif Nat.ble 293 m then code else prog_20_method_11_code) else prog_19_method_103_code) else (bif Nat.ble 290 m then prog_16_method_2_code else prog_15_method_155_code)) else (bif Nat.ble 286 m then (bif Nat.ble 287 m then (bif Nat.ble 288 m then prog_15_method_154_code else prog_15_method_152_code) else prog_15_method_56_code) else (bif Nat.ble 285 m then prog_15_method_54_code else prog_14_method_69_code))) else (bif Nat.ble 279 m then (bif Nat.ble 281 m then (bif Nat.ble 282 m then (bif Nat.ble 283 m then prog_14_method_65_code else prog_13_method_49_code) else prog_12_method_121_code) else (bif Nat.ble 280 m then prog_12_method_120_code else prog_12_method_119_code)) else (bif Nat.ble 277 m then (bif Nat.ble 278 m then prog_12_method_118_code else prog_12_method_117_code) else (bif Nat.ble 276 m then prog_12_method_116_code else prog_12_method_115_code)))) else (bif Nat.ble 266 m then (bif Nat.ble 270 m then (bif Nat.ble 272 m then (bif Nat.ble 273 m then (bif Nat.ble 274 m then prog_12_method_114_code else prog_12_method_113_code) else prog_12_method_112_code) else (bif Nat.ble 271 m then prog_12_method_111_code else prog_12_method_110_code)) else (bif Nat.ble 268 m then (bif Nat.ble 269 m then prog_12_method_109_code else prog_12_method_108_code) else (bif Nat.ble 267 m then prog_12_method_107_code else prog_12_method_106_code))) else (bif Nat.ble 261 m then (bif Nat.ble 263 m then (bif Nat.ble 264 m then (bif Nat.ble 265 m then prog_12_method_105_code else prog_12_method_104_code) else prog_12_method_103_code) else (bif Nat.ble 262 m then prog_12_method_102_code else prog_12_method_101_code)) else (bif Nat.ble 259 m then (bif Nat.ble 260 m then prog_12_method_100_code else prog_12_method_99_code) else (bif Nat.ble 258 m then prog_12_method_98_code else prog_12_method_97_code))))) else (bif Nat.ble 238 m then (bif Nat.ble 247 m then (bif Nat.ble 252 m then (bif Nat.ble 254 m then (bif Nat.ble 255 m then (bif Nat.ble 256 m then prog_12_method_96_code else prog_12_method_95_code) else prog_12_method_94_code) else (bif Nat.ble 253 m then prog_12_method_93_code else prog_12_method_92_code)) else (bif Nat.ble 249 m then (bif Nat.ble 250 m then (bif Nat.ble 251 m then prog_12_method_91_code else prog_12_method_90_code) else prog_12_method_89_code) else (bif Nat.ble 248 m then prog_12_method_88_code else prog_12_method_87_code))) else (bif Nat.ble 242 m then (bif Nat.ble 244 m then (bif Nat.ble 245 m then (bif Nat.ble 246 m then prog_12_method_86_code else prog_12_method_85_code) else prog_12_method_84_code) else (bif Nat.ble 243 m then prog_12_method_83_code else prog_12_method_82_code)) else (bif Nat.ble 240 m then (bif Nat.ble 241 m then prog_12_method_81_code else prog_12_method_80_code) else (bif Nat.ble 239 m then prog_12_method_79_code else prog_12_method_78_code)))) else (bif Nat.ble 229 m then (bif Nat.ble 233 m then (bif Nat.ble 235 m then (bif Nat.ble 236 m then (bif Nat.ble 237 m then prog_12_method_77_code else prog_12_method_76_code) else prog_12_method_75_code) else (bif Nat.ble 234 m then prog_12_method_74_code else prog_12_method_73_code)) else (bif Nat.ble 231 m then (bif Nat.ble 232 m then prog_12_method_72_code else prog_12_method_71_code) else (bif Nat.ble 230 m then prog_12_method_70_code else prog_12_method_69_code))) else (bif Nat.ble 224 m then (bif Nat.ble 226 m then (bif Nat.ble 227 m then (bif Nat.ble 228 m then prog_12_method_68_code else prog_12_method_67_code) else prog_12_method_66_code) else (bif Nat.ble 225 m then prog_12_method_65_code else prog_12_method_64_code)) else (bif Nat.ble 222 m then (bif Nat.ble 223 m then prog_12_method_63_code else prog_12_method_62_code) else (bif Nat.ble 221 m then prog_12_method_61_code else prog_12_method_60_code)))))) else (bif Nat.ble 183 m then (bif Nat.ble 201 m then (bif Nat.ble 210 m then (bif Nat.ble 215 m then (bif Nat.ble 217 m then (bif Nat.ble 218 m then (bif Nat.ble 219 m then prog_12_method_59_code else prog_12_method_58_code) else prog_12_method_57_code) else (bif Nat.ble 216 m then prog_12_method_56_code else prog_12_method_55_code)) else (bif Nat.ble 212 m then (bif Nat.ble 213 m then (bif Nat.ble 214 m then prog_12_method_54_code else prog_12_method_53_code) else prog_12_method_52_code) else (bif Nat.ble 211 m then prog_12_method_51_code else prog_12_method_50_code))) else (bif Nat.ble 205 m then (bif Nat.ble 207 m then (bif Nat.ble 208 m then (bif Nat.ble 209 m then prog_12_method_49_code else prog_12_method_48_code) else prog_12_method_47_code) else (bif Nat.ble 206 m then prog_12_method_46_code else prog_12_method_45_code)) else (bif Nat.ble 203 m then (bif Nat.ble 204 m then prog_12_method_44_code else prog_12_method_43_code) else (bif Nat.ble 202 m then prog_12_method_42_code else prog_12_method_41_code)))) else (bif Nat.ble 192 m then (bif Nat.ble 196 m then (bif Nat.ble 198 m then (bif Nat.ble 199 m then (bif Nat.ble 200 m then prog_12_method_40_code else prog_12_method_39_code) else prog_12_method_38_code) else (bif Nat.ble 197 m then prog_12_method_37_code else prog_12_method_36_code)) else (bif Nat.ble 194 m then (bif Nat.ble 195 m then prog_12_method_35_code else prog_12_method_34_code) else (bif Nat.ble 193 m then prog_12_method_33_code else prog_12_method_32_code))) else (bif Nat.ble 187 m then (bif Nat.ble 189 m then (bif Nat.ble 190 m then (bif Nat.ble 191 m then prog_12_method_31_code else prog_12_method_30_code) else prog_12_method_29_code) else (bif Nat.ble 188 m then prog_12_method_28_code else prog_12_method_27_code)) else (bif Nat.ble 185 m then (bif Nat.ble 186 m then prog_12_method_26_code else prog_12_method_25_code) else (bif Nat.ble 184 m then prog_12_method_24_code else prog_12_method_23_code))))) else (bif Nat.ble 165 m then (bif Nat.ble 174 m then (bif Nat.ble 178 m then (bif Nat.ble 180 m then (bif Nat.ble 181 m then (bif Nat.ble 182 m then prog_12_method_22_code else prog_12_method_21_code) else prog_12_method_20_code) else (bif Nat.ble 179 m then prog_12_method_19_code else prog_12_method_18_code)) else (bif Nat.ble 176 m then (bif Nat.ble 177 m then prog_12_method_17_code else prog_12_method_16_code) else (bif Nat.ble 175 m then prog_12_method_15_code else prog_12_method_14_code))) else (bif Nat.ble 169 m then (bif Nat.ble 171 m then (bif Nat.ble 172 m then (bif Nat.ble 173 m then prog_12_method_13_code else prog_12_method_12_code) else prog_12_method_11_code) else (bif Nat.ble 170 m then prog_12_method_10_code else prog_12_method_9_code)) else (bif Nat.ble 167 m then (bif Nat.ble 168 m then prog_12_method_8_code else prog_12_method_7_code) else (bif Nat.ble 166 m then prog_12_method_6_code else prog_12_method_5_code)))) else (bif Nat.ble 156 m then (bif Nat.ble 160 m then (bif Nat.ble 162 m then (bif Nat.ble 163 m then (bif Nat.ble 164 m then prog_12_method_4_code else prog_12_method_3_code) else prog_12_method_2_code) else (bif Nat.ble 161 m then prog_1_method_85_code else prog_1_method_84_code)) else (bif Nat.ble 158 m then (bif Nat.ble 159 m then prog_1_method_83_code else prog_1_method_82_code) else (bif Nat.ble 157 m then prog_1_method_81_code else prog_1_method_80_code))) else (bif Nat.ble 151 m then (bif Nat.ble 153 m then (bif Nat.ble 154 m then (bif Nat.ble 155 m then prog_1_method_79_code else prog_1_method_78_code) else prog_1_method_77_code) else (bif Nat.ble 152 m then prog_1_method_76_code else prog_1_method_75_code)) else (bif Nat.ble 149 m then (bif Nat.ble 150 m then prog_1_method_74_code else prog_1_method_73_code) else (bif Nat.ble 148 m then prog_1_method_72_code else prog_1_method_71_code))))))) else (bif Nat.ble 73 m then (bif Nat.ble 110 m then (bif Nat.ble 128 m then (bif Nat.ble 137 m then (bif Nat.ble 142 m then (bif Nat.ble 144 m then (bif Nat.ble 145 m then (bif Nat.ble 146 m then prog_1_method_70_code else prog_1_method_69_code) else prog_1_method_68_code) else (bif Nat.ble 143 m then prog_1_method_67_code else prog_1_method_66_code)) else (bif Nat.ble 139 m then (bif Nat.ble 140 m then (bif Nat.ble 141 m then prog_1_method_65_code else prog_1_method_64_code) else prog_1_method_63_code) else (bif Nat.ble 138 m then prog_1_method_62_code else prog_1_method_61_code))) else (bif Nat.ble 132 m then (bif Nat.ble 134 m then (bif Nat.ble 135 m then (bif Nat.ble 136 m then prog_1_method_60_code else prog_1_method_59_code) else prog_1_method_58_code) else (bif Nat.ble 133 m then prog_1_method_57_code else prog_1_method_56_code)) else (bif Nat.ble 130 m then (bif Nat.ble 131 m then prog_1_method_55_code else prog_1_method_54_code) else (bif Nat.ble 129 m then prog_1_method_53_code else prog_1_method_52_code)))) else (bif Nat.ble 119 m then (bif Nat.ble 123 m then (bif Nat.ble 125 m then (bif Nat.ble 126 m then (bif Nat.ble 127 m then prog_1_method_51_code else prog_1_method_50_code) else prog_1_method_49_code) else (bif Nat.ble 124 m then prog_1_method_48_code else prog_1_method_47_code)) else (bif Nat.ble 121 m then (bif Nat.ble 122 m then prog_1_method_46_code else prog_1_method_45_code) else (bif Nat.ble 120 m then prog_1_method_44_code else prog_1_method_43_code))) else (bif Nat.ble 114 m then (bif Nat.ble 116 m then (bif Nat.ble 117 m then (bif Nat.ble 118 m then prog_1_method_42_code else prog_1_method_41_code) else prog_1_method_40_code) else (bif Nat.ble 115 m then prog_1_method_39_code else prog_1_method_38_code)) else (bif Nat.ble 112 m then (bif Nat.ble 113 m then prog_1_method_37_code else prog_1_method_36_code) else (bif Nat.ble 111 m then prog_1_method_35_code else prog_1_method_34_code))))) else (bif Nat.ble 91 m then (bif Nat.ble 100 m then (bif Nat.ble 105 m then (bif Nat.ble 107 m then (bif Nat.ble 108 m then (bif Nat.ble 109 m then prog_1_method_33_code else prog_1_method_32_code) else prog_1_method_31_code) else (bif Nat.ble 106 m then prog_1_method_30_code else prog_1_method_29_code)) else (bif Nat.ble 102 m then (bif Nat.ble 103 m then (bif Nat.ble 104 m then prog_1_method_28_code else prog_1_method_27_code) else prog_1_method_26_code) else (bif Nat.ble 101 m then prog_1_method_25_code else prog_1_method_24_code))) else (bif Nat.ble 95 m then (bif Nat.ble 97 m then (bif Nat.ble 98 m then (bif Nat.ble 99 m then prog_1_method_23_code else prog_1_method_22_code) else prog_1_method_21_code) else (bif Nat.ble 96 m then prog_1_method_20_code else prog_1_method_19_code)) else (bif Nat.ble 93 m then (bif Nat.ble 94 m then prog_1_method_18_code else prog_1_method_17_code) else (bif Nat.ble 92 m then prog_1_method_16_code else prog_1_method_15_code)))) else (bif Nat.ble 82 m then (bif Nat.ble 86 m then (bif Nat.ble 88 m then (bif Nat.ble 89 m then (bif Nat.ble 90 m then prog_1_method_14_code else prog_1_method_13_code) else prog_1_method_12_code) else (bif Nat.ble 87 m then prog_1_method_11_code else prog_1_method_10_code)) else (bif Nat.ble 84 m then (bif Nat.ble 85 m then prog_1_method_9_code else prog_1_method_8_code) else (bif Nat.ble 83 m then prog_1_method_7_code else prog_1_method_6_code))) else (bif Nat.ble 77 m then (bif Nat.ble 79 m then (bif Nat.ble 80 m then (bif Nat.ble 81 m then prog_1_method_5_code else prog_1_method_4_code) else prog_1_method_3_code) else (bif Nat.ble 78 m then prog_1_method_2_code else prog_1_method_1_code)) else (bif Nat.ble 75 m then (bif Nat.ble 76 m then prog_10_method_2_code else prog_10_method_1_code) else (bif Nat.ble 74 m then prog_9_method_17_code else prog_9_method_16_code)))))) else (bif Nat.ble 36 m then (bif Nat.ble 54 m then (bif Nat.ble 63 m then (bif Nat.ble 68 m then (bif Nat.ble 70 m then (bif Nat.ble 71 m then (bif Nat.ble 72 m then prog_9_method_15_code else prog_9_method_14_code) else prog_9_method_13_code) else (bif Nat.ble 69 m then prog_9_method_12_code else prog_9_method_11_code)) else (bif Nat.ble 65 m then (bif Nat.ble 66 m then (bif Nat.ble 67 m then prog_9_method_10_code else prog_9_method_9_code) else prog_9_method_8_code) else (bif Nat.ble 64 m then prog_9_method_7_code else prog_9_method_6_code))) else (bif Nat.ble 58 m then (bif Nat.ble 60 m then (bif Nat.ble 61 m then (bif Nat.ble 62 m then prog_9_method_5_code else prog_9_method_4_code) else prog_9_method_3_code) else (bif Nat.ble 59 m then prog_9_method_2_code else prog_9_method_1_code)) else (bif Nat.ble 56 m then (bif Nat.ble 57 m then prog_8_method_4_code else prog_8_method_3_code) else (bif Nat.ble 55 m then prog_8_method_2_code else prog_8_method_1_code)))) else (bif Nat.ble 45 m then (bif Nat.ble 49 m then (bif Nat.ble 51 m then (bif Nat.ble 52 m then (bif Nat.ble 53 m then prog_7_method_15_code else prog_7_method_14_code) else prog_7_method_13_code) else (bif Nat.ble 50 m then prog_7_method_12_code else prog_7_method_11_code)) else (bif Nat.ble 47 m then (bif Nat.ble 48 m then prog_7_method_10_code else prog_7_method_9_code) else (bif Nat.ble 46 m then prog_7_method_8_code else prog_7_method_7_code))) else (bif Nat.ble 40 m then (bif Nat.ble 42 m then (bif Nat.ble 43 m then (bif Nat.ble 44 m then prog_7_method_6_code else prog_7_method_5_code) else prog_7_method_4_code) else (bif Nat.ble 41 m then prog_7_method_3_code else prog_7_method_2_code)) else (bif Nat.ble 38 m then (bif Nat.ble 39 m then prog_7_method_1_code else prog_6_method_3_code) else (bif Nat.ble 37 m then prog_6_method_2_code else prog_6_method_1_code))))) else (bif Nat.ble 18 m then (bif Nat.ble 27 m then (bif Nat.ble 31 m then (bif Nat.ble 33 m then (bif Nat.ble 34 m then (bif Nat.ble 35 m then prog_5_method_19_code else prog_5_method_18_code) else prog_5_method_17_code) else (bif Nat.ble 32 m then prog_5_method_16_code else prog_5_method_15_code)) else (bif Nat.ble 29 m then (bif Nat.ble 30 m then prog_5_method_14_code else prog_5_method_13_code) else (bif Nat.ble 28 m then prog_5_method_12_code else prog_5_method_11_code))) else (bif Nat.ble 22 m then (bif Nat.ble 24 m then (bif Nat.ble 25 m then (bif Nat.ble 26 m then prog_5_method_10_code else prog_5_method_9_code) else prog_5_method_8_code) else (bif Nat.ble 23 m then prog_5_method_7_code else prog_5_method_6_code)) else (bif Nat.ble 20 m then (bif Nat.ble 21 m then prog_5_method_5_code else prog_5_method_4_code) else (bif Nat.ble 19 m then prog_5_method_3_code else prog_5_method_2_code)))) else (bif Nat.ble 9 m then (bif Nat.ble 13 m then (bif Nat.ble 15 m then (bif Nat.ble 16 m then (bif Nat.ble 17 m then prog_5_method_1_code else prog_4_method_6_code) else prog_4_method_5_code) else (bif Nat.ble 14 m then prog_4_method_4_code else prog_4_method_3_code)) else (bif Nat.ble 11 m then (bif Nat.ble 12 m then prog_4_method_2_code else prog_4_method_1_code) else (bif Nat.ble 10 m then prog_3_method_7_code else prog_3_method_6_code))) else (bif Nat.ble 4 m then (bif Nat.ble 6 m then (bif Nat.ble 7 m then (bif Nat.ble 8 m then prog_3_method_5_code else prog_3_method_4_code) else prog_3_method_3_code) else (bif Nat.ble 5 m then prog_3_method_2_code else prog_3_method_1_code)) else (bif Nat.ble 2 m then (bif Nat.ble 3 m then prog_2_method_4_code else prog_2_method_3_code) else (bif Nat.ble 1 m then prog_2_method_2_code else prog_2_method_1_code))))))))
def lp_rt (m : Nat) : Option FieldType := (bif Nat.ble 172 m then (bif Nat.ble 232 m then (bif Nat.ble 275 m then (bif Nat.ble 288 m then (bif Nat.ble 291 m then (bif Nat.ble 293 m then (bif Nat.ble 294 m then none else some .boolean) else (bif Nat.ble 292 m then some .int else none)) else (bif Nat.ble 289 m then (bif Nat.ble 290 m then some .char else none) else some .boolean)) else (bif Nat.ble 281 m then (bif Nat.ble 286 m then (bif Nat.ble 287 m then some .byte else some .char) else some .int) else (bif Nat.ble 276 m then (bif Nat.ble 277 m then none else some .int) else some .boolean))) else (bif Nat.ble 250 m then (bif Nat.ble 263 m then (bif Nat.ble 266 m then (bif Nat.ble 274 m then none else some .int) else (bif Nat.ble 264 m then none else some .int)) else (bif Nat.ble 251 m then (bif Nat.ble 260 m then none else some .int) else none)) else (bif Nat.ble 237 m then (bif Nat.ble 246 m then (bif Nat.ble 247 m then some .int else some .boolean) else some .int) else (bif Nat.ble 233 m then (bif Nat.ble 236 m then some .boolean else some .int) else none)))) else (bif Nat.ble 197 m then (bif Nat.ble 205 m then (bif Nat.ble 209 m then (bif Nat.ble 220 m then (bif Nat.ble 221 m then some .int else some .boolean) else (bif Nat.ble 210 m then some .int else none)) else (bif Nat.ble 207 m then (bif Nat.ble 208 m then some .int else some .boolean) else none)) else (bif Nat.ble 201 m then (bif Nat.ble 203 m then (bif Nat.ble 204 m then some .boolean else none) else some .int) else (bif Nat.ble 198 m then (bif Nat.ble 199 m then none else some .int) else some .boolean))) else (bif Nat.ble 179 m then (bif Nat.ble 187 m then (bif Nat.ble 191 m then (bif Nat.ble 192 m then some .int else some .boolean) else some .int) else (bif Nat.ble 180 m then (bif Nat.ble 186 m then none else some .int) else none)) else (bif Nat.ble 175 m then (bif Nat.ble 176 m then (bif Nat.ble 178 m then some .int else some .boolean) else none) else (bif Nat.ble 173 m then (bif Nat.ble 174 m then some .int else none) else some .int))))) else (bif Nat.ble 65 m then (bif Nat.ble 143 m then (bif Nat.ble 157 m then (bif Nat.ble 163 m then (bif Nat.ble 168 m then (bif Nat.ble 170 m then some .boolean else some .int) else (bif Nat.ble 165 m then none else some .boolean)) else (bif Nat.ble 159 m then (bif Nat.ble 162 m then none else some .int) else some .boolean)) else (bif Nat.ble 147 m then (bif Nat.ble 148 m then (bif Nat.ble 153 m then none else some .int) else none) else (bif Nat.ble 144 m then (bif Nat.ble 146 m then some .int else some .boolean) else some .int))) else (bif Nat.ble 78 m then (bif Nat.ble 91 m then (bif Nat.ble 133 m then (bif Nat.ble 141 m then some .boolean else none) else (bif Nat.ble 92 m then some .int else some .boolean)) else (bif Nat.ble 82 m then (bif Nat.ble 83 m then some .int else some .boolean) else some .int)) else (bif Nat.ble 71 m then (bif Nat.ble 72 m then (bif Nat.ble 74 m then none else some .boolean) else none) else (bif Nat.ble 66 m then (bif Nat.ble 70 m then some .boolean else none) else some .int)))) else (bif Nat.ble 41 m then (bif Nat.ble 50 m then (bif Nat.ble 57 m then (bif Nat.ble 63 m then (bif Nat.ble 64 m then none else some .int) else (bif Nat.ble 58 m then none else some .int)) else (bif Nat.ble 52 m then (bif Nat.ble 54 m then none else some .boolean) else some .int)) else (bif Nat.ble 47 m then (bif Nat.ble 48 m then (bif Nat.ble 49 m then none else some .boolean) else some .int) else (bif Nat.ble 44 m then (bif Nat.ble 46 m then some .boolean else some .int) else some .boolean))) else (bif Nat.ble 17 m then (bif Nat.ble 29 m then (bif Nat.ble 36 m then (bif Nat.ble 40 m then some .int else none) else some .int) else (bif Nat.ble 18 m then (bif Nat.ble 20 m then none else some .boolean) else none)) else (bif Nat.ble 8 m then (bif Nat.ble 9 m then (bif Nat.ble 16 m then some .int else none) else some .boolean) else (bif Nat.ble 2 m then (bif Nat.ble 3 m then none else some .int) else none))))))
def lp_cp (m : Nat) : Nat := (bif Nat.ble 147 m then (bif Nat.ble 220 m then (bif Nat.ble 257 m then (bif Nat.ble 275 m then (bif Nat.ble 284 m then (bif Nat.ble 289 m then (bif Nat.ble 291 m then (bif Nat.ble 292 m then (bif Nat.ble 293 m then 0 else 1181) else 2137) else (bif Nat.ble 290 m then 1173 else 1176)) else (bif Nat.ble 286 m then (bif Nat.ble 287 m then (bif Nat.ble 288 m then 1170 else 1160) else 1166) else (bif Nat.ble 285 m then 1156 else 2046))) else (bif Nat.ble 279 m then (bif Nat.ble 281 m then (bif Nat.ble 282 m then (bif Nat.ble 283 m then 1042 else 2220) else 6168) else (bif Nat.ble 280 m then 6180 else 6200)) else (bif Nat.ble 277 m then (bif Nat.ble 278 m then 6192 else 6188) else (bif Nat.ble 276 m then 6196 else 6184)))) else (bif Nat.ble 266 m then (bif Nat.ble 270 m then (bif Nat.ble 272 m then (bif Nat.ble 273 m then (bif Nat.ble 274 m then 6172 else 6176) else 6124) else (bif Nat.ble 271 m then 6164 else 6160)) else (bif Nat.ble 268 m then (bif Nat.ble 269 m then 6152 else 6156) else (bif Nat.ble 267 m then 6148 else 6116))) else (bif Nat.ble 261 m then (bif Nat.ble 263 m then (bif Nat.ble 264 m then (bif Nat.ble 265 m then 6140 else 6136) else 6144) else (bif Nat.ble 262 m then 6132 else 6120)) else (bif Nat.ble 259 m then (bif Nat.ble 260 m then 6128 else 6112) else (bif Nat.ble 258 m then 6108 else 6104))))) else (bif Nat.ble 238 m then (bif Nat.ble 247 m then (bif Nat.ble 252 m then (bif Nat.ble 254 m then (bif Nat.ble 255 m then (bif Nat.ble 256 m then 6100 else 6096) else 6088) else (bif Nat.ble 253 m then 6084 else 6080)) else (bif Nat.ble 249 m then (bif Nat.ble 250 m then (bif Nat.ble 251 m then 6060 else 6068) else 6076) else (bif Nat.ble 248 m then 6092 else 6072))) else (bif Nat.ble 242 m then (bif Nat.ble 244 m then (bif Nat.ble 245 m then (bif Nat.ble 246 m then 6064 else 6056) else 6051) else (bif Nat.ble 243 m then 6047 else 6043)) else (bif Nat.ble 240 m then (bif Nat.ble 241 m then 6039 else 6031) else (bif Nat.ble 239 m then 6035 else 6027)))) else (bif Nat.ble 229 m then (bif Nat.ble 233 m then (bif Nat.ble 235 m then (bif Nat.ble 236 m then (bif Nat.ble 237 m then 6019 else 6023) else 6015) else (bif Nat.ble 234 m then 6011 else 6003)) else (bif Nat.ble 231 m then (bif Nat.ble 232 m then 6007 else 5239) else (bif Nat.ble 230 m then 5070 else 5235))) else (bif Nat.ble 224 m then (bif Nat.ble 226 m then (bif Nat.ble 227 m then (bif Nat.ble 228 m then 5231 else 5223) else 5227) else (bif Nat.ble 225 m then 5219 else 5215)) else (bif Nat.ble 222 m then (bif Nat.ble 223 m then 5195 else 5199) else (bif Nat.ble 221 m then 5203 else 5211)))))) else (bif Nat.ble 183 m then (bif Nat.ble 201 m then (bif Nat.ble 210 m then (bif Nat.ble 215 m then (bif Nat.ble 217 m then (bif Nat.ble 218 m then (bif Nat.ble 219 m then 5207 else 5191) else 5183) else (bif Nat.ble 216 m then 5187 else 5175)) else (bif Nat.ble 212 m then (bif Nat.ble 213 m then (bif Nat.ble 214 m then 5167 else 5159) else 5163) else (bif Nat.ble 211 m then 5155 else 5151))) else (bif Nat.ble 205 m then (bif Nat.ble 207 m then (bif Nat.ble 208 m then (bif Nat.ble 209 m then 5179 else 5124) else 5078) else (bif Nat.ble 206 m then 5116 else 5120)) else (bif Nat.ble 203 m then (bif Nat.ble 204 m then 5112 else 5108) else (bif Nat.ble 202 m then 5171 else 5082)))) else (bif Nat.ble 192 m then (bif Nat.ble 196 m then (bif Nat.ble 198 m then (bif Nat.ble 199 m then (bif Nat.ble 200 m then 5100 else 5086) else 5104) else (bif Nat.ble 197 m then 5096 else 5089)) else (bif Nat.ble 194 m then (bif Nat.ble 195 m then 5147 else 5139) else (bif Nat.ble 193 m then 5143 else 5135))) else (bif Nat.ble 187 m then (bif Nat.ble 189 m then (bif Nat.ble 190 m then (bif Nat.ble 191 m then 5131 else 5128) else 5074) else (bif Nat.ble 188 m then 5066 else 5054)) else (bif Nat.ble 185 m then (bif Nat.ble 186 m then 5058 else 5062) else (bif Nat.ble 184 m then 5050 else 5046))))) else (bif Nat.ble 165 m then (bif Nat.ble 174 m then (bif Nat.ble 178 m then (bif Nat.ble 180 m then (bif Nat.ble 181 m then (bif Nat.ble 182 m then 5038 else 5042) else 5031) else (bif Nat.ble 179 m then 5034 else 5027)) else (bif Nat.ble 176 m then (bif Nat.ble 177 m then 5023 else 5008) else (bif Nat.ble 175 m then 5016 else 4219))) else (bif Nat.ble 169 m then (bif Nat.ble 171 m then (bif Nat.ble 172 m then (bif Nat.ble 173 m then 5001 else 5004) else 4223) else (bif Nat.ble 170 m then 5012 else 4234)) else (bif Nat.ble 167 m then (bif Nat.ble 168 m then 4227 else 4238) else (bif Nat.ble 166 m then 5019 else 4103)))) else (bif Nat.ble 156 m then (bif Nat.ble 160 m then (bif Nat.ble 162 m then (bif Nat.ble 163 m then (bif Nat.ble 164 m then 5092 else 4230) else 4098) else (bif Nat.ble 161 m then 2182 else 3020)) else (bif Nat.ble 158 m then (bif Nat.ble 159 m then 2099 else 2192) else (bif Nat.ble 157 m then 2189 else 4080))) else (bif Nat.ble 151 m then (bif Nat.ble 153 m then (bif Nat.ble 154 m then (bif Nat.ble 155 m then 4065 else 4058) else 4033) else (bif Nat.ble 152 m then 4009 else 3143)) else (bif Nat.ble 149 m then (bif Nat.ble 150 m then 3099 else 3082) else (bif Nat.ble 148 m then 3040 else 2170))))))) else (bif Nat.ble 73 m then (bif Nat.ble 110 m then (bif Nat.ble 128 m then (bif Nat.ble 137 m then (bif Nat.ble 142 m then (bif Nat.ble 144 m then (bif Nat.ble 145 m then (bif Nat.ble 146 m then 3017 else 3044) else 3187) else (bif Nat.ble 143 m then 3191 else 3119)) else (bif Nat.ble 139 m then (bif Nat.ble 140 m then (bif Nat.ble 141 m then 2071 else 3195) else 3049) else (bif Nat.ble 138 m then 2121 else 2125))) else (bif Nat.ble 132 m then (bif Nat.ble 134 m then (bif Nat.ble 135 m then (bif Nat.ble 136 m then 2022 else 2026) else 2038) else (bif Nat.ble 133 m then 2084 else 4088)) else (bif Nat.ble 130 m then (bif Nat.ble 131 m then 4076 else 4029) else (bif Nat.ble 129 m then 4025 else 4021)))) else (bif Nat.ble 119 m then (bif Nat.ble 123 m then (bif Nat.ble 125 m then (bif Nat.ble 126 m then (bif Nat.ble 127 m then 4017 else 4013) else 4005) else (bif Nat.ble 124 m then 4001 else 3237)) else (bif Nat.ble 121 m then (bif Nat.ble 122 m then 3233 else 3183) else (bif Nat.ble 120 m then 3175 else 3171))) else (bif Nat.ble 114 m then (bif Nat.ble 116 m then (bif Nat.ble 117 m then (bif Nat.ble 118 m then 3167 else 3163) else 3159) else (bif Nat.ble 115 m then 3155 else 3139)) else (bif Nat.ble 112 m then (bif Nat.ble 113 m then 3135 else 3127) else (bif Nat.ble 111 m then 3115 else 3111))))) else (bif Nat.ble 91 m then (bif Nat.ble 100 m then (bif Nat.ble 105 m then (bif Nat.ble 107 m then (bif Nat.ble 108 m then (bif Nat.ble 109 m then 3107 else 3095) else 3091) else (bif Nat.ble 106 m then 3087 else 3078)) else (bif Nat.ble 102 m then (bif Nat.ble 103 m then (bif Nat.ble 104 m then 3070 else 3036) else 3032) else (bif Nat.ble 101 m then 3028 else 3024))) else (bif Nat.ble 95 m then (bif Nat.ble 97 m then (bif Nat.ble 98 m then (bif Nat.ble 99 m then 3013 else 3009) else 3005) else (bif Nat.ble 96 m then 2239 else 2231)) else (bif Nat.ble 93 m then (bif Nat.ble 94 m then 2227 else 2205) else (bif Nat.ble 92 m then 2201 else 2196)))) else (bif Nat.ble 82 m then (bif Nat.ble 86 m then (bif Nat.ble 88 m then (bif Nat.ble 89 m then (bif Nat.ble 90 m then 2186 else 2117) else 2108) else (bif Nat.ble 87 m then 2092 else 2088)) else (bif Nat.ble 84 m then (bif Nat.ble 85 m then 2080 else 2076) else (bif Nat.ble 83 m then 2067 else 2051))) else (bif Nat.ble 77 m then (bif Nat.ble 79 m then (bif Nat.ble 80 m then (bif Nat.ble 81 m then 2030 else 1121) else 1117) else (bif Nat.ble 78 m then 1109 else 24)) else (bif Nat.ble 75 m then (bif Nat.ble 76 m then 1113 else 117) else (bif Nat.ble 74 m then 3066 else 3074)))))) else (bif Nat.ble 36 m then (bif Nat.ble 54 m then (bif Nat.ble 63 m then (bif Nat.ble 68 m then (bif Nat.ble 70 m then (bif Nat.ble 71 m then (bif Nat.ble 72 m then 3209 else 2179) else 2175) else (bif Nat.ble 69 m then 2166 else 2162)) else (bif Nat.ble 65 m then (bif Nat.ble 66 m then (bif Nat.ble 67 m then 2158 else 2154) else 2149) else (bif Nat.ble 64 m then 2145 else 2141))) else (bif Nat.ble 58 m then (bif Nat.ble 60 m then (bif Nat.ble 61 m then (bif Nat.ble 62 m then 2134 else 3131) else 3123) else (bif Nat.ble 59 m then 2129 else 159)) else (bif Nat.ble 56 m then (bif Nat.ble 57 m then 3061 else 3057) else (bif Nat.ble 55 m then 3053 else 208)))) else (bif Nat.ble 45 m then (bif Nat.ble 49 m then (bif Nat.ble 51 m then (bif Nat.ble 52 m then (bif Nat.ble 53 m then 1143 else 1136) else 1140) else (bif Nat.ble 50 m then 1147 else 1133)) else (bif Nat.ble 47 m then (bif Nat.ble 48 m then 1152 else 1208) else (bif Nat.ble 46 m then 1216 else 1212))) else (bif Nat.ble 40 m then (bif Nat.ble 42 m then (bif Nat.ble 43 m then (bif Nat.ble 44 m then 1226 else 2000) else 1221) else (bif Nat.ble 41 m then 1204 else 1125)) else (bif Nat.ble 38 m then (bif Nat.ble 39 m then 134 else 2235) else (bif Nat.ble 37 m then 2042 else 97))))) else (bif Nat.ble 18 m then (bif Nat.ble 27 m then (bif Nat.ble 31 m then (bif Nat.ble 33 m then (bif Nat.ble 34 m then (bif Nat.ble 35 m then 3103 else 2217) else 2209) else (bif Nat.ble 32 m then 2213 else 4093)) else (bif Nat.ble 29 m then (bif Nat.ble 30 m then 3147 else 2112) else (bif Nat.ble 28 m then 3151 else 2096))) else (bif Nat.ble 22 m then (bif Nat.ble 24 m then (bif Nat.ble 25 m then (bif Nat.ble 26 m then 2063 else 2060) else 1235) else (bif Nat.ble 23 m then 2056 else 1231)) else (bif Nat.ble 20 m then (bif Nat.ble 21 m then 2010 else 1129) else (bif Nat.ble 19 m then 2034 else 2004)))) else (bif Nat.ble 9 m then (bif Nat.ble 13 m then (bif Nat.ble 15 m then (bif Nat.ble 16 m then (bif Nat.ble 17 m then 32 else 4072) else 4052) else (bif Nat.ble 14 m then 4042 else 4046)) else (bif Nat.ble 11 m then (bif Nat.ble 12 m then 4037 else 1038) else (bif Nat.ble 10 m then 3229 else 3225))) else (bif Nat.ble 4 m then (bif Nat.ble 6 m then (bif Nat.ble 7 m then (bif Nat.ble 8 m then 3221 else 3217) else 3203) else (bif Nat.ble 5 m then 3199 else 233)) else (bif Nat.ble 2 m then (bif Nat.ble 3 m then 2017 else 3179) else (bif Nat.ble 1 m then 2103 else 40))))))))
theorem lp_code0 : lp_wd (lp_cp 0) = some (.code (lp_y 0) (lp_b 0) (lp_mx 0) (lp_rt 0)) := rfl
theorem lp_code1 : lp_wd (lp_cp 1) = some (.code (lp_y 1) (lp_b 1) (lp_mx 1) (lp_rt 1)) := rfl
theorem lp_code2 : lp_wd (lp_cp 2) = some (.code (lp_y 2) (lp_b 2) (lp_mx 2) (lp_rt 2)) := rfl
theorem lp_code3 : lp_wd (lp_cp 3) = some (.code (lp_y 3) (lp_b 3) (lp_mx 3) (lp_rt 3)) := rfl
theorem lp_code4 : lp_wd (lp_cp 4) = some (.code (lp_y 4) (lp_b 4) (lp_mx 4) (lp_rt 4)) := rfl
theorem lp_code5 : lp_wd (lp_cp 5) = some (.code (lp_y 5) (lp_b 5) (lp_mx 5) (lp_rt 5)) := rfl
theorem lp_code6 : lp_wd (lp_cp 6) = some (.code (lp_y 6) (lp_b 6) (lp_mx 6) (lp_rt 6)) := rfl
theorem lp_code7 : lp_wd (lp_cp 7) = some (.code (lp_y 7) (lp_b 7) (lp_mx 7) (lp_rt 7)) := rfl
theorem lp_code8 : lp_wd (lp_cp 8) = some (.code (lp_y 8) (lp_b 8) (lp_mx 8) (lp_rt 8)) := rfl
theorem lp_code9 : lp_wd (lp_cp 9) = some (.code (lp_y 9) (lp_b 9) (lp_mx 9) (lp_rt 9)) := rfl
theorem lp_code10 : lp_wd (lp_cp 10) = some (.code (lp_y 10) (lp_b 10) (lp_mx 10) (lp_rt 10)) := rfl
theorem lp_code11 : lp_wd (lp_cp 11) = some (.code (lp_y 11) (lp_b 11) (lp_mx 11) (lp_rt 11)) := rfl
theorem lp_code12 : lp_wd (lp_cp 12) = some (.code (lp_y 12) (lp_b 12) (lp_mx 12) (lp_rt 12)) := rfl
theorem lp_code13 : lp_wd (lp_cp 13) = some (.code (lp_y 13) (lp_b 13) (lp_mx 13) (lp_rt 13)) := rfl
theorem lp_code14 : lp_wd (lp_cp 14) = some (.code (lp_y 14) (lp_b 14) (lp_mx 14) (lp_rt 14)) := rfl
theorem lp_code15 : lp_wd (lp_cp 15) = some (.code (lp_y 15) (lp_b 15) (lp_mx 15) (lp_rt 15)) := rfl
theorem lp_code16 : lp_wd (lp_cp 16) = some (.code (lp_y 16) (lp_b 16) (lp_mx 16) (lp_rt 16)) := rfl
theorem lp_code17 : lp_wd (lp_cp 17) = some (.code (lp_y 17) (lp_b 17) (lp_mx 17) (lp_rt 17)) := rfl
theorem lp_code18 : lp_wd (lp_cp 18) = some (.code (lp_y 18) (lp_b 18) (lp_mx 18) (lp_rt 18)) := rfl
theorem lp_code19 : lp_wd (lp_cp 19) = some (.code (lp_y 19) (lp_b 19) (lp_mx 19) (lp_rt 19)) := rfl
theorem lp_code20 : lp_wd (lp_cp 20) = some (.code (lp_y 20) (lp_b 20) (lp_mx 20) (lp_rt 20)) := rfl
theorem lp_code21 : lp_wd (lp_cp 21) = some (.code (lp_y 21) (lp_b 21) (lp_mx 21) (lp_rt 21)) := rfl
theorem lp_code22 : lp_wd (lp_cp 22) = some (.code (lp_y 22) (lp_b 22) (lp_mx 22) (lp_rt 22)) := rfl
theorem lp_code23 : lp_wd (lp_cp 23) = some (.code (lp_y 23) (lp_b 23) (lp_mx 23) (lp_rt 23)) := rfl
theorem lp_code24 : lp_wd (lp_cp 24) = some (.code (lp_y 24) (lp_b 24) (lp_mx 24) (lp_rt 24)) := rfl
theorem lp_code25 : lp_wd (lp_cp 25) = some (.code (lp_y 25) (lp_b 25) (lp_mx 25) (lp_rt 25)) := rfl
theorem lp_code26 : lp_wd (lp_cp 26) = some (.code (lp_y 26) (lp_b 26) (lp_mx 26) (lp_rt 26)) := rfl
theorem lp_code27 : lp_wd (lp_cp 27) = some (.code (lp_y 27) (lp_b 27) (lp_mx 27) (lp_rt 27)) := rfl
theorem lp_code28 : lp_wd (lp_cp 28) = some (.code (lp_y 28) (lp_b 28) (lp_mx 28) (lp_rt 28)) := rfl
theorem lp_code29 : lp_wd (lp_cp 29) = some (.code (lp_y 29) (lp_b 29) (lp_mx 29) (lp_rt 29)) := rfl
theorem lp_code30 : lp_wd (lp_cp 30) = some (.code (lp_y 30) (lp_b 30) (lp_mx 30) (lp_rt 30)) := rfl
theorem lp_code31 : lp_wd (lp_cp 31) = some (.code (lp_y 31) (lp_b 31) (lp_mx 31) (lp_rt 31)) := rfl
theorem lp_code32 : lp_wd (lp_cp 32) = some (.code (lp_y 32) (lp_b 32) (lp_mx 32) (lp_rt 32)) := rfl
theorem lp_code33 : lp_wd (lp_cp 33) = some (.code (lp_y 33) (lp_b 33) (lp_mx 33) (lp_rt 33)) := rfl
theorem lp_code34 : lp_wd (lp_cp 34) = some (.code (lp_y 34) (lp_b 34) (lp_mx 34) (lp_rt 34)) := rfl
theorem lp_code35 : lp_wd (lp_cp 35) = some (.code (lp_y 35) (lp_b 35) (lp_mx 35) (lp_rt 35)) := rfl
theorem lp_code36 : lp_wd (lp_cp 36) = some (.code (lp_y 36) (lp_b 36) (lp_mx 36) (lp_rt 36)) := rfl
theorem lp_code37 : lp_wd (lp_cp 37) = some (.code (lp_y 37) (lp_b 37) (lp_mx 37) (lp_rt 37)) := rfl
theorem lp_code38 : lp_wd (lp_cp 38) = some (.code (lp_y 38) (lp_b 38) (lp_mx 38) (lp_rt 38)) := rfl
theorem lp_code39 : lp_wd (lp_cp 39) = some (.code (lp_y 39) (lp_b 39) (lp_mx 39) (lp_rt 39)) := rfl
theorem lp_code40 : lp_wd (lp_cp 40) = some (.code (lp_y 40) (lp_b 40) (lp_mx 40) (lp_rt 40)) := rfl
theorem lp_code41 : lp_wd (lp_cp 41) = some (.code (lp_y 41) (lp_b 41) (lp_mx 41) (lp_rt 41)) := rfl
theorem lp_code42 : lp_wd (lp_cp 42) = some (.code (lp_y 42) (lp_b 42) (lp_mx 42) (lp_rt 42)) := rfl
theorem lp_code43 : lp_wd (lp_cp 43) = some (.code (lp_y 43) (lp_b 43) (lp_mx 43) (lp_rt 43)) := rfl
theorem lp_code44 : lp_wd (lp_cp 44) = some (.code (lp_y 44) (lp_b 44) (lp_mx 44) (lp_rt 44)) := rfl
theorem lp_code45 : lp_wd (lp_cp 45) = some (.code (lp_y 45) (lp_b 45) (lp_mx 45) (lp_rt 45)) := rfl
theorem lp_code46 : lp_wd (lp_cp 46) = some (.code (lp_y 46) (lp_b 46) (lp_mx 46) (lp_rt 46)) := rfl
theorem lp_code47 : lp_wd (lp_cp 47) = some (.code (lp_y 47) (lp_b 47) (lp_mx 47) (lp_rt 47)) := rfl
theorem lp_code48 : lp_wd (lp_cp 48) = some (.code (lp_y 48) (lp_b 48) (lp_mx 48) (lp_rt 48)) := rfl
theorem lp_code49 : lp_wd (lp_cp 49) = some (.code (lp_y 49) (lp_b 49) (lp_mx 49) (lp_rt 49)) := rfl
theorem lp_code50 : lp_wd (lp_cp 50) = some (.code (lp_y 50) (lp_b 50) (lp_mx 50) (lp_rt 50)) := rfl
theorem lp_code51 : lp_wd (lp_cp 51) = some (.code (lp_y 51) (lp_b 51) (lp_mx 51) (lp_rt 51)) := rfl
theorem lp_code52 : lp_wd (lp_cp 52) = some (.code (lp_y 52) (lp_b 52) (lp_mx 52) (lp_rt 52)) := rfl
theorem lp_code53 : lp_wd (lp_cp 53) = some (.code (lp_y 53) (lp_b 53) (lp_mx 53) (lp_rt 53)) := rfl
theorem lp_code54 : lp_wd (lp_cp 54) = some (.code (lp_y 54) (lp_b 54) (lp_mx 54) (lp_rt 54)) := rfl
theorem lp_code55 : lp_wd (lp_cp 55) = some (.code (lp_y 55) (lp_b 55) (lp_mx 55) (lp_rt 55)) := rfl
theorem lp_code56 : lp_wd (lp_cp 56) = some (.code (lp_y 56) (lp_b 56) (lp_mx 56) (lp_rt 56)) := rfl
theorem lp_code57 : lp_wd (lp_cp 57) = some (.code (lp_y 57) (lp_b 57) (lp_mx 57) (lp_rt 57)) := rfl
theorem lp_code58 : lp_wd (lp_cp 58) = some (.code (lp_y 58) (lp_b 58) (lp_mx 58) (lp_rt 58)) := rfl
theorem lp_code59 : lp_wd (lp_cp 59) = some (.code (lp_y 59) (lp_b 59) (lp_mx 59) (lp_rt 59)) := rfl
theorem lp_code60 : lp_wd (lp_cp 60) = some (.code (lp_y 60) (lp_b 60) (lp_mx 60) (lp_rt 60)) := rfl
theorem lp_code61 : lp_wd (lp_cp 61) = some (.code (lp_y 61) (lp_b 61) (lp_mx 61) (lp_rt 61)) := rfl
theorem lp_code62 : lp_wd (lp_cp 62) = some (.code (lp_y 62) (lp_b 62) (lp_mx 62) (lp_rt 62)) := rfl
theorem lp_code63 : lp_wd (lp_cp 63) = some (.code (lp_y 63) (lp_b 63) (lp_mx 63) (lp_rt 63)) := rfl
theorem lp_code64 : lp_wd (lp_cp 64) = some (.code (lp_y 64) (lp_b 64) (lp_mx 64) (lp_rt 64)) := rfl
theorem lp_code65 : lp_wd (lp_cp 65) = some (.code (lp_y 65) (lp_b 65) (lp_mx 65) (lp_rt 65)) := rfl
theorem lp_code66 : lp_wd (lp_cp 66) = some (.code (lp_y 66) (lp_b 66) (lp_mx 66) (lp_rt 66)) := rfl
theorem lp_code67 : lp_wd (lp_cp 67) = some (.code (lp_y 67) (lp_b 67) (lp_mx 67) (lp_rt 67)) := rfl
theorem lp_code68 : lp_wd (lp_cp 68) = some (.code (lp_y 68) (lp_b 68) (lp_mx 68) (lp_rt 68)) := rfl
theorem lp_code69 : lp_wd (lp_cp 69) = some (.code (lp_y 69) (lp_b 69) (lp_mx 69) (lp_rt 69)) := rfl
theorem lp_code70 : lp_wd (lp_cp 70) = some (.code (lp_y 70) (lp_b 70) (lp_mx 70) (lp_rt 70)) := rfl
theorem lp_code71 : lp_wd (lp_cp 71) = some (.code (lp_y 71) (lp_b 71) (lp_mx 71) (lp_rt 71)) := rfl
theorem lp_code72 : lp_wd (lp_cp 72) = some (.code (lp_y 72) (lp_b 72) (lp_mx 72) (lp_rt 72)) := rfl
theorem lp_code73 : lp_wd (lp_cp 73) = some (.code (lp_y 73) (lp_b 73) (lp_mx 73) (lp_rt 73)) := rfl
theorem lp_code74 : lp_wd (lp_cp 74) = some (.code (lp_y 74) (lp_b 74) (lp_mx 74) (lp_rt 74)) := rfl
theorem lp_code75 : lp_wd (lp_cp 75) = some (.code (lp_y 75) (lp_b 75) (lp_mx 75) (lp_rt 75)) := rfl
theorem lp_code76 : lp_wd (lp_cp 76) = some (.code (lp_y 76) (lp_b 76) (lp_mx 76) (lp_rt 76)) := rfl
theorem lp_code77 : lp_wd (lp_cp 77) = some (.code (lp_y 77) (lp_b 77) (lp_mx 77) (lp_rt 77)) := rfl
theorem lp_code78 : lp_wd (lp_cp 78) = some (.code (lp_y 78) (lp_b 78) (lp_mx 78) (lp_rt 78)) := rfl
theorem lp_code79 : lp_wd (lp_cp 79) = some (.code (lp_y 79) (lp_b 79) (lp_mx 79) (lp_rt 79)) := rfl
theorem lp_code80 : lp_wd (lp_cp 80) = some (.code (lp_y 80) (lp_b 80) (lp_mx 80) (lp_rt 80)) := rfl
theorem lp_code81 : lp_wd (lp_cp 81) = some (.code (lp_y 81) (lp_b 81) (lp_mx 81) (lp_rt 81)) := rfl
theorem lp_code82 : lp_wd (lp_cp 82) = some (.code (lp_y 82) (lp_b 82) (lp_mx 82) (lp_rt 82)) := rfl
theorem lp_code83 : lp_wd (lp_cp 83) = some (.code (lp_y 83) (lp_b 83) (lp_mx 83) (lp_rt 83)) := rfl
theorem lp_code84 : lp_wd (lp_cp 84) = some (.code (lp_y 84) (lp_b 84) (lp_mx 84) (lp_rt 84)) := rfl
theorem lp_code85 : lp_wd (lp_cp 85) = some (.code (lp_y 85) (lp_b 85) (lp_mx 85) (lp_rt 85)) := rfl
theorem lp_code86 : lp_wd (lp_cp 86) = some (.code (lp_y 86) (lp_b 86) (lp_mx 86) (lp_rt 86)) := rfl
theorem lp_code87 : lp_wd (lp_cp 87) = some (.code (lp_y 87) (lp_b 87) (lp_mx 87) (lp_rt 87)) := rfl
theorem lp_code88 : lp_wd (lp_cp 88) = some (.code (lp_y 88) (lp_b 88) (lp_mx 88) (lp_rt 88)) := rfl
theorem lp_code89 : lp_wd (lp_cp 89) = some (.code (lp_y 89) (lp_b 89) (lp_mx 89) (lp_rt 89)) := rfl
theorem lp_code90 : lp_wd (lp_cp 90) = some (.code (lp_y 90) (lp_b 90) (lp_mx 90) (lp_rt 90)) := rfl
theorem lp_code91 : lp_wd (lp_cp 91) = some (.code (lp_y 91) (lp_b 91) (lp_mx 91) (lp_rt 91)) := rfl
theorem lp_code92 : lp_wd (lp_cp 92) = some (.code (lp_y 92) (lp_b 92) (lp_mx 92) (lp_rt 92)) := rfl
theorem lp_code93 : lp_wd (lp_cp 93) = some (.code (lp_y 93) (lp_b 93) (lp_mx 93) (lp_rt 93)) := rfl
theorem lp_code94 : lp_wd (lp_cp 94) = some (.code (lp_y 94) (lp_b 94) (lp_mx 94) (lp_rt 94)) := rfl
theorem lp_code95 : lp_wd (lp_cp 95) = some (.code (lp_y 95) (lp_b 95) (lp_mx 95) (lp_rt 95)) := rfl
theorem lp_code96 : lp_wd (lp_cp 96) = some (.code (lp_y 96) (lp_b 96) (lp_mx 96) (lp_rt 96)) := rfl
theorem lp_code97 : lp_wd (lp_cp 97) = some (.code (lp_y 97) (lp_b 97) (lp_mx 97) (lp_rt 97)) := rfl
theorem lp_code98 : lp_wd (lp_cp 98) = some (.code (lp_y 98) (lp_b 98) (lp_mx 98) (lp_rt 98)) := rfl
theorem lp_code99 : lp_wd (lp_cp 99) = some (.code (lp_y 99) (lp_b 99) (lp_mx 99) (lp_rt 99)) := rfl
theorem lp_code100 : lp_wd (lp_cp 100) = some (.code (lp_y 100) (lp_b 100) (lp_mx 100) (lp_rt 100)) := rfl
theorem lp_code101 : lp_wd (lp_cp 101) = some (.code (lp_y 101) (lp_b 101) (lp_mx 101) (lp_rt 101)) := rfl
theorem lp_code102 : lp_wd (lp_cp 102) = some (.code (lp_y 102) (lp_b 102) (lp_mx 102) (lp_rt 102)) := rfl
theorem lp_code103 : lp_wd (lp_cp 103) = some (.code (lp_y 103) (lp_b 103) (lp_mx 103) (lp_rt 103)) := rfl
theorem lp_code104 : lp_wd (lp_cp 104) = some (.code (lp_y 104) (lp_b 104) (lp_mx 104) (lp_rt 104)) := rfl
theorem lp_code105 : lp_wd (lp_cp 105) = some (.code (lp_y 105) (lp_b 105) (lp_mx 105) (lp_rt 105)) := rfl
theorem lp_code106 : lp_wd (lp_cp 106) = some (.code (lp_y 106) (lp_b 106) (lp_mx 106) (lp_rt 106)) := rfl
theorem lp_code107 : lp_wd (lp_cp 107) = some (.code (lp_y 107) (lp_b 107) (lp_mx 107) (lp_rt 107)) := rfl
theorem lp_code108 : lp_wd (lp_cp 108) = some (.code (lp_y 108) (lp_b 108) (lp_mx 108) (lp_rt 108)) := rfl
theorem lp_code109 : lp_wd (lp_cp 109) = some (.code (lp_y 109) (lp_b 109) (lp_mx 109) (lp_rt 109)) := rfl
theorem lp_code110 : lp_wd (lp_cp 110) = some (.code (lp_y 110) (lp_b 110) (lp_mx 110) (lp_rt 110)) := rfl
theorem lp_code111 : lp_wd (lp_cp 111) = some (.code (lp_y 111) (lp_b 111) (lp_mx 111) (lp_rt 111)) := rfl
theorem lp_code112 : lp_wd (lp_cp 112) = some (.code (lp_y 112) (lp_b 112) (lp_mx 112) (lp_rt 112)) := rfl
theorem lp_code113 : lp_wd (lp_cp 113) = some (.code (lp_y 113) (lp_b 113) (lp_mx 113) (lp_rt 113)) := rfl
theorem lp_code114 : lp_wd (lp_cp 114) = some (.code (lp_y 114) (lp_b 114) (lp_mx 114) (lp_rt 114)) := rfl
theorem lp_code115 : lp_wd (lp_cp 115) = some (.code (lp_y 115) (lp_b 115) (lp_mx 115) (lp_rt 115)) := rfl
theorem lp_code116 : lp_wd (lp_cp 116) = some (.code (lp_y 116) (lp_b 116) (lp_mx 116) (lp_rt 116)) := rfl
theorem lp_code117 : lp_wd (lp_cp 117) = some (.code (lp_y 117) (lp_b 117) (lp_mx 117) (lp_rt 117)) := rfl
theorem lp_code118 : lp_wd (lp_cp 118) = some (.code (lp_y 118) (lp_b 118) (lp_mx 118) (lp_rt 118)) := rfl
theorem lp_code119 : lp_wd (lp_cp 119) = some (.code (lp_y 119) (lp_b 119) (lp_mx 119) (lp_rt 119)) := rfl
theorem lp_code120 : lp_wd (lp_cp 120) = some (.code (lp_y 120) (lp_b 120) (lp_mx 120) (lp_rt 120)) := rfl
theorem lp_code121 : lp_wd (lp_cp 121) = some (.code (lp_y 121) (lp_b 121) (lp_mx 121) (lp_rt 121)) := rfl
theorem lp_code122 : lp_wd (lp_cp 122) = some (.code (lp_y 122) (lp_b 122) (lp_mx 122) (lp_rt 122)) := rfl
theorem lp_code123 : lp_wd (lp_cp 123) = some (.code (lp_y 123) (lp_b 123) (lp_mx 123) (lp_rt 123)) := rfl
theorem lp_code124 : lp_wd (lp_cp 124) = some (.code (lp_y 124) (lp_b 124) (lp_mx 124) (lp_rt 124)) := rfl
theorem lp_code125 : lp_wd (lp_cp 125) = some (.code (lp_y 125) (lp_b 125) (lp_mx 125) (lp_rt 125)) := rfl
theorem lp_code126 : lp_wd (lp_cp 126) = some (.code (lp_y 126) (lp_b 126) (lp_mx 126) (lp_rt 126)) := rfl
theorem lp_code127 : lp_wd (lp_cp 127) = some (.code (lp_y 127) (lp_b 127) (lp_mx 127) (lp_rt 127)) := rfl
theorem lp_code128 : lp_wd (lp_cp 128) = some (.code (lp_y 128) (lp_b 128) (lp_mx 128) (lp_rt 128)) := rfl
theorem lp_code129 : lp_wd (lp_cp 129) = some (.code (lp_y 129) (lp_b 129) (lp_mx 129) (lp_rt 129)) := rfl
theorem lp_code130 : lp_wd (lp_cp 130) = some (.code (lp_y 130) (lp_b 130) (lp_mx 130) (lp_rt 130)) := rfl
theorem lp_code131 : lp_wd (lp_cp 131) = some (.code (lp_y 131) (lp_b 131) (lp_mx 131) (lp_rt 131)) := rfl
theorem lp_code132 : lp_wd (lp_cp 132) = some (.code (lp_y 132) (lp_b 132) (lp_mx 132) (lp_rt 132)) := rfl
theorem lp_code133 : lp_wd (lp_cp 133) = some (.code (lp_y 133) (lp_b 133) (lp_mx 133) (lp_rt 133)) := rfl
theorem lp_code134 : lp_wd (lp_cp 134) = some (.code (lp_y 134) (lp_b 134) (lp_mx 134) (lp_rt 134)) := rfl
theorem lp_code135 : lp_wd (lp_cp 135) = some (.code (lp_y 135) (lp_b 135) (lp_mx 135) (lp_rt 135)) := rfl
theorem lp_code136 : lp_wd (lp_cp 136) = some (.code (lp_y 136) (lp_b 136) (lp_mx 136) (lp_rt 136)) := rfl
theorem lp_code137 : lp_wd (lp_cp 137) = some (.code (lp_y 137) (lp_b 137) (lp_mx 137) (lp_rt 137)) := rfl
theorem lp_code138 : lp_wd (lp_cp 138) = some (.code (lp_y 138) (lp_b 138) (lp_mx 138) (lp_rt 138)) := rfl
theorem lp_code139 : lp_wd (lp_cp 139) = some (.code (lp_y 139) (lp_b 139) (lp_mx 139) (lp_rt 139)) := rfl
theorem lp_code140 : lp_wd (lp_cp 140) = some (.code (lp_y 140) (lp_b 140) (lp_mx 140) (lp_rt 140)) := rfl
theorem lp_code141 : lp_wd (lp_cp 141) = some (.code (lp_y 141) (lp_b 141) (lp_mx 141) (lp_rt 141)) := rfl
theorem lp_code142 : lp_wd (lp_cp 142) = some (.code (lp_y 142) (lp_b 142) (lp_mx 142) (lp_rt 142)) := rfl
theorem lp_code143 : lp_wd (lp_cp 143) = some (.code (lp_y 143) (lp_b 143) (lp_mx 143) (lp_rt 143)) := rfl
theorem lp_code144 : lp_wd (lp_cp 144) = some (.code (lp_y 144) (lp_b 144) (lp_mx 144) (lp_rt 144)) := rfl
theorem lp_code145 : lp_wd (lp_cp 145) = some (.code (lp_y 145) (lp_b 145) (lp_mx 145) (lp_rt 145)) := rfl
theorem lp_code146 : lp_wd (lp_cp 146) = some (.code (lp_y 146) (lp_b 146) (lp_mx 146) (lp_rt 146)) := rfl
theorem lp_code147 : lp_wd (lp_cp 147) = some (.code (lp_y 147) (lp_b 147) (lp_mx 147) (lp_rt 147)) := rfl
theorem lp_code148 : lp_wd (lp_cp 148) = some (.code (lp_y 148) (lp_b 148) (lp_mx 148) (lp_rt 148)) := rfl
theorem lp_code149 : lp_wd (lp_cp 149) = some (.code (lp_y 149) (lp_b 149) (lp_mx 149) (lp_rt 149)) := rfl
theorem lp_code150 : lp_wd (lp_cp 150) = some (.code (lp_y 150) (lp_b 150) (lp_mx 150) (lp_rt 150)) := rfl
theorem lp_code151 : lp_wd (lp_cp 151) = some (.code (lp_y 151) (lp_b 151) (lp_mx 151) (lp_rt 151)) := rfl
theorem lp_code152 : lp_wd (lp_cp 152) = some (.code (lp_y 152) (lp_b 152) (lp_mx 152) (lp_rt 152)) := rfl
theorem lp_code153 : lp_wd (lp_cp 153) = some (.code (lp_y 153) (lp_b 153) (lp_mx 153) (lp_rt 153)) := rfl
theorem lp_code154 : lp_wd (lp_cp 154) = some (.code (lp_y 154) (lp_b 154) (lp_mx 154) (lp_rt 154)) := rfl
theorem lp_code155 : lp_wd (lp_cp 155) = some (.code (lp_y 155) (lp_b 155) (lp_mx 155) (lp_rt 155)) := rfl
theorem lp_code156 : lp_wd (lp_cp 156) = some (.code (lp_y 156) (lp_b 156) (lp_mx 156) (lp_rt 156)) := rfl
theorem lp_code157 : lp_wd (lp_cp 157) = some (.code (lp_y 157) (lp_b 157) (lp_mx 157) (lp_rt 157)) := rfl
theorem lp_code158 : lp_wd (lp_cp 158) = some (.code (lp_y 158) (lp_b 158) (lp_mx 158) (lp_rt 158)) := rfl
theorem lp_code159 : lp_wd (lp_cp 159) = some (.code (lp_y 159) (lp_b 159) (lp_mx 159) (lp_rt 159)) := rfl
theorem lp_code160 : lp_wd (lp_cp 160) = some (.code (lp_y 160) (lp_b 160) (lp_mx 160) (lp_rt 160)) := rfl
theorem lp_code161 : lp_wd (lp_cp 161) = some (.code (lp_y 161) (lp_b 161) (lp_mx 161) (lp_rt 161)) := rfl
theorem lp_code162 : lp_wd (lp_cp 162) = some (.code (lp_y 162) (lp_b 162) (lp_mx 162) (lp_rt 162)) := rfl
theorem lp_code163 : lp_wd (lp_cp 163) = some (.code (lp_y 163) (lp_b 163) (lp_mx 163) (lp_rt 163)) := rfl
theorem lp_code164 : lp_wd (lp_cp 164) = some (.code (lp_y 164) (lp_b 164) (lp_mx 164) (lp_rt 164)) := rfl
theorem lp_code165 : lp_wd (lp_cp 165) = some (.code (lp_y 165) (lp_b 165) (lp_mx 165) (lp_rt 165)) := rfl
theorem lp_code166 : lp_wd (lp_cp 166) = some (.code (lp_y 166) (lp_b 166) (lp_mx 166) (lp_rt 166)) := rfl
theorem lp_code167 : lp_wd (lp_cp 167) = some (.code (lp_y 167) (lp_b 167) (lp_mx 167) (lp_rt 167)) := rfl
theorem lp_code168 : lp_wd (lp_cp 168) = some (.code (lp_y 168) (lp_b 168) (lp_mx 168) (lp_rt 168)) := rfl
theorem lp_code169 : lp_wd (lp_cp 169) = some (.code (lp_y 169) (lp_b 169) (lp_mx 169) (lp_rt 169)) := rfl
theorem lp_code170 : lp_wd (lp_cp 170) = some (.code (lp_y 170) (lp_b 170) (lp_mx 170) (lp_rt 170)) := rfl
theorem lp_code171 : lp_wd (lp_cp 171) = some (.code (lp_y 171) (lp_b 171) (lp_mx 171) (lp_rt 171)) := rfl
theorem lp_code172 : lp_wd (lp_cp 172) = some (.code (lp_y 172) (lp_b 172) (lp_mx 172) (lp_rt 172)) := rfl
theorem lp_code173 : lp_wd (lp_cp 173) = some (.code (lp_y 173) (lp_b 173) (lp_mx 173) (lp_rt 173)) := rfl
theorem lp_code174 : lp_wd (lp_cp 174) = some (.code (lp_y 174) (lp_b 174) (lp_mx 174) (lp_rt 174)) := rfl
theorem lp_code175 : lp_wd (lp_cp 175) = some (.code (lp_y 175) (lp_b 175) (lp_mx 175) (lp_rt 175)) := rfl
theorem lp_code176 : lp_wd (lp_cp 176) = some (.code (lp_y 176) (lp_b 176) (lp_mx 176) (lp_rt 176)) := rfl
theorem lp_code177 : lp_wd (lp_cp 177) = some (.code (lp_y 177) (lp_b 177) (lp_mx 177) (lp_rt 177)) := rfl
theorem lp_code178 : lp_wd (lp_cp 178) = some (.code (lp_y 178) (lp_b 178) (lp_mx 178) (lp_rt 178)) := rfl
theorem lp_code179 : lp_wd (lp_cp 179) = some (.code (lp_y 179) (lp_b 179) (lp_mx 179) (lp_rt 179)) := rfl
theorem lp_code180 : lp_wd (lp_cp 180) = some (.code (lp_y 180) (lp_b 180) (lp_mx 180) (lp_rt 180)) := rfl
theorem lp_code181 : lp_wd (lp_cp 181) = some (.code (lp_y 181) (lp_b 181) (lp_mx 181) (lp_rt 181)) := rfl
theorem lp_code182 : lp_wd (lp_cp 182) = some (.code (lp_y 182) (lp_b 182) (lp_mx 182) (lp_rt 182)) := rfl
theorem lp_code183 : lp_wd (lp_cp 183) = some (.code (lp_y 183) (lp_b 183) (lp_mx 183) (lp_rt 183)) := rfl
theorem lp_code184 : lp_wd (lp_cp 184) = some (.code (lp_y 184) (lp_b 184) (lp_mx 184) (lp_rt 184)) := rfl
theorem lp_code185 : lp_wd (lp_cp 185) = some (.code (lp_y 185) (lp_b 185) (lp_mx 185) (lp_rt 185)) := rfl
theorem lp_code186 : lp_wd (lp_cp 186) = some (.code (lp_y 186) (lp_b 186) (lp_mx 186) (lp_rt 186)) := rfl
theorem lp_code187 : lp_wd (lp_cp 187) = some (.code (lp_y 187) (lp_b 187) (lp_mx 187) (lp_rt 187)) := rfl
theorem lp_code188 : lp_wd (lp_cp 188) = some (.code (lp_y 188) (lp_b 188) (lp_mx 188) (lp_rt 188)) := rfl
theorem lp_code189 : lp_wd (lp_cp 189) = some (.code (lp_y 189) (lp_b 189) (lp_mx 189) (lp_rt 189)) := rfl
theorem lp_code190 : lp_wd (lp_cp 190) = some (.code (lp_y 190) (lp_b 190) (lp_mx 190) (lp_rt 190)) := rfl
theorem lp_code191 : lp_wd (lp_cp 191) = some (.code (lp_y 191) (lp_b 191) (lp_mx 191) (lp_rt 191)) := rfl
theorem lp_code192 : lp_wd (lp_cp 192) = some (.code (lp_y 192) (lp_b 192) (lp_mx 192) (lp_rt 192)) := rfl
theorem lp_code193 : lp_wd (lp_cp 193) = some (.code (lp_y 193) (lp_b 193) (lp_mx 193) (lp_rt 193)) := rfl
theorem lp_code194 : lp_wd (lp_cp 194) = some (.code (lp_y 194) (lp_b 194) (lp_mx 194) (lp_rt 194)) := rfl
theorem lp_code195 : lp_wd (lp_cp 195) = some (.code (lp_y 195) (lp_b 195) (lp_mx 195) (lp_rt 195)) := rfl
theorem lp_code196 : lp_wd (lp_cp 196) = some (.code (lp_y 196) (lp_b 196) (lp_mx 196) (lp_rt 196)) := rfl
theorem lp_code197 : lp_wd (lp_cp 197) = some (.code (lp_y 197) (lp_b 197) (lp_mx 197) (lp_rt 197)) := rfl
theorem lp_code198 : lp_wd (lp_cp 198) = some (.code (lp_y 198) (lp_b 198) (lp_mx 198) (lp_rt 198)) := rfl
theorem lp_code199 : lp_wd (lp_cp 199) = some (.code (lp_y 199) (lp_b 199) (lp_mx 199) (lp_rt 199)) := rfl
theorem lp_code200 : lp_wd (lp_cp 200) = some (.code (lp_y 200) (lp_b 200) (lp_mx 200) (lp_rt 200)) := rfl
theorem lp_code201 : lp_wd (lp_cp 201) = some (.code (lp_y 201) (lp_b 201) (lp_mx 201) (lp_rt 201)) := rfl
theorem lp_code202 : lp_wd (lp_cp 202) = some (.code (lp_y 202) (lp_b 202) (lp_mx 202) (lp_rt 202)) := rfl
theorem lp_code203 : lp_wd (lp_cp 203) = some (.code (lp_y 203) (lp_b 203) (lp_mx 203) (lp_rt 203)) := rfl
theorem lp_code204 : lp_wd (lp_cp 204) = some (.code (lp_y 204) (lp_b 204) (lp_mx 204) (lp_rt 204)) := rfl
theorem lp_code205 : lp_wd (lp_cp 205) = some (.code (lp_y 205) (lp_b 205) (lp_mx 205) (lp_rt 205)) := rfl
theorem lp_code206 : lp_wd (lp_cp 206) = some (.code (lp_y 206) (lp_b 206) (lp_mx 206) (lp_rt 206)) := rfl
theorem lp_code207 : lp_wd (lp_cp 207) = some (.code (lp_y 207) (lp_b 207) (lp_mx 207) (lp_rt 207)) := rfl
theorem lp_code208 : lp_wd (lp_cp 208) = some (.code (lp_y 208) (lp_b 208) (lp_mx 208) (lp_rt 208)) := rfl
theorem lp_code209 : lp_wd (lp_cp 209) = some (.code (lp_y 209) (lp_b 209) (lp_mx 209) (lp_rt 209)) := rfl
theorem lp_code210 : lp_wd (lp_cp 210) = some (.code (lp_y 210) (lp_b 210) (lp_mx 210) (lp_rt 210)) := rfl
theorem lp_code211 : lp_wd (lp_cp 211) = some (.code (lp_y 211) (lp_b 211) (lp_mx 211) (lp_rt 211)) := rfl
theorem lp_code212 : lp_wd (lp_cp 212) = some (.code (lp_y 212) (lp_b 212) (lp_mx 212) (lp_rt 212)) := rfl
theorem lp_code213 : lp_wd (lp_cp 213) = some (.code (lp_y 213) (lp_b 213) (lp_mx 213) (lp_rt 213)) := rfl
theorem lp_code214 : lp_wd (lp_cp 214) = some (.code (lp_y 214) (lp_b 214) (lp_mx 214) (lp_rt 214)) := rfl
theorem lp_code215 : lp_wd (lp_cp 215) = some (.code (lp_y 215) (lp_b 215) (lp_mx 215) (lp_rt 215)) := rfl
theorem lp_code216 : lp_wd (lp_cp 216) = some (.code (lp_y 216) (lp_b 216) (lp_mx 216) (lp_rt 216)) := rfl
theorem lp_code217 : lp_wd (lp_cp 217) = some (.code (lp_y 217) (lp_b 217) (lp_mx 217) (lp_rt 217)) := rfl
theorem lp_code218 : lp_wd (lp_cp 218) = some (.code (lp_y 218) (lp_b 218) (lp_mx 218) (lp_rt 218)) := rfl
theorem lp_code219 : lp_wd (lp_cp 219) = some (.code (lp_y 219) (lp_b 219) (lp_mx 219) (lp_rt 219)) := rfl
theorem lp_code220 : lp_wd (lp_cp 220) = some (.code (lp_y 220) (lp_b 220) (lp_mx 220) (lp_rt 220)) := rfl
theorem lp_code221 : lp_wd (lp_cp 221) = some (.code (lp_y 221) (lp_b 221) (lp_mx 221) (lp_rt 221)) := rfl
theorem lp_code222 : lp_wd (lp_cp 222) = some (.code (lp_y 222) (lp_b 222) (lp_mx 222) (lp_rt 222)) := rfl
theorem lp_code223 : lp_wd (lp_cp 223) = some (.code (lp_y 223) (lp_b 223) (lp_mx 223) (lp_rt 223)) := rfl
theorem lp_code224 : lp_wd (lp_cp 224) = some (.code (lp_y 224) (lp_b 224) (lp_mx 224) (lp_rt 224)) := rfl
theorem lp_code225 : lp_wd (lp_cp 225) = some (.code (lp_y 225) (lp_b 225) (lp_mx 225) (lp_rt 225)) := rfl
theorem lp_code226 : lp_wd (lp_cp 226) = some (.code (lp_y 226) (lp_b 226) (lp_mx 226) (lp_rt 226)) := rfl
theorem lp_code227 : lp_wd (lp_cp 227) = some (.code (lp_y 227) (lp_b 227) (lp_mx 227) (lp_rt 227)) := rfl
theorem lp_code228 : lp_wd (lp_cp 228) = some (.code (lp_y 228) (lp_b 228) (lp_mx 228) (lp_rt 228)) := rfl
theorem lp_code229 : lp_wd (lp_cp 229) = some (.code (lp_y 229) (lp_b 229) (lp_mx 229) (lp_rt 229)) := rfl
theorem lp_code230 : lp_wd (lp_cp 230) = some (.code (lp_y 230) (lp_b 230) (lp_mx 230) (lp_rt 230)) := rfl
theorem lp_code231 : lp_wd (lp_cp 231) = some (.code (lp_y 231) (lp_b 231) (lp_mx 231) (lp_rt 231)) := rfl
theorem lp_code232 : lp_wd (lp_cp 232) = some (.code (lp_y 232) (lp_b 232) (lp_mx 232) (lp_rt 232)) := rfl
theorem lp_code233 : lp_wd (lp_cp 233) = some (.code (lp_y 233) (lp_b 233) (lp_mx 233) (lp_rt 233)) := rfl
theorem lp_code234 : lp_wd (lp_cp 234) = some (.code (lp_y 234) (lp_b 234) (lp_mx 234) (lp_rt 234)) := rfl
theorem lp_code235 : lp_wd (lp_cp 235) = some (.code (lp_y 235) (lp_b 235) (lp_mx 235) (lp_rt 235)) := rfl
theorem lp_code236 : lp_wd (lp_cp 236) = some (.code (lp_y 236) (lp_b 236) (lp_mx 236) (lp_rt 236)) := rfl
theorem lp_code237 : lp_wd (lp_cp 237) = some (.code (lp_y 237) (lp_b 237) (lp_mx 237) (lp_rt 237)) := rfl
theorem lp_code238 : lp_wd (lp_cp 238) = some (.code (lp_y 238) (lp_b 238) (lp_mx 238) (lp_rt 238)) := rfl
theorem lp_code239 : lp_wd (lp_cp 239) = some (.code (lp_y 239) (lp_b 239) (lp_mx 239) (lp_rt 239)) := rfl
theorem lp_code240 : lp_wd (lp_cp 240) = some (.code (lp_y 240) (lp_b 240) (lp_mx 240) (lp_rt 240)) := rfl
theorem lp_code241 : lp_wd (lp_cp 241) = some (.code (lp_y 241) (lp_b 241) (lp_mx 241) (lp_rt 241)) := rfl
theorem lp_code242 : lp_wd (lp_cp 242) = some (.code (lp_y 242) (lp_b 242) (lp_mx 242) (lp_rt 242)) := rfl
theorem lp_code243 : lp_wd (lp_cp 243) = some (.code (lp_y 243) (lp_b 243) (lp_mx 243) (lp_rt 243)) := rfl
theorem lp_code244 : lp_wd (lp_cp 244) = some (.code (lp_y 244) (lp_b 244) (lp_mx 244) (lp_rt 244)) := rfl
theorem lp_code245 : lp_wd (lp_cp 245) = some (.code (lp_y 245) (lp_b 245) (lp_mx 245) (lp_rt 245)) := rfl
theorem lp_code246 : lp_wd (lp_cp 246) = some (.code (lp_y 246) (lp_b 246) (lp_mx 246) (lp_rt 246)) := rfl
theorem lp_code247 : lp_wd (lp_cp 247) = some (.code (lp_y 247) (lp_b 247) (lp_mx 247) (lp_rt 247)) := rfl
theorem lp_code248 : lp_wd (lp_cp 248) = some (.code (lp_y 248) (lp_b 248) (lp_mx 248) (lp_rt 248)) := rfl
theorem lp_code249 : lp_wd (lp_cp 249) = some (.code (lp_y 249) (lp_b 249) (lp_mx 249) (lp_rt 249)) := rfl
theorem lp_code250 : lp_wd (lp_cp 250) = some (.code (lp_y 250) (lp_b 250) (lp_mx 250) (lp_rt 250)) := rfl
theorem lp_code251 : lp_wd (lp_cp 251) = some (.code (lp_y 251) (lp_b 251) (lp_mx 251) (lp_rt 251)) := rfl
theorem lp_code252 : lp_wd (lp_cp 252) = some (.code (lp_y 252) (lp_b 252) (lp_mx 252) (lp_rt 252)) := rfl
theorem lp_code253 : lp_wd (lp_cp 253) = some (.code (lp_y 253) (lp_b 253) (lp_mx 253) (lp_rt 253)) := rfl
theorem lp_code254 : lp_wd (lp_cp 254) = some (.code (lp_y 254) (lp_b 254) (lp_mx 254) (lp_rt 254)) := rfl
theorem lp_code255 : lp_wd (lp_cp 255) = some (.code (lp_y 255) (lp_b 255) (lp_mx 255) (lp_rt 255)) := rfl
theorem lp_code256 : lp_wd (lp_cp 256) = some (.code (lp_y 256) (lp_b 256) (lp_mx 256) (lp_rt 256)) := rfl
theorem lp_code257 : lp_wd (lp_cp 257) = some (.code (lp_y 257) (lp_b 257) (lp_mx 257) (lp_rt 257)) := rfl
theorem lp_code258 : lp_wd (lp_cp 258) = some (.code (lp_y 258) (lp_b 258) (lp_mx 258) (lp_rt 258)) := rfl
theorem lp_code259 : lp_wd (lp_cp 259) = some (.code (lp_y 259) (lp_b 259) (lp_mx 259) (lp_rt 259)) := rfl
theorem lp_code260 : lp_wd (lp_cp 260) = some (.code (lp_y 260) (lp_b 260) (lp_mx 260) (lp_rt 260)) := rfl
theorem lp_code261 : lp_wd (lp_cp 261) = some (.code (lp_y 261) (lp_b 261) (lp_mx 261) (lp_rt 261)) := rfl
theorem lp_code262 : lp_wd (lp_cp 262) = some (.code (lp_y 262) (lp_b 262) (lp_mx 262) (lp_rt 262)) := rfl
theorem lp_code263 : lp_wd (lp_cp 263) = some (.code (lp_y 263) (lp_b 263) (lp_mx 263) (lp_rt 263)) := rfl
theorem lp_code264 : lp_wd (lp_cp 264) = some (.code (lp_y 264) (lp_b 264) (lp_mx 264) (lp_rt 264)) := rfl
theorem lp_code265 : lp_wd (lp_cp 265) = some (.code (lp_y 265) (lp_b 265) (lp_mx 265) (lp_rt 265)) := rfl
theorem lp_code266 : lp_wd (lp_cp 266) = some (.code (lp_y 266) (lp_b 266) (lp_mx 266) (lp_rt 266)) := rfl
theorem lp_code267 : lp_wd (lp_cp 267) = some (.code (lp_y 267) (lp_b 267) (lp_mx 267) (lp_rt 267)) := rfl
theorem lp_code268 : lp_wd (lp_cp 268) = some (.code (lp_y 268) (lp_b 268) (lp_mx 268) (lp_rt 268)) := rfl
theorem lp_code269 : lp_wd (lp_cp 269) = some (.code (lp_y 269) (lp_b 269) (lp_mx 269) (lp_rt 269)) := rfl
theorem lp_code270 : lp_wd (lp_cp 270) = some (.code (lp_y 270) (lp_b 270) (lp_mx 270) (lp_rt 270)) := rfl
theorem lp_code271 : lp_wd (lp_cp 271) = some (.code (lp_y 271) (lp_b 271) (lp_mx 271) (lp_rt 271)) := rfl
theorem lp_code272 : lp_wd (lp_cp 272) = some (.code (lp_y 272) (lp_b 272) (lp_mx 272) (lp_rt 272)) := rfl
theorem lp_code273 : lp_wd (lp_cp 273) = some (.code (lp_y 273) (lp_b 273) (lp_mx 273) (lp_rt 273)) := rfl
theorem lp_code274 : lp_wd (lp_cp 274) = some (.code (lp_y 274) (lp_b 274) (lp_mx 274) (lp_rt 274)) := rfl
theorem lp_code275 : lp_wd (lp_cp 275) = some (.code (lp_y 275) (lp_b 275) (lp_mx 275) (lp_rt 275)) := rfl
theorem lp_code276 : lp_wd (lp_cp 276) = some (.code (lp_y 276) (lp_b 276) (lp_mx 276) (lp_rt 276)) := rfl
theorem lp_code277 : lp_wd (lp_cp 277) = some (.code (lp_y 277) (lp_b 277) (lp_mx 277) (lp_rt 277)) := rfl
theorem lp_code278 : lp_wd (lp_cp 278) = some (.code (lp_y 278) (lp_b 278) (lp_mx 278) (lp_rt 278)) := rfl
theorem lp_code279 : lp_wd (lp_cp 279) = some (.code (lp_y 279) (lp_b 279) (lp_mx 279) (lp_rt 279)) := rfl
theorem lp_code280 : lp_wd (lp_cp 280) = some (.code (lp_y 280) (lp_b 280) (lp_mx 280) (lp_rt 280)) := rfl
theorem lp_code281 : lp_wd (lp_cp 281) = some (.code (lp_y 281) (lp_b 281) (lp_mx 281) (lp_rt 281)) := rfl
theorem lp_code282 : lp_wd (lp_cp 282) = some (.code (lp_y 282) (lp_b 282) (lp_mx 282) (lp_rt 282)) := rfl
theorem lp_code283 : lp_wd (lp_cp 283) = some (.code (lp_y 283) (lp_b 283) (lp_mx 283) (lp_rt 283)) := rfl
theorem lp_code284 : lp_wd (lp_cp 284) = some (.code (lp_y 284) (lp_b 284) (lp_mx 284) (lp_rt 284)) := rfl
theorem lp_code285 : lp_wd (lp_cp 285) = some (.code (lp_y 285) (lp_b 285) (lp_mx 285) (lp_rt 285)) := rfl
theorem lp_code286 : lp_wd (lp_cp 286) = some (.code (lp_y 286) (lp_b 286) (lp_mx 286) (lp_rt 286)) := rfl
theorem lp_code287 : lp_wd (lp_cp 287) = some (.code (lp_y 287) (lp_b 287) (lp_mx 287) (lp_rt 287)) := rfl
theorem lp_code288 : lp_wd (lp_cp 288) = some (.code (lp_y 288) (lp_b 288) (lp_mx 288) (lp_rt 288)) := rfl
theorem lp_code289 : lp_wd (lp_cp 289) = some (.code (lp_y 289) (lp_b 289) (lp_mx 289) (lp_rt 289)) := rfl
theorem lp_code290 : lp_wd (lp_cp 290) = some (.code (lp_y 290) (lp_b 290) (lp_mx 290) (lp_rt 290)) := rfl
theorem lp_code291 : lp_wd (lp_cp 291) = some (.code (lp_y 291) (lp_b 291) (lp_mx 291) (lp_rt 291)) := rfl
theorem lp_code292 : lp_wd (lp_cp 292) = some (.code (lp_y 292) (lp_b 292) (lp_mx 292) (lp_rt 292)) := rfl
theorem lp_codeg0 (m : Nat) (h1 : 0 ≤ m) (h2 : m < 16) : lp_wd (lp_cp m) = some (.code (lp_y m) (lp_b m) (lp_mx m) (lp_rt m)) := by
  have h : m = 0 ∨ m = 1 ∨ m = 2 ∨ m = 3 ∨ m = 4 ∨ m = 5 ∨ m = 6 ∨ m = 7 ∨ m = 8 ∨ m = 9 ∨ m = 10 ∨ m = 11 ∨ m = 12 ∨ m = 13 ∨ m = 14 ∨ m = 15 := by omega
  rcases h with rfl | rfl | rfl | rfl | rfl | rfl | rfl | rfl | rfl | rfl | rfl | rfl | rfl | rfl | rfl | rfl
  · exact lp_code0
  · exact lp_code1
  · exact lp_code2
  · exact lp_code3
  · exact lp_code4
  · exact lp_code5
  · exact lp_code6
  · exact lp_code7
  · exact lp_code8
  · exact lp_code9
  · exact lp_code10
  · exact lp_code11
  · exact lp_code12
  · exact lp_code13
  · exact lp_code14
  · exact lp_code15
theorem lp_codeg16 (m : Nat) (h1 : 16 ≤ m) (h2 : m < 32) : lp_wd (lp_cp m) = some (.code (lp_y m) (lp_b m) (lp_mx m) (lp_rt m)) := by
  have h : m = 16 ∨ m = 17 ∨ m = 18 ∨ m = 19 ∨ m = 20 ∨ m = 21 ∨ m = 22 ∨ m = 23 ∨ m = 24 ∨ m = 25 ∨ m = 26 ∨ m = 27 ∨ m = 28 ∨ m = 29 ∨ m = 30 ∨ m = 31 := by omega
  rcases h with rfl | rfl | rfl | rfl | rfl | rfl | rfl | rfl | rfl | rfl | rfl | rfl | rfl | rfl | rfl | rfl
  · exact lp_code16
  · exact lp_code17
  · exact lp_code18
  · exact lp_code19
  · exact lp_code20
  · exact lp_code21
  · exact lp_code22
  · exact lp_code23
  · exact lp_code24
  · exact lp_code25
  · exact lp_code26
  · exact lp_code27
  · exact lp_code28
  · exact lp_code29
  · exact lp_code30
  · exact lp_code31
theorem lp_codeg32 (m : Nat) (h1 : 32 ≤ m) (h2 : m < 48) : lp_wd (lp_cp m) = some (.code (lp_y m) (lp_b m) (lp_mx m) (lp_rt m)) := by
  have h : m = 32 ∨ m = 33 ∨ m = 34 ∨ m = 35 ∨ m = 36 ∨ m = 37 ∨ m = 38 ∨ m = 39 ∨ m = 40 ∨ m = 41 ∨ m = 42 ∨ m = 43 ∨ m = 44 ∨ m = 45 ∨ m = 46 ∨ m = 47 := by omega
  rcases h with rfl | rfl | rfl | rfl | rfl | rfl | rfl | rfl | rfl | rfl | rfl | rfl | rfl | rfl | rfl | rfl
  · exact lp_code32
  · exact lp_code33
  · exact lp_code34
  · exact lp_code35
  · exact lp_code36
  · exact lp_code37
  · exact lp_code38
  · exact lp_code39
  · exact lp_code40
  · exact lp_code41
  · exact lp_code42
  · exact lp_code43
  · exact lp_code44
  · exact lp_code45
  · exact lp_code46
  · exact lp_code47
theorem lp_codeg48 (m : Nat) (h1 : 48 ≤ m) (h2 : m < 64) : lp_wd (lp_cp m) = some (.code (lp_y m) (lp_b m) (lp_mx m) (lp_rt m)) := by
  have h : m = 48 ∨ m = 49 ∨ m = 50 ∨ m = 51 ∨ m = 52 ∨ m = 53 ∨ m = 54 ∨ m = 55 ∨ m = 56 ∨ m = 57 ∨ m = 58 ∨ m = 59 ∨ m = 60 ∨ m = 61 ∨ m = 62 ∨ m = 63 := by omega
  rcases h with rfl | rfl | rfl | rfl | rfl | rfl | rfl | rfl | rfl | rfl | rfl | rfl | rfl | rfl | rfl | rfl
  · exact lp_code48
  · exact lp_code49
  · exact lp_code50
  · exact lp_code51
  · exact lp_code52
  · exact lp_code53
  · exact lp_code54
  · exact lp_code55
  · exact lp_code56
  · exact lp_code57
  · exact lp_code58
  · exact lp_code59
  · exact lp_code60
  · exact lp_code61
  · exact lp_code62
  · exact lp_code63
theorem lp_codeg64 (m : Nat) (h1 : 64 ≤ m) (h2 : m < 80) : lp_wd (lp_cp m) = some (.code (lp_y m) (lp_b m) (lp_mx m) (lp_rt m)) := by
  have h : m = 64 ∨ m = 65 ∨ m = 66 ∨ m = 67 ∨ m = 68 ∨ m = 69 ∨ m = 70 ∨ m = 71 ∨ m = 72 ∨ m = 73 ∨ m = 74 ∨ m = 75 ∨ m = 76 ∨ m = 77 ∨ m = 78 ∨ m = 79 := by omega
  rcases h with rfl | rfl | rfl | rfl | rfl | rfl | rfl | rfl | rfl | rfl | rfl | rfl | rfl | rfl | rfl | rfl
  · exact lp_code64
  · exact lp_code65
  · exact lp_code66
  · exact lp_code67
  · exact lp_code68
  · exact lp_code69
  · exact lp_code70
  · exact lp_code71
  · exact lp_code72
  · exact lp_code73
  · exact lp_code74
  · exact lp_code75
  · exact lp_code76
  · exact lp_code77
  · exact lp_code78
  · exact lp_code79
theorem lp_codeg80 (m : Nat) (h1 : 80 ≤ m) (h2 : m < 96) : lp_wd (lp_cp m) = some (.code (lp_y m) (lp_b m) (lp_mx m) (lp_rt m)) := by
  have h : m = 80 ∨ m = 81 ∨ m = 82 ∨ m = 83 ∨ m = 84 ∨ m = 85 ∨ m = 86 ∨ m = 87 ∨ m = 88 ∨ m = 89 ∨ m = 90 ∨ m = 91 ∨ m = 92 ∨ m = 93 ∨ m = 94 ∨ m = 95 := by omega
  rcases h with rfl | rfl | rfl | rfl | rfl | rfl | rfl | rfl | rfl | rfl | rfl | rfl | rfl | rfl | rfl | rfl
  · exact lp_code80
  · exact lp_code81
  · exact lp_code82
  · exact lp_code83
  · exact lp_code84
  · exact lp_code85
  · exact lp_code86
  · exact lp_code87
  · exact lp_code88
  · exact lp_code89
  · exact lp_code90
  · exact lp_code91
  · exact lp_code92
  · exact lp_code93
  · exact lp_code94
  · exact lp_code95
theorem lp_codeg96 (m : Nat) (h1 : 96 ≤ m) (h2 : m < 112) : lp_wd (lp_cp m) = some (.code (lp_y m) (lp_b m) (lp_mx m) (lp_rt m)) := by
  have h : m = 96 ∨ m = 97 ∨ m = 98 ∨ m = 99 ∨ m = 100 ∨ m = 101 ∨ m = 102 ∨ m = 103 ∨ m = 104 ∨ m = 105 ∨ m = 106 ∨ m = 107 ∨ m = 108 ∨ m = 109 ∨ m = 110 ∨ m = 111 := by omega
  rcases h with rfl | rfl | rfl | rfl | rfl | rfl | rfl | rfl | rfl | rfl | rfl | rfl | rfl | rfl | rfl | rfl
  · exact lp_code96
  · exact lp_code97
  · exact lp_code98
  · exact lp_code99
  · exact lp_code100
  · exact lp_code101
  · exact lp_code102
  · exact lp_code103
  · exact lp_code104
  · exact lp_code105
  · exact lp_code106
  · exact lp_code107
  · exact lp_code108
  · exact lp_code109
  · exact lp_code110
  · exact lp_code111
theorem lp_codeg112 (m : Nat) (h1 : 112 ≤ m) (h2 : m < 128) : lp_wd (lp_cp m) = some (.code (lp_y m) (lp_b m) (lp_mx m) (lp_rt m)) := by
  have h : m = 112 ∨ m = 113 ∨ m = 114 ∨ m = 115 ∨ m = 116 ∨ m = 117 ∨ m = 118 ∨ m = 119 ∨ m = 120 ∨ m = 121 ∨ m = 122 ∨ m = 123 ∨ m = 124 ∨ m = 125 ∨ m = 126 ∨ m = 127 := by omega
  rcases h with rfl | rfl | rfl | rfl | rfl | rfl | rfl | rfl | rfl | rfl | rfl | rfl | rfl | rfl | rfl | rfl
  · exact lp_code112
  · exact lp_code113
  · exact lp_code114
  · exact lp_code115
  · exact lp_code116
  · exact lp_code117
  · exact lp_code118
  · exact lp_code119
  · exact lp_code120
  · exact lp_code121
  · exact lp_code122
  · exact lp_code123
  · exact lp_code124
  · exact lp_code125
  · exact lp_code126
  · exact lp_code127
theorem lp_codeg128 (m : Nat) (h1 : 128 ≤ m) (h2 : m < 144) : lp_wd (lp_cp m) = some (.code (lp_y m) (lp_b m) (lp_mx m) (lp_rt m)) := by
  have h : m = 128 ∨ m = 129 ∨ m = 130 ∨ m = 131 ∨ m = 132 ∨ m = 133 ∨ m = 134 ∨ m = 135 ∨ m = 136 ∨ m = 137 ∨ m = 138 ∨ m = 139 ∨ m = 140 ∨ m = 141 ∨ m = 142 ∨ m = 143 := by omega
  rcases h with rfl | rfl | rfl | rfl | rfl | rfl | rfl | rfl | rfl | rfl | rfl | rfl | rfl | rfl | rfl | rfl
  · exact lp_code128
  · exact lp_code129
  · exact lp_code130
  · exact lp_code131
  · exact lp_code132
  · exact lp_code133
  · exact lp_code134
  · exact lp_code135
  · exact lp_code136
  · exact lp_code137
  · exact lp_code138
  · exact lp_code139
  · exact lp_code140
  · exact lp_code141
  · exact lp_code142
  · exact lp_code143
theorem lp_codeg144 (m : Nat) (h1 : 144 ≤ m) (h2 : m < 160) : lp_wd (lp_cp m) = some (.code (lp_y m) (lp_b m) (lp_mx m) (lp_rt m)) := by
  have h : m = 144 ∨ m = 145 ∨ m = 146 ∨ m = 147 ∨ m = 148 ∨ m = 149 ∨ m = 150 ∨ m = 151 ∨ m = 152 ∨ m = 153 ∨ m = 154 ∨ m = 155 ∨ m = 156 ∨ m = 157 ∨ m = 158 ∨ m = 159 := by omega
  rcases h with rfl | rfl | rfl | rfl | rfl | rfl | rfl | rfl | rfl | rfl | rfl | rfl | rfl | rfl | rfl | rfl
  · exact lp_code144
  · exact lp_code145
  · exact lp_code146
  · exact lp_code147
  · exact lp_code148
  · exact lp_code149
  · exact lp_code150
  · exact lp_code151
  · exact lp_code152
  · exact lp_code153
  · exact lp_code154
  · exact lp_code155
  · exact lp_code156
  · exact lp_code157
  · exact lp_code158
  · exact lp_code159
theorem lp_codeg160 (m : Nat) (h1 : 160 ≤ m) (h2 : m < 176) : lp_wd (lp_cp m) = some (.code (lp_y m) (lp_b m) (lp_mx m) (lp_rt m)) := by
  have h : m = 160 ∨ m = 161 ∨ m = 162 ∨ m = 163 ∨ m = 164 ∨ m = 165 ∨ m = 166 ∨ m = 167 ∨ m = 168 ∨ m = 169 ∨ m = 170 ∨ m = 171 ∨ m = 172 ∨ m = 173 ∨ m = 174 ∨ m = 175 := by omega
  rcases h with rfl | rfl | rfl | rfl | rfl | rfl | rfl | rfl | rfl | rfl | rfl | rfl | rfl | rfl | rfl | rfl
  · exact lp_code160
  · exact lp_code161
  · exact lp_code162
  · exact lp_code163
  · exact lp_code164
  · exact lp_code165
  · exact lp_code166
  · exact lp_code167
  · exact lp_code168
  · exact lp_code169
  · exact lp_code170
  · exact lp_code171
  · exact lp_code172
  · exact lp_code173
  · exact lp_code174
  · exact lp_code175
theorem lp_codeg176 (m : Nat) (h1 : 176 ≤ m) (h2 : m < 192) : lp_wd (lp_cp m) = some (.code (lp_y m) (lp_b m) (lp_mx m) (lp_rt m)) := by
  have h : m = 176 ∨ m = 177 ∨ m = 178 ∨ m = 179 ∨ m = 180 ∨ m = 181 ∨ m = 182 ∨ m = 183 ∨ m = 184 ∨ m = 185 ∨ m = 186 ∨ m = 187 ∨ m = 188 ∨ m = 189 ∨ m = 190 ∨ m = 191 := by omega
  rcases h with rfl | rfl | rfl | rfl | rfl | rfl | rfl | rfl | rfl | rfl | rfl | rfl | rfl | rfl | rfl | rfl
  · exact lp_code176
  · exact lp_code177
  · exact lp_code178
  · exact lp_code179
  · exact lp_code180
  · exact lp_code181
  · exact lp_code182
  · exact lp_code183
  · exact lp_code184
  · exact lp_code185
  · exact lp_code186
  · exact lp_code187
  · exact lp_code188
  · exact lp_code189
  · exact lp_code190
  · exact lp_code191
theorem lp_codeg192 (m : Nat) (h1 : 192 ≤ m) (h2 : m < 208) : lp_wd (lp_cp m) = some (.code (lp_y m) (lp_b m) (lp_mx m) (lp_rt m)) := by
  have h : m = 192 ∨ m = 193 ∨ m = 194 ∨ m = 195 ∨ m = 196 ∨ m = 197 ∨ m = 198 ∨ m = 199 ∨ m = 200 ∨ m = 201 ∨ m = 202 ∨ m = 203 ∨ m = 204 ∨ m = 205 ∨ m = 206 ∨ m = 207 := by omega
  rcases h with rfl | rfl | rfl | rfl | rfl | rfl | rfl | rfl | rfl | rfl | rfl | rfl | rfl | rfl | rfl | rfl
  · exact lp_code192
  · exact lp_code193
  · exact lp_code194
  · exact lp_code195
  · exact lp_code196
  · exact lp_code197
  · exact lp_code198
  · exact lp_code199
  · exact lp_code200
  · exact lp_code201
  · exact lp_code202
  · exact lp_code203
  · exact lp_code204
  · exact lp_code205
  · exact lp_code206
  · exact lp_code207
theorem lp_codeg208 (m : Nat) (h1 : 208 ≤ m) (h2 : m < 224) : lp_wd (lp_cp m) = some (.code (lp_y m) (lp_b m) (lp_mx m) (lp_rt m)) := by
  have h : m = 208 ∨ m = 209 ∨ m = 210 ∨ m = 211 ∨ m = 212 ∨ m = 213 ∨ m = 214 ∨ m = 215 ∨ m = 216 ∨ m = 217 ∨ m = 218 ∨ m = 219 ∨ m = 220 ∨ m = 221 ∨ m = 222 ∨ m = 223 := by omega
  rcases h with rfl | rfl | rfl | rfl | rfl | rfl | rfl | rfl | rfl | rfl | rfl | rfl | rfl | rfl | rfl | rfl
  · exact lp_code208
  · exact lp_code209
  · exact lp_code210
  · exact lp_code211
  · exact lp_code212
  · exact lp_code213
  · exact lp_code214
  · exact lp_code215
  · exact lp_code216
  · exact lp_code217
  · exact lp_code218
  · exact lp_code219
  · exact lp_code220
  · exact lp_code221
  · exact lp_code222
  · exact lp_code223
theorem lp_codeg224 (m : Nat) (h1 : 224 ≤ m) (h2 : m < 240) : lp_wd (lp_cp m) = some (.code (lp_y m) (lp_b m) (lp_mx m) (lp_rt m)) := by
  have h : m = 224 ∨ m = 225 ∨ m = 226 ∨ m = 227 ∨ m = 228 ∨ m = 229 ∨ m = 230 ∨ m = 231 ∨ m = 232 ∨ m = 233 ∨ m = 234 ∨ m = 235 ∨ m = 236 ∨ m = 237 ∨ m = 238 ∨ m = 239 := by omega
  rcases h with rfl | rfl | rfl | rfl | rfl | rfl | rfl | rfl | rfl | rfl | rfl | rfl | rfl | rfl | rfl | rfl
  · exact lp_code224
  · exact lp_code225
  · exact lp_code226
  · exact lp_code227
  · exact lp_code228
  · exact lp_code229
  · exact lp_code230
  · exact lp_code231
  · exact lp_code232
  · exact lp_code233
  · exact lp_code234
  · exact lp_code235
  · exact lp_code236
  · exact lp_code237
  · exact lp_code238
  · exact lp_code239
theorem lp_codeg240 (m : Nat) (h1 : 240 ≤ m) (h2 : m < 256) : lp_wd (lp_cp m) = some (.code (lp_y m) (lp_b m) (lp_mx m) (lp_rt m)) := by
  have h : m = 240 ∨ m = 241 ∨ m = 242 ∨ m = 243 ∨ m = 244 ∨ m = 245 ∨ m = 246 ∨ m = 247 ∨ m = 248 ∨ m = 249 ∨ m = 250 ∨ m = 251 ∨ m = 252 ∨ m = 253 ∨ m = 254 ∨ m = 255 := by omega
  rcases h with rfl | rfl | rfl | rfl | rfl | rfl | rfl | rfl | rfl | rfl | rfl | rfl | rfl | rfl | rfl | rfl
  · exact lp_code240
  · exact lp_code241
  · exact lp_code242
  · exact lp_code243
  · exact lp_code244
  · exact lp_code245
  · exact lp_code246
  · exact lp_code247
  · exact lp_code248
  · exact lp_code249
  · exact lp_code250
  · exact lp_code251
  · exact lp_code252
  · exact lp_code253
  · exact lp_code254
  · exact lp_code255
theorem lp_codeg256 (m : Nat) (h1 : 256 ≤ m) (h2 : m < 272) : lp_wd (lp_cp m) = some (.code (lp_y m) (lp_b m) (lp_mx m) (lp_rt m)) := by
  have h : m = 256 ∨ m = 257 ∨ m = 258 ∨ m = 259 ∨ m = 260 ∨ m = 261 ∨ m = 262 ∨ m = 263 ∨ m = 264 ∨ m = 265 ∨ m = 266 ∨ m = 267 ∨ m = 268 ∨ m = 269 ∨ m = 270 ∨ m = 271 := by omega
  rcases h with rfl | rfl | rfl | rfl | rfl | rfl | rfl | rfl | rfl | rfl | rfl | rfl | rfl | rfl | rfl | rfl
  · exact lp_code256
  · exact lp_code257
  · exact lp_code258
  · exact lp_code259
  · exact lp_code260
  · exact lp_code261
  · exact lp_code262
  · exact lp_code263
  · exact lp_code264
  · exact lp_code265
  · exact lp_code266
  · exact lp_code267
  · exact lp_code268
  · exact lp_code269
  · exact lp_code270
  · exact lp_code271
theorem lp_codeg272 (m : Nat) (h1 : 272 ≤ m) (h2 : m < 288) : lp_wd (lp_cp m) = some (.code (lp_y m) (lp_b m) (lp_mx m) (lp_rt m)) := by
  have h : m = 272 ∨ m = 273 ∨ m = 274 ∨ m = 275 ∨ m = 276 ∨ m = 277 ∨ m = 278 ∨ m = 279 ∨ m = 280 ∨ m = 281 ∨ m = 282 ∨ m = 283 ∨ m = 284 ∨ m = 285 ∨ m = 286 ∨ m = 287 := by omega
  rcases h with rfl | rfl | rfl | rfl | rfl | rfl | rfl | rfl | rfl | rfl | rfl | rfl | rfl | rfl | rfl | rfl
  · exact lp_code272
  · exact lp_code273
  · exact lp_code274
  · exact lp_code275
  · exact lp_code276
  · exact lp_code277
  · exact lp_code278
  · exact lp_code279
  · exact lp_code280
  · exact lp_code281
  · exact lp_code282
  · exact lp_code283
  · exact lp_code284
  · exact lp_code285
  · exact lp_code286
  · exact lp_code287
theorem lp_codeg288 (m : Nat) (h1 : 288 ≤ m) (h2 : m < 293) : lp_wd (lp_cp m) = some (.code (lp_y m) (lp_b m) (lp_mx m) (lp_rt m)) := by
  have h : m = 288 ∨ m = 289 ∨ m = 290 ∨ m = 291 ∨ m = 292 := by omega
  rcases h with rfl | rfl | rfl | rfl | rfl
  · exact lp_code288
  · exact lp_code289
  · exact lp_code290
  · exact lp_code291
  · exact lp_code292
theorem lp_code_all (m : Nat) (h : m < 293) : lp_wd (lp_cp m) = some (.code (lp_y m) (lp_b m) (lp_mx m) (lp_rt m)) := by
  by_cases h0 : m < 16
  · exact lp_codeg0 m (by omega) h0
  by_cases h16 : m < 32
  · exact lp_codeg16 m (by omega) h16
  by_cases h32 : m < 48
  · exact lp_codeg32 m (by omega) h32
  by_cases h48 : m < 64
  · exact lp_codeg48 m (by omega) h48
  by_cases h64 : m < 80
  · exact lp_codeg64 m (by omega) h64
  by_cases h80 : m < 96
  · exact lp_codeg80 m (by omega) h80
  by_cases h96 : m < 112
  · exact lp_codeg96 m (by omega) h96
  by_cases h112 : m < 128
  · exact lp_codeg112 m (by omega) h112
  by_cases h128 : m < 144
  · exact lp_codeg128 m (by omega) h128
  by_cases h144 : m < 160
  · exact lp_codeg144 m (by omega) h144
  by_cases h160 : m < 176
  · exact lp_codeg160 m (by omega) h160
  by_cases h176 : m < 192
  · exact lp_codeg176 m (by omega) h176
  by_cases h192 : m < 208
  · exact lp_codeg192 m (by omega) h192
  by_cases h208 : m < 224
  · exact lp_codeg208 m (by omega) h208
  by_cases h224 : m < 240
  · exact lp_codeg224 m (by omega) h224
  by_cases h240 : m < 256
  · exact lp_codeg240 m (by omega) h240
  by_cases h256 : m < 272
  · exact lp_codeg256 m (by omega) h256
  by_cases h272 : m < 288
  · exact lp_codeg272 m (by omega) h272
  exact lp_codeg288 m (by omega) (by omega)
/-- 0 virtual, 1 static, 2 a constructor, 4 virtual and private -/
def lp_kd (m : Nat) : Nat := (bif Nat.ble 179 m then (bif Nat.ble 230 m then (bif Nat.ble 260 m then (bif Nat.ble 281 m then (bif Nat.ble 289 m then (bif Nat.ble 293 m then (bif Nat.ble 294 m then 9 else 3) else 1) else (bif Nat.ble 282 m then (bif Nat.ble 285 m then 0 else 1) else 0)) else (bif Nat.ble 268 m then (bif Nat.ble 269 m then (bif Nat.ble 272 m then 4 else 0) else 4) else (bif Nat.ble 266 m then 0 else 4))) else (bif Nat.ble 237 m then (bif Nat.ble 240 m then (bif Nat.ble 246 m then (bif Nat.ble 251 m then 0 else 4) else 0) else (bif Nat.ble 239 m then 4 else 0)) else (bif Nat.ble 232 m then (bif Nat.ble 233 m then (bif Nat.ble 236 m then 4 else 0) else 4) else (bif Nat.ble 231 m then 0 else 4)))) else (bif Nat.ble 196 m then (bif Nat.ble 216 m then (bif Nat.ble 223 m then (bif Nat.ble 226 m then (bif Nat.ble 227 m then 0 else 4) else 0) else (bif Nat.ble 217 m then (bif Nat.ble 219 m then 4 else 0) else 4)) else (bif Nat.ble 210 m then (bif Nat.ble 212 m then (bif Nat.ble 213 m then 0 else 4) else 0) else (bif Nat.ble 197 m then 4 else 1))) else (bif Nat.ble 187 m then (bif Nat.ble 192 m then (bif Nat.ble 193 m then (bif Nat.ble 194 m then 0 else 4) else 0) else (bif Nat.ble 191 m then 1 else 0)) else (bif Nat.ble 181 m then (bif Nat.ble 182 m then (bif Nat.ble 185 m then 4 else 0) else 4) else (bif Nat.ble 180 m then 0 else 1))))) else (bif Nat.ble 56 m then (bif Nat.ble 77 m then (bif Nat.ble 163 m then (bif Nat.ble 174 m then (bif Nat.ble 175 m then (bif Nat.ble 176 m then 0 else 4) else 0) else (bif Nat.ble 167 m then (bif Nat.ble 172 m then 1 else 4) else 1)) else (bif Nat.ble 133 m then (bif Nat.ble 157 m then (bif Nat.ble 162 m then 2 else 1) else 4) else (bif Nat.ble 78 m then 0 else 2))) else (bif Nat.ble 68 m then (bif Nat.ble 70 m then (bif Nat.ble 75 m then (bif Nat.ble 76 m then 0 else 2) else 0) else (bif Nat.ble 69 m then 4 else 0)) else (bif Nat.ble 58 m then (bif Nat.ble 59 m then (bif Nat.ble 63 m then 4 else 0) else 2) else (bif Nat.ble 57 m then 4 else 1)))) else (bif Nat.ble 18 m then (bif Nat.ble 39 m then (bif Nat.ble 52 m then (bif Nat.ble 54 m then (bif Nat.ble 55 m then 0 else 2) else 1) else (bif Nat.ble 40 m then (bif Nat.ble 41 m then 4 else 0) else 2)) else (bif Nat.ble 27 m then (bif Nat.ble 36 m then (bif Nat.ble 37 m then 0 else 2) else 0) else (bif Nat.ble 26 m then 1 else 0))) else (bif Nat.ble 11 m then (bif Nat.ble 15 m then (bif Nat.ble 16 m then (bif Nat.ble 17 m then 2 else 0) else 4) else (bif Nat.ble 12 m then 0 else 2)) else (bif Nat.ble 4 m then (bif Nat.ble 5 m then (bif Nat.ble 6 m then 4 else 0) else 2) else (bif Nat.ble 1 m then 0 else 2))))))
def lp_sp (m : Nat) : Nat := (bif Nat.ble 147 m then (bif Nat.ble 220 m then (bif Nat.ble 257 m then (bif Nat.ble 275 m then (bif Nat.ble 284 m then (bif Nat.ble 289 m then (bif Nat.ble 291 m then (bif Nat.ble 292 m then (bif Nat.ble 293 m then 0 else 0) else 0) else (bif Nat.ble 290 m then 0 else 0)) else (bif Nat.ble 286 m then (bif Nat.ble 287 m then (bif Nat.ble 288 m then 1169 else 1159) else 1165) else (bif Nat.ble 285 m then 1155 else 0))) else (bif Nat.ble 279 m then (bif Nat.ble 281 m then (bif Nat.ble 282 m then (bif Nat.ble 283 m then 0 else 0) else 6167) else (bif Nat.ble 280 m then 97 else 102)) else (bif Nat.ble 277 m then (bif Nat.ble 278 m then 100 else 99) else (bif Nat.ble 276 m then 101 else 98)))) else (bif Nat.ble 266 m then (bif Nat.ble 270 m then (bif Nat.ble 272 m then (bif Nat.ble 273 m then (bif Nat.ble 274 m then 95 else 96) else 88) else (bif Nat.ble 271 m then 6163 else 6159)) else (bif Nat.ble 268 m then (bif Nat.ble 269 m then 6151 else 94) else (bif Nat.ble 267 m then 6147 else 6115))) else (bif Nat.ble 261 m then (bif Nat.ble 263 m then (bif Nat.ble 264 m then (bif Nat.ble 265 m then 92 else 91) else 93) else (bif Nat.ble 262 m then 90 else 87)) else (bif Nat.ble 259 m then (bif Nat.ble 260 m then 89 else 6111) else (bif Nat.ble 258 m then 6107 else 6103))))) else (bif Nat.ble 238 m then (bif Nat.ble 247 m then (bif Nat.ble 252 m then (bif Nat.ble 254 m then (bif Nat.ble 255 m then (bif Nat.ble 256 m then 6099 else 6095) else 6087) else (bif Nat.ble 253 m then 6083 else 6079)) else (bif Nat.ble 249 m then (bif Nat.ble 250 m then (bif Nat.ble 251 m then 6059 else 83) else 85) else (bif Nat.ble 248 m then 86 else 84))) else (bif Nat.ble 242 m then (bif Nat.ble 244 m then (bif Nat.ble 245 m then (bif Nat.ble 246 m then 82 else 6055) else 6050) else (bif Nat.ble 243 m then 6046 else 6042)) else (bif Nat.ble 240 m then (bif Nat.ble 241 m then 6038 else 6030) else (bif Nat.ble 239 m then 81 else 6026)))) else (bif Nat.ble 229 m then (bif Nat.ble 233 m then (bif Nat.ble 235 m then (bif Nat.ble 236 m then (bif Nat.ble 237 m then 6018 else 80) else 6014) else (bif Nat.ble 234 m then 6010 else 6002)) else (bif Nat.ble 231 m then (bif Nat.ble 232 m then 79 else 5238) else (bif Nat.ble 230 m then 57 else 5234))) else (bif Nat.ble 224 m then (bif Nat.ble 226 m then (bif Nat.ble 227 m then (bif Nat.ble 228 m then 5230 else 5222) else 78) else (bif Nat.ble 225 m then 5218 else 5214)) else (bif Nat.ble 222 m then (bif Nat.ble 223 m then 5194 else 74) else (bif Nat.ble 221 m then 75 else 77)))))) else (bif Nat.ble 183 m then (bif Nat.ble 201 m then (bif Nat.ble 210 m then (bif Nat.ble 215 m then (bif Nat.ble 217 m then (bif Nat.ble 218 m then (bif Nat.ble 219 m then 76 else 5190) else 5182) else (bif Nat.ble 216 m then 73 else 5174)) else (bif Nat.ble 212 m then (bif Nat.ble 213 m then (bif Nat.ble 214 m then 5166 else 5158) else 70) else (bif Nat.ble 211 m then 5154 else 5150))) else (bif Nat.ble 205 m then (bif Nat.ble 207 m then (bif Nat.ble 208 m then (bif Nat.ble 209 m then 72 else 68) else 58) else (bif Nat.ble 206 m then 66 else 67)) else (bif Nat.ble 203 m then (bif Nat.ble 204 m then 65 else 64) else (bif Nat.ble 202 m then 71 else 59)))) else (bif Nat.ble 192 m then (bif Nat.ble 196 m then (bif Nat.ble 198 m then (bif Nat.ble 199 m then (bif Nat.ble 200 m then 62 else 60) else 63) else (bif Nat.ble 197 m then 61 else 0)) else (bif Nat.ble 194 m then (bif Nat.ble 195 m then 5146 else 5138) else (bif Nat.ble 193 m then 69 else 5134))) else (bif Nat.ble 187 m then (bif Nat.ble 189 m then (bif Nat.ble 190 m then (bif Nat.ble 191 m then 0 else 5127) else 5073) else (bif Nat.ble 188 m then 5065 else 5053)) else (bif Nat.ble 185 m then (bif Nat.ble 186 m then 55 else 56) else (bif Nat.ble 184 m then 5049 else 5045))))) else (bif Nat.ble 165 m then (bif Nat.ble 174 m then (bif Nat.ble 178 m then (bif Nat.ble 180 m then (bif Nat.ble 181 m then (bif Nat.ble 182 m then 5037 else 54) else 5030) else (bif Nat.ble 179 m then 0 else 5026)) else (bif Nat.ble 176 m then (bif Nat.ble 177 m then 5022 else 5007) else (bif Nat.ble 175 m then 53 else 4218))) else (bif Nat.ble 169 m then (bif Nat.ble 171 m then (bif Nat.ble 172 m then (bif Nat.ble 173 m then 0 else 0) else 48) else (bif Nat.ble 170 m then 52 else 50)) else (bif Nat.ble 167 m then (bif Nat.ble 168 m then 49 else 51) else (bif Nat.ble 166 m then 0 else 0)))) else (bif Nat.ble 156 m then (bif Nat.ble 160 m then (bif Nat.ble 162 m then (bif Nat.ble 163 m then (bif Nat.ble 164 m then 0 else 0) else 0) else (bif Nat.ble 161 m then 0 else 0)) else (bif Nat.ble 158 m then (bif Nat.ble 159 m then 0 else 0) else (bif Nat.ble 157 m then 0 else 47))) else (bif Nat.ble 151 m then (bif Nat.ble 153 m then (bif Nat.ble 154 m then (bif Nat.ble 155 m then 46 else 45) else 43) else (bif Nat.ble 152 m then 42 else 33)) else (bif Nat.ble 149 m then (bif Nat.ble 150 m then 31 else 30) else (bif Nat.ble 148 m then 26 else 24))))))) else (bif Nat.ble 73 m then (bif Nat.ble 110 m then (bif Nat.ble 128 m then (bif Nat.ble 137 m then (bif Nat.ble 142 m then (bif Nat.ble 144 m then (bif Nat.ble 145 m then (bif Nat.ble 146 m then 25 else 27) else 34) else (bif Nat.ble 143 m then 35 else 32)) else (bif Nat.ble 139 m then (bif Nat.ble 140 m then (bif Nat.ble 141 m then 14 else 36) else 28) else (bif Nat.ble 138 m then 16 else 17))) else (bif Nat.ble 132 m then (bif Nat.ble 134 m then (bif Nat.ble 135 m then (bif Nat.ble 136 m then 11 else 12) else 13) else (bif Nat.ble 133 m then 15 else 4087)) else (bif Nat.ble 130 m then (bif Nat.ble 131 m then 4075 else 4028) else (bif Nat.ble 129 m then 4024 else 4020)))) else (bif Nat.ble 119 m then (bif Nat.ble 123 m then (bif Nat.ble 125 m then (bif Nat.ble 126 m then (bif Nat.ble 127 m then 4016 else 4012) else 4004) else (bif Nat.ble 124 m then 4000 else 3236)) else (bif Nat.ble 121 m then (bif Nat.ble 122 m then 3232 else 3182) else (bif Nat.ble 120 m then 3174 else 3170))) else (bif Nat.ble 114 m then (bif Nat.ble 116 m then (bif Nat.ble 117 m then (bif Nat.ble 118 m then 3166 else 3162) else 3158) else (bif Nat.ble 115 m then 3154 else 3138)) else (bif Nat.ble 112 m then (bif Nat.ble 113 m then 3134 else 3126) else (bif Nat.ble 111 m then 3114 else 3110))))) else (bif Nat.ble 91 m then (bif Nat.ble 100 m then (bif Nat.ble 105 m then (bif Nat.ble 107 m then (bif Nat.ble 108 m then (bif Nat.ble 109 m then 3106 else 3094) else 3090) else (bif Nat.ble 106 m then 3086 else 3077)) else (bif Nat.ble 102 m then (bif Nat.ble 103 m then (bif Nat.ble 104 m then 3069 else 3035) else 3031) else (bif Nat.ble 101 m then 3027 else 3023))) else (bif Nat.ble 95 m then (bif Nat.ble 97 m then (bif Nat.ble 98 m then (bif Nat.ble 99 m then 3012 else 3008) else 3004) else (bif Nat.ble 96 m then 2238 else 2230)) else (bif Nat.ble 93 m then (bif Nat.ble 94 m then 2226 else 2204) else (bif Nat.ble 92 m then 2200 else 2195)))) else (bif Nat.ble 82 m then (bif Nat.ble 86 m then (bif Nat.ble 88 m then (bif Nat.ble 89 m then (bif Nat.ble 90 m then 2185 else 2116) else 2107) else (bif Nat.ble 87 m then 2091 else 2087)) else (bif Nat.ble 84 m then (bif Nat.ble 85 m then 2079 else 2075) else (bif Nat.ble 83 m then 2066 else 2050))) else (bif Nat.ble 77 m then (bif Nat.ble 79 m then (bif Nat.ble 80 m then (bif Nat.ble 81 m then 2029 else 1120) else 1116) else (bif Nat.ble 78 m then 1108 else 0)) else (bif Nat.ble 75 m then (bif Nat.ble 76 m then 1112 else 0) else (bif Nat.ble 74 m then 3065 else 3073)))))) else (bif Nat.ble 36 m then (bif Nat.ble 54 m then (bif Nat.ble 63 m then (bif Nat.ble 68 m then (bif Nat.ble 70 m then (bif Nat.ble 71 m then (bif Nat.ble 72 m then 3208 else 2178) else 2174) else (bif Nat.ble 69 m then 23 else 2161)) else (bif Nat.ble 65 m then (bif Nat.ble 66 m then (bif Nat.ble 67 m then 22 else 21) else 20) else (bif Nat.ble 64 m then 19 else 18))) else (bif Nat.ble 58 m then (bif Nat.ble 60 m then (bif Nat.ble 61 m then (bif Nat.ble 62 m then 2133 else 3130) else 3122) else (bif Nat.ble 59 m then 2128 else 0)) else (bif Nat.ble 56 m then (bif Nat.ble 57 m then 29 else 0) else (bif Nat.ble 55 m then 3052 else 0)))) else (bif Nat.ble 45 m then (bif Nat.ble 49 m then (bif Nat.ble 51 m then (bif Nat.ble 52 m then (bif Nat.ble 53 m then 0 else 0) else 1) else (bif Nat.ble 50 m then 2 else 0)) else (bif Nat.ble 47 m then (bif Nat.ble 48 m then 3 else 5) else (bif Nat.ble 46 m then 7 else 6))) else (bif Nat.ble 40 m then (bif Nat.ble 42 m then (bif Nat.ble 43 m then (bif Nat.ble 44 m then 9 else 10) else 8) else (bif Nat.ble 41 m then 4 else 1124)) else (bif Nat.ble 38 m then (bif Nat.ble 39 m then 0 else 2234) else (bif Nat.ble 37 m then 2041 else 0))))) else (bif Nat.ble 18 m then (bif Nat.ble 27 m then (bif Nat.ble 31 m then (bif Nat.ble 33 m then (bif Nat.ble 34 m then (bif Nat.ble 35 m then 3102 else 2216) else 2208) else (bif Nat.ble 32 m then 2212 else 4092)) else (bif Nat.ble 29 m then (bif Nat.ble 30 m then 3146 else 2111) else (bif Nat.ble 28 m then 3150 else 2095))) else (bif Nat.ble 22 m then (bif Nat.ble 24 m then (bif Nat.ble 25 m then (bif Nat.ble 26 m then 0 else 2059) else 1234) else (bif Nat.ble 23 m then 2055 else 1230)) else (bif Nat.ble 20 m then (bif Nat.ble 21 m then 2009 else 1128) else (bif Nat.ble 19 m then 2033 else 2003)))) else (bif Nat.ble 9 m then (bif Nat.ble 13 m then (bif Nat.ble 15 m then (bif Nat.ble 16 m then (bif Nat.ble 17 m then 0 else 4071) else 44) else (bif Nat.ble 14 m then 4041 else 4045)) else (bif Nat.ble 11 m then (bif Nat.ble 12 m then 4036 else 0) else (bif Nat.ble 10 m then 41 else 40))) else (bif Nat.ble 4 m then (bif Nat.ble 6 m then (bif Nat.ble 7 m then (bif Nat.ble 8 m then 39 else 38) else 37) else (bif Nat.ble 5 m then 3198 else 0)) else (bif Nat.ble 2 m then (bif Nat.ble 3 m then 2016 else 3178) else (bif Nat.ble 1 m then 2102 else 0))))))))
def lp_mp (m : Nat) : Nat := (bif Nat.ble 147 m then (bif Nat.ble 220 m then (bif Nat.ble 257 m then (bif Nat.ble 275 m then (bif Nat.ble 284 m then (bif Nat.ble 289 m then (bif Nat.ble 291 m then (bif Nat.ble 292 m then (bif Nat.ble 293 m then 0 else 1180) else 2136) else (bif Nat.ble 290 m then 1172 else 1175)) else (bif Nat.ble 286 m then (bif Nat.ble 287 m then (bif Nat.ble 288 m then 1168 else 1158) else 1164) else (bif Nat.ble 285 m then 1154 else 2045))) else (bif Nat.ble 279 m then (bif Nat.ble 281 m then (bif Nat.ble 282 m then (bif Nat.ble 283 m then 1041 else 2219) else 6166) else (bif Nat.ble 280 m then 6179 else 6199)) else (bif Nat.ble 277 m then (bif Nat.ble 278 m then 6191 else 6187) else (bif Nat.ble 276 m then 6195 else 6183)))) else (bif Nat.ble 266 m then (bif Nat.ble 270 m then (bif Nat.ble 272 m then (bif Nat.ble 273 m then (bif Nat.ble 274 m then 6171 else 6175) else 6123) else (bif Nat.ble 271 m then 6162 else 6158)) else (bif Nat.ble 268 m then (bif Nat.ble 269 m then 6150 else 6155) else (bif Nat.ble 267 m then 6146 else 6114))) else (bif Nat.ble 261 m then (bif Nat.ble 263 m then (bif Nat.ble 264 m then (bif Nat.ble 265 m then 6139 else 6135) else 6143) else (bif Nat.ble 262 m then 6131 else 6119)) else (bif Nat.ble 259 m then (bif Nat.ble 260 m then 6127 else 6110) else (bif Nat.ble 258 m then 6106 else 6102))))) else (bif Nat.ble 238 m then (bif Nat.ble 247 m then (bif Nat.ble 252 m then (bif Nat.ble 254 m then (bif Nat.ble 255 m then (bif Nat.ble 256 m then 6098 else 6094) else 6086) else (bif Nat.ble 253 m then 6082 else 6078)) else (bif Nat.ble 249 m then (bif Nat.ble 250 m then (bif Nat.ble 251 m then 6058 else 6067) else 6075) else (bif Nat.ble 248 m then 6091 else 6071))) else (bif Nat.ble 242 m then (bif Nat.ble 244 m then (bif Nat.ble 245 m then (bif Nat.ble 246 m then 6063 else 6054) else 6049) else (bif Nat.ble 243 m then 6045 else 6041)) else (bif Nat.ble 240 m then (bif Nat.ble 241 m then 6037 else 6029) else (bif Nat.ble 239 m then 6034 else 6025)))) else (bif Nat.ble 229 m then (bif Nat.ble 233 m then (bif Nat.ble 235 m then (bif Nat.ble 236 m then (bif Nat.ble 237 m then 6017 else 6022) else 6013) else (bif Nat.ble 234 m then 6009 else 6001)) else (bif Nat.ble 231 m then (bif Nat.ble 232 m then 6006 else 5237) else (bif Nat.ble 230 m then 5069 else 5233))) else (bif Nat.ble 224 m then (bif Nat.ble 226 m then (bif Nat.ble 227 m then (bif Nat.ble 228 m then 5229 else 5221) else 5226) else (bif Nat.ble 225 m then 5217 else 5213)) else (bif Nat.ble 222 m then (bif Nat.ble 223 m then 5193 else 5198) else (bif Nat.ble 221 m then 5202 else 5210)))))) else (bif Nat.ble 183 m then (bif Nat.ble 201 m then (bif Nat.ble 210 m then (bif Nat.ble 215 m then (bif Nat.ble 217 m then (bif Nat.ble 218 m then (bif Nat.ble 219 m then 5206 else 5189) else 5181) else (bif Nat.ble 216 m then 5186 else 5173)) else (bif Nat.ble 212 m then (bif Nat.ble 213 m then (bif Nat.ble 214 m then 5165 else 5157) else 5162) else (bif Nat.ble 211 m then 5153 else 5149))) else (bif Nat.ble 205 m then (bif Nat.ble 207 m then (bif Nat.ble 208 m then (bif Nat.ble 209 m then 5178 else 5123) else 5077) else (bif Nat.ble 206 m then 5115 else 5119)) else (bif Nat.ble 203 m then (bif Nat.ble 204 m then 5111 else 5107) else (bif Nat.ble 202 m then 5170 else 5081)))) else (bif Nat.ble 192 m then (bif Nat.ble 196 m then (bif Nat.ble 198 m then (bif Nat.ble 199 m then (bif Nat.ble 200 m then 5099 else 5085) else 5103) else (bif Nat.ble 197 m then 5095 else 5088)) else (bif Nat.ble 194 m then (bif Nat.ble 195 m then 5145 else 5137) else (bif Nat.ble 193 m then 5142 else 5133))) else (bif Nat.ble 187 m then (bif Nat.ble 189 m then (bif Nat.ble 190 m then (bif Nat.ble 191 m then 5130 else 5126) else 5072) else (bif Nat.ble 188 m then 5064 else 5052)) else (bif Nat.ble 185 m then (bif Nat.ble 186 m then 5057 else 5061) else (bif Nat.ble 184 m then 5048 else 5044))))) else (bif Nat.ble 165 m then (bif Nat.ble 174 m then (bif Nat.ble 178 m then (bif Nat.ble 180 m then (bif Nat.ble 181 m then (bif Nat.ble 182 m then 5036 else 5041) else 5029) else (bif Nat.ble 179 m then 5033 else 5025)) else (bif Nat.ble 176 m then (bif Nat.ble 177 m then 5021 else 5006) else (bif Nat.ble 175 m then 5015 else 4217))) else (bif Nat.ble 169 m then (bif Nat.ble 171 m then (bif Nat.ble 172 m then (bif Nat.ble 173 m then 5000 else 5003) else 4222) else (bif Nat.ble 170 m then 5011 else 4233)) else (bif Nat.ble 167 m then (bif Nat.ble 168 m then 4226 else 4237) else (bif Nat.ble 166 m then 5018 else 4102)))) else (bif Nat.ble 156 m then (bif Nat.ble 160 m then (bif Nat.ble 162 m then (bif Nat.ble 163 m then (bif Nat.ble 164 m then 5091 else 4229) else 4097) else (bif Nat.ble 161 m then 2181 else 3019)) else (bif Nat.ble 158 m then (bif Nat.ble 159 m then 2098 else 2191) else (bif Nat.ble 157 m then 2188 else 4079))) else (bif Nat.ble 151 m then (bif Nat.ble 153 m then (bif Nat.ble 154 m then (bif Nat.ble 155 m then 4064 else 4057) else 4032) else (bif Nat.ble 152 m then 4008 else 3142)) else (bif Nat.ble 149 m then (bif Nat.ble 150 m then 3098 else 3081) else (bif Nat.ble 148 m then 3039 else 2169))))))) else (bif Nat.ble 73 m then (bif Nat.ble 110 m then (bif Nat.ble 128 m then (bif Nat.ble 137 m then (bif Nat.ble 142 m then (bif Nat.ble 144 m then (bif Nat.ble 145 m then (bif Nat.ble 146 m then 3016 else 3043) else 3186) else (bif Nat.ble 143 m then 3190 else 3118)) else (bif Nat.ble 139 m then (bif Nat.ble 140 m then (bif Nat.ble 141 m then 2070 else 3194) else 3048) else (bif Nat.ble 138 m then 2120 else 2124))) else (bif Nat.ble 132 m then (bif Nat.ble 134 m then (bif Nat.ble 135 m then (bif Nat.ble 136 m then 2021 else 2025) else 2037) else (bif Nat.ble 133 m then 2083 else 4086)) else (bif Nat.ble 130 m then (bif Nat.ble 131 m then 4074 else 4027) else (bif Nat.ble 129 m then 4023 else 4019)))) else (bif Nat.ble 119 m then (bif Nat.ble 123 m then (bif Nat.ble 125 m then (bif Nat.ble 126 m then (bif Nat.ble 127 m then 4015 else 4011) else 4003) else (bif Nat.ble 124 m then 3239 else 3235)) else (bif Nat.ble 121 m then (bif Nat.ble 122 m then 3231 else 3181) else (bif Nat.ble 120 m then 3173 else 3169))) else (bif Nat.ble 114 m then (bif Nat.ble 116 m then (bif Nat.ble 117 m then (bif Nat.ble 118 m then 3165 else 3161) else 3157) else (bif Nat.ble 115 m then 3153 else 3137)) else (bif Nat.ble 112 m then (bif Nat.ble 113 m then 3133 else 3125) else (bif Nat.ble 111 m then 3113 else 3109))))) else (bif Nat.ble 91 m then (bif Nat.ble 100 m then (bif Nat.ble 105 m then (bif Nat.ble 107 m then (bif Nat.ble 108 m then (bif Nat.ble 109 m then 3105 else 3093) else 3089) else (bif Nat.ble 106 m then 3085 else 3076)) else (bif Nat.ble 102 m then (bif Nat.ble 103 m then (bif Nat.ble 104 m then 3068 else 3034) else 3030) else (bif Nat.ble 101 m then 3026 else 3022))) else (bif Nat.ble 95 m then (bif Nat.ble 97 m then (bif Nat.ble 98 m then (bif Nat.ble 99 m then 3011 else 3007) else 3003) else (bif Nat.ble 96 m then 2237 else 2229)) else (bif Nat.ble 93 m then (bif Nat.ble 94 m then 2225 else 2203) else (bif Nat.ble 92 m then 2199 else 2194)))) else (bif Nat.ble 82 m then (bif Nat.ble 86 m then (bif Nat.ble 88 m then (bif Nat.ble 89 m then (bif Nat.ble 90 m then 2184 else 2115) else 2106) else (bif Nat.ble 87 m then 2090 else 2086)) else (bif Nat.ble 84 m then (bif Nat.ble 85 m then 2078 else 2074) else (bif Nat.ble 83 m then 2065 else 2049))) else (bif Nat.ble 77 m then (bif Nat.ble 79 m then (bif Nat.ble 80 m then (bif Nat.ble 81 m then 2028 else 1119) else 1115) else (bif Nat.ble 78 m then 1107 else 23)) else (bif Nat.ble 75 m then (bif Nat.ble 76 m then 1111 else 116) else (bif Nat.ble 74 m then 3064 else 3072)))))) else (bif Nat.ble 36 m then (bif Nat.ble 54 m then (bif Nat.ble 63 m then (bif Nat.ble 68 m then (bif Nat.ble 70 m then (bif Nat.ble 71 m then (bif Nat.ble 72 m then 3207 else 2177) else 2173) else (bif Nat.ble 69 m then 2165 else 2160)) else (bif Nat.ble 65 m then (bif Nat.ble 66 m then (bif Nat.ble 67 m then 2157 else 2153) else 2148) else (bif Nat.ble 64 m then 2144 else 2140))) else (bif Nat.ble 58 m then (bif Nat.ble 60 m then (bif Nat.ble 61 m then (bif Nat.ble 62 m then 2132 else 3129) else 3121) else (bif Nat.ble 59 m then 2127 else 158)) else (bif Nat.ble 56 m then (bif Nat.ble 57 m then 3060 else 3056) else (bif Nat.ble 55 m then 3051 else 207)))) else (bif Nat.ble 45 m then (bif Nat.ble 49 m then (bif Nat.ble 51 m then (bif Nat.ble 52 m then (bif Nat.ble 53 m then 1142 else 1135) else 1139) else (bif Nat.ble 50 m then 1146 else 1132)) else (bif Nat.ble 47 m then (bif Nat.ble 48 m then 1151 else 1207) else (bif Nat.ble 46 m then 1215 else 1211))) else (bif Nat.ble 40 m then (bif Nat.ble 42 m then (bif Nat.ble 43 m then (bif Nat.ble 44 m then 1225 else 1239) else 1220) else (bif Nat.ble 41 m then 1203 else 1123)) else (bif Nat.ble 38 m then (bif Nat.ble 39 m then 133 else 2233) else (bif Nat.ble 37 m then 2040 else 96))))) else (bif Nat.ble 18 m then (bif Nat.ble 27 m then (bif Nat.ble 31 m then (bif Nat.ble 33 m then (bif Nat.ble 34 m then (bif Nat.ble 35 m then 3101 else 2215) else 2207) else (bif Nat.ble 32 m then 2211 else 4091)) else (bif Nat.ble 29 m then (bif Nat.ble 30 m then 3145 else 2110) else (bif Nat.ble 28 m then 3149 else 2094))) else (bif Nat.ble 22 m then (bif Nat.ble 24 m then (bif Nat.ble 25 m then (bif Nat.ble 26 m then 2062 else 2058) else 1233) else (bif Nat.ble 23 m then 2054 else 1229)) else (bif Nat.ble 20 m then (bif Nat.ble 21 m then 2008 else 1127) else (bif Nat.ble 19 m then 2032 else 2002)))) else (bif Nat.ble 9 m then (bif Nat.ble 13 m then (bif Nat.ble 15 m then (bif Nat.ble 16 m then (bif Nat.ble 17 m then 31 else 4070) else 4051) else (bif Nat.ble 14 m then 4040 else 4044)) else (bif Nat.ble 11 m then (bif Nat.ble 12 m then 4035 else 1037) else (bif Nat.ble 10 m then 3228 else 3224))) else (bif Nat.ble 4 m then (bif Nat.ble 6 m then (bif Nat.ble 7 m then (bif Nat.ble 8 m then 3220 else 3216) else 3202) else (bif Nat.ble 5 m then 3197 else 232)) else (bif Nat.ble 2 m then (bif Nat.ble 3 m then 2015 else 3177) else (bif Nat.ble 1 m then 2101 else 39))))))))
theorem lp_mth_ok : ∀ m, m < 293 → (if lp_kd m = 1 then lp_wd (lp_mp m) = some (.static (lp_y m)) else lp_wd (lp_mp m) = some (.instanceMethod (lp_y m))) := by decide +kernel
theorem lp_sel_ok : ∀ m, m < 293 → lp_kd m = 0 → lp_wd (lp_sp m) = some (.selects (lp_y m).cls (lp_y m) (lp_y m)) := by decide +kernel
theorem lp_prv_ok : ∀ m, m < 293 → lp_kd m = 4 → lw_privs[lp_sp m]?.map Prod.fst = some (lp_y m) := by decide +kernel
def lp_so (k : Nat) : Nat × Nat × String := (bif Nat.ble 9 k then (bif Nat.ble 13 k then (bif Nat.ble 15 k then (bif Nat.ble 16 k then (bif Nat.ble 17 k then (9, 423, "done ") else (9, 421, "press ")) else (9, 419, "many;")) else (bif Nat.ble 14 k then (9, 417, "none;") else (9, 415, " by "))) else (bif Nat.ble 11 k then (bif Nat.ble 12 k then (9, 413, " ") else (9, 411, "wire ")) else (bif Nat.ble 10 k then (9, 409, " goal ") else (9, 407, " own ")))) else (bif Nat.ble 4 k then (bif Nat.ble 6 k then (bif Nat.ble 7 k then (bif Nat.ble 8 k then (9, 405, "lamp ") else (9, 394, ";")) else (9, 389, "states ")) else (bif Nat.ble 5 k then (5, 94, "by") else (5, 50, "wire"))) else (bif Nat.ble 2 k then (bif Nat.ble 3 k then (5, 80, "goal") else (5, 74, "own")) else (bif Nat.ble 1 k then (5, 45, "lamp") else (5, 35, "states")))))
/-- how many arguments a method takes (o: the object too) -/
def lp_nar (a b o : Nat) : Bool := decide ((parseMethodDescriptor (lp_nd a).2).map (fun s => s.parameters.length + o) = some b)
/-- what of an entry is to be checked: that it is the instruction's, and that the words it needs stand in the tables -/
def lp_okc (own mo pc : Nat) (ins : Instr) (len a b : Nat) (c : Int32) (t : List Nat) : Bool := match ins with
  | .aload i => Nat.beq i a && Nat.beq len 2
  | .aload_n i => Nat.beq i.val a && Nat.beq len 1
  | .iload i => Nat.beq i a && Nat.beq len 2
  | .iload_n i => Nat.beq i.val a && Nat.beq len 1
  | .astore i => Nat.beq i a && Nat.beq len 2 && Nat.blt a (lp_mx mo)
  | .astore_n i => Nat.beq i.val a && Nat.beq len 1 && Nat.blt a (lp_mx mo)
  | .istore i => Nat.beq i a && Nat.beq len 2 && Nat.blt a (lp_mx mo)
  | .istore_n i => Nat.beq i.val a && Nat.beq len 1 && Nat.blt a (lp_mx mo)
  | .iinc i n => Nat.beq i a && decide (Int32.ofInt n = c) && Nat.beq len 3 && Nat.blt a (lp_mx mo)
  | .iconst n => decide (Int32.ofInt n = c) && Nat.beq len 1
  | .bipush n => decide ((Int8.ofInt n).toInt32 = c) && Nat.beq len 2
  | .sipush n => decide ((Int16.ofInt n).toInt32 = c) && Nat.beq len 3
  | .ldc i => Nat.beq len 2 && (bif Nat.beq (t.getD 0 0) 0 then decide (lp_wd (t.getD 1 0) = some (.constant (lp_cn own) i c)) else decide (lp_so a = (own, i, (lp_so a).2.2)) && Nat.blt a 18)
  | .ldc_w i => Nat.beq len 3 && (bif Nat.beq (t.getD 0 0) 0 then decide (lp_wd (t.getD 1 0) = some (.constant (lp_cn own) i c)) else decide (lp_so a = (own, i, (lp_so a).2.2)) && Nat.blt a 18)
  | .iadd => Nat.beq len 1
  | .isub => Nat.beq len 1
  | .imul => Nat.beq len 1
  | .idiv => Nat.beq len 1
  | .irem => Nat.beq len 1
  | .iand => Nat.beq len 1
  | .ior => Nat.beq len 1
  | .ixor => Nat.beq len 1
  | .ishl => Nat.beq len 1
  | .ishr => Nat.beq len 1
  | .iushr => Nat.beq len 1
  | .i2b => Nat.beq len 1
  | .i2c => Nat.beq len 1
  | .dup => Nat.beq len 1
  | .dup2 => Nat.beq len 1
  | .pop => Nat.beq len 1
  | .goto o => decide ((pc : Int) + o = (a : Int)) && Nat.beq len 3
  | .ifCond _ o => decide ((pc : Int) + o = (a : Int)) && Nat.beq len 3
  | .if_icmp _ o => decide ((pc : Int) + o = (a : Int)) && Nat.beq len 3
  | .tableswitch d lo hi offs => decide ((pc : Int) + d = (a : Int)) && decide (lo = 0) && decide (hi + 1 = (b : Int)) && Nat.blt b 1000 && decide (∀ j, j < b → (offs[j]?).map (fun o => (pc : Int) + o) = some ((t.getD j 0 : Nat) : Int))
  | .getfield i => Nat.beq len 3 && (match t.getD 0 0 with
    | 0 => Nat.blt a 11 && Nat.blt b (lp_nf a) && !lp_isR a b && decide (lp_wd (t.getD 1 0) = some (.fieldLink (lp_cn own) i (lp_cn a) (lp_T a b).2.1 (lp_T a b).2.2.1))
    | 1 => Nat.blt a 11 && Nat.blt b (lp_nf a) && lp_isR a b && decide (lp_wd (t.getD 1 0) = some (.fieldLink (lp_cn own) i (lp_cn a) (lp_T a b).2.1 (lp_T a b).2.2.1))
    | 2 => decide (lp_wd (t.getD 1 0) = some (.fieldLink (lp_cn own) i "java/lang/String" "value" "[B"))
    | _ => decide (lp_wd (t.getD 1 0) = some (.fieldLink (lp_cn own) i "java/lang/String" "coder" "B")))
  | .putfield i => Nat.beq len 3 && Nat.blt a 11 && Nat.blt b (lp_nf a) && decide (lp_wd (t.getD 1 0) = some (.fieldLink (lp_cn own) i (lp_cn a) (lp_T a b).2.1 (lp_T a b).2.2.1)) && (bif (lp_T a b).2.2.2 then decide ((lp_nd mo).1 = "<init>") && Nat.beq own a else true) && (match t.getD 0 0 with
    | 0 => !lp_isR a b && decide (lp_ty a b = .int)
    | 1 => lp_isR a b
    | _ => !lp_isR a b && decide (lp_ty a b = .boolean))
  | .getstatic i => Nat.beq len 3 && (bif Nat.beq (t.getD 0 0) 0 then decide (lp_wd (t.getD 1 0) = some (.fieldLink (lp_cn own) i "java/lang/String" "COMPACT_STRINGS" "Z")) else decide (lp_wd (t.getD 1 0) = some (.fieldLink (lp_cn own) i "jdk/internal/util/Preconditions" "SIOOBE_FORMATTER" "Ljava/util/function/BiFunction;")))
  | .iaload => Nat.beq len 1
  | .baload => Nat.beq len 1
  | .aaload => Nat.beq len 1
  | .iastore => Nat.beq len 1
  | .bastore => Nat.beq len 1
  | .aastore => Nat.beq len 1
  | .arraylength => Nat.beq len 1 && Nat.blt 19 a
  | .new i => Nat.beq len 3 && Nat.blt a 11 && Nat.beq b (lp_nf a) && decide (lp_wd (t.getD 0 0) = some (.classLink (lp_cn own) i (lp_cn a)))
  | .newarray y => Nat.beq len 2 && (match y with
    | .int => Nat.beq a 20
    | .byte => Nat.beq a 21
    | .boolean => Nat.beq a 22
    | _ => false)
  | .anewarray i => Nat.beq len 3 && Nat.beq a 24 && decide (lp_wd (t.getD 0 0) = some (.classLink (lp_cn own) i "LampPresses$Net"))
  | .multianewarray i n => Nat.beq len 4 && Nat.beq n 2 && decide (lp_wd (t.getD 0 0) = some (.classLink (lp_cn own) i "[[I"))
  | .invokevirtual i => Nat.beq len 3 && Nat.blt a 293 && (Nat.beq (lp_kd a) 0 || Nat.beq (lp_kd a) 4) && decide (lp_wd (t.getD 2 0) = some (.methodLink (lp_cn own) i (lp_y a))) && Nat.beq (t.getD 1 0) (bif (lp_rt a).isSome then 1 else 0) && lp_nar a b 1
  | .invokestatic i => Nat.beq len 3 && (match t.getD 0 0 with
    | 6 => decide (lp_wd (t.getD 2 0) = some (.methodLink (lp_cn own) i arraycopyName))
    | 7 => decide (lp_wd (t.getD 2 0) = some (.methodLink (lp_cn own) i Lib.Math.max.name))
    | 8 => decide (lp_wd (t.getD 2 0) = some (.methodLink (lp_cn own) i Lib.Math.min.name))
    | 9 => true
    | 3 => Nat.blt a 293 && Nat.beq (lp_kd a) 1 && decide (lp_wd (t.getD 2 0) = some (.methodLinkNest (lp_cn own) i (lp_y a) "LampPresses")) && Nat.beq (t.getD 1 0) (bif (lp_rt a).isSome then 1 else 0) && lp_nar a b 0
    | _ => Nat.blt a 293 && Nat.beq (lp_kd a) 1 && decide (lp_wd (t.getD 2 0) = some (.methodLink (lp_cn own) i (lp_y a))) && Nat.beq (t.getD 1 0) (bif (lp_rt a).isSome then 1 else 0) && lp_nar a b 0)
  | .invokespecial i => Nat.beq len 3 && (match t.getD 0 0 with
    | 5 => decide (lp_wd (t.getD 2 0) = some (.methodLink (lp_cn own) i Lib.objectInit))
    | 4 => Nat.blt a 293 && Nat.beq (lp_kd a) 2 && decide (lp_wd (t.getD 2 0) = some (.methodLinkNest (lp_cn own) i (lp_y a) "LampPresses")) && Nat.beq (t.getD 1 0) 0 && lp_nar a b 1
    | _ => Nat.blt a 293 && Nat.beq (lp_kd a) 2 && decide (lp_wd (t.getD 2 0) = some (.methodLink (lp_cn own) i (lp_y a))) && Nat.beq (t.getD 1 0) 0 && lp_nar a b 1)
  | .ireturn => Nat.beq len 1 && (match a with
    | 0 => decide (lp_rt mo = some .int)
    | 1 => decide (lp_rt mo = some .boolean)
    | 3 => decide (lp_rt mo = some .byte)
    | _ => decide (lp_rt mo = some .char))
  | .return_ => Nat.beq len 1 && decide (lp_rt mo = none)
  | _ => true
def lp_okE (m : Nat) (e : lp_E) : Bool := decide (decode (lp_b m) e.1 = .ok e.2.1) && lp_okc (lp_ow m) m e.1 e.2.1.1 e.2.1.2 e.2.2.1 e.2.2.2.1 e.2.2.2.2.1 e.2.2.2.2.2.1
def lp_okM (m : Nat) : Bool := (lp_cd m).all fun q => q.2.all (lp_okE m)
def lp_okA : Bool := (List.range 293).all fun m => decide ((lp_y m).cls ≠ "java/lang/invoke/MethodHandle" ∧ (lp_y m).cls ≠ "java/lang/invoke/VarHandle") && Nat.blt (lp_mx m) 40
theorem lp_okA_ok : lp_okA = true := by decide +kernel
end
section
set_option maxRecDepth 100000 in
theorem lp_ok0 : lp_okM 0 = true := by decide +kernel
set_option maxRecDepth 100000 in
theorem lp_ok1 : lp_okM 1 = true := by decide +kernel
set_option maxRecDepth 100000 in
theorem lp_ok2 : lp_okM 2 = true := by decide +kernel
set_option maxRecDepth 100000 in
theorem lp_ok3 : lp_okM 3 = true := by decide +kernel
set_option maxRecDepth 100000 in
theorem lp_ok4 : lp_okM 4 = true := by decide +kernel
set_option maxRecDepth 100000 in
theorem lp_ok5 : lp_okM 5 = true := by decide +kernel
set_option maxRecDepth 100000 in
theorem lp_ok6 : lp_okM 6 = true := by decide +kernel
set_option maxRecDepth 100000 in
theorem lp_ok7 : lp_okM 7 = true := by decide +kernel
set_option maxRecDepth 100000 in
theorem lp_ok8 : lp_okM 8 = true := by decide +kernel
set_option maxRecDepth 100000 in
theorem lp_ok9 : lp_okM 9 = true := by decide +kernel
set_option maxRecDepth 100000 in
theorem lp_ok10 : lp_okM 10 = true := by decide +kernel
set_option maxRecDepth 100000 in
theorem lp_ok11 : lp_okM 11 = true := by decide +kernel
set_option maxRecDepth 100000 in
theorem lp_ok12 : lp_okM 12 = true := by decide +kernel
set_option maxRecDepth 100000 in
theorem lp_ok13 : lp_okM 13 = true := by decide +kernel
set_option maxRecDepth 100000 in
theorem lp_ok14 : lp_okM 14 = true := by decide +kernel
set_option maxRecDepth 100000 in
theorem lp_ok15 : lp_okM 15 = true := by decide +kernel
set_option maxRecDepth 100000 in
theorem lp_ok16 : lp_okM 16 = true := by decide +kernel
set_option maxRecDepth 100000 in
theorem lp_ok17 : lp_okM 17 = true := by decide +kernel
set_option maxRecDepth 100000 in
theorem lp_ok18 : lp_okM 18 = true := by decide +kernel
set_option maxRecDepth 100000 in
theorem lp_ok19 : lp_okM 19 = true := by decide +kernel
set_option maxRecDepth 100000 in
theorem lp_ok20 : lp_okM 20 = true := by decide +kernel
set_option maxRecDepth 100000 in
theorem lp_ok21 : lp_okM 21 = true := by decide +kernel
set_option maxRecDepth 100000 in
theorem lp_ok22 : lp_okM 22 = true := by decide +kernel
set_option maxRecDepth 100000 in
theorem lp_ok23 : lp_okM 23 = true := by decide +kernel
set_option maxRecDepth 100000 in
theorem lp_ok24 : lp_okM 24 = true := by decide +kernel
set_option maxRecDepth 100000 in
theorem lp_ok25 : lp_okM 25 = true := by decide +kernel
set_option maxRecDepth 100000 in
theorem lp_ok26 : lp_okM 26 = true := by decide +kernel
set_option maxRecDepth 100000 in
theorem lp_ok27 : lp_okM 27 = true := by decide +kernel
set_option maxRecDepth 100000 in
theorem lp_ok28 : lp_okM 28 = true := by decide +kernel
set_option maxRecDepth 100000 in
theorem lp_ok29 : lp_okM 29 = true := by decide +kernel
set_option maxRecDepth 100000 in
theorem lp_ok30 : lp_okM 30 = true := by decide +kernel
set_option maxRecDepth 100000 in
theorem lp_ok31 : lp_okM 31 = true := by decide +kernel
set_option maxRecDepth 100000 in
theorem lp_ok32 : lp_okM 32 = true := by decide +kernel
set_option maxRecDepth 100000 in
theorem lp_ok33 : lp_okM 33 = true := by decide +kernel
set_option maxRecDepth 100000 in
theorem lp_ok34 : lp_okM 34 = true := by decide +kernel
set_option maxRecDepth 100000 in
theorem lp_ok35 : lp_okM 35 = true := by decide +kernel
set_option maxRecDepth 100000 in
theorem lp_ok36 : lp_okM 36 = true := by decide +kernel
set_option maxRecDepth 100000 in
theorem lp_ok37 : lp_okM 37 = true := by decide +kernel
set_option maxRecDepth 100000 in
theorem lp_ok38 : lp_okM 38 = true := by decide +kernel
set_option maxRecDepth 100000 in
theorem lp_ok39 : lp_okM 39 = true := by decide +kernel
set_option maxRecDepth 100000 in
theorem lp_ok40 : lp_okM 40 = true := by decide +kernel
set_option maxRecDepth 100000 in
theorem lp_ok41 : lp_okM 41 = true := by decide +kernel
set_option maxRecDepth 100000 in
theorem lp_ok42 : lp_okM 42 = true := by decide +kernel
set_option maxRecDepth 100000 in
theorem lp_ok43 : lp_okM 43 = true := by decide +kernel
end
section
set_option maxRecDepth 100000 in
theorem lp_ok44 : lp_okM 44 = true := by decide +kernel
set_option maxRecDepth 100000 in
theorem lp_ok45 : lp_okM 45 = true := by decide +kernel
set_option maxRecDepth 100000 in
theorem lp_ok46 : lp_okM 46 = true := by decide +kernel
set_option maxRecDepth 100000 in
theorem lp_ok47 : lp_okM 47 = true := by decide +kernel
set_option maxRecDepth 100000 in
theorem lp_ok48 : lp_okM 48 = true := by decide +kernel
set_option maxRecDepth 100000 in
theorem lp_ok49 : lp_okM 49 = true := by decide +kernel
set_option maxRecDepth 100000 in
theorem lp_ok50 : lp_okM 50 = true := by decide +kernel
set_option maxRecDepth 100000 in
theorem lp_ok51 : lp_okM 51 = true := by decide +kernel
set_option maxRecDepth 100000 in
theorem lp_ok52 : lp_okM 52 = true := by decide +kernel
set_option maxRecDepth 100000 in
theorem lp_ok53 : lp_okM 53 = true := by decide +kernel
set_option maxRecDepth 100000 in
theorem lp_ok54 : lp_okM 54 = true := by decide +kernel
set_option maxRecDepth 100000 in
theorem lp_ok55 : lp_okM 55 = true := by decide +kernel
set_option maxRecDepth 100000 in
theorem lp_ok56 : lp_okM 56 = true := by decide +kernel
set_option maxRecDepth 100000 in
theorem lp_ok57 : lp_okM 57 = true := by decide +kernel
set_option maxRecDepth 100000 in
theorem lp_ok58 : lp_okM 58 = true := by decide +kernel
set_option maxRecDepth 100000 in
theorem lp_ok59 : lp_okM 59 = true := by decide +kernel
set_option maxRecDepth 100000 in
theorem lp_ok60 : lp_okM 60 = true := by decide +kernel
set_option maxRecDepth 100000 in
theorem lp_ok61 : lp_okM 61 = true := by decide +kernel
set_option maxRecDepth 100000 in
theorem lp_ok62 : lp_okM 62 = true := by decide +kernel
set_option maxRecDepth 100000 in
theorem lp_ok63 : lp_okM 63 = true := by decide +kernel
set_option maxRecDepth 100000 in
theorem lp_ok64 : lp_okM 64 = true := by decide +kernel
set_option maxRecDepth 100000 in
theorem lp_ok65 : lp_okM 65 = true := by decide +kernel
set_option maxRecDepth 100000 in
theorem lp_ok66 : lp_okM 66 = true := by decide +kernel
set_option maxRecDepth 100000 in
theorem lp_ok67 : lp_okM 67 = true := by decide +kernel
set_option maxRecDepth 100000 in
theorem lp_ok68 : lp_okM 68 = true := by decide +kernel
set_option maxRecDepth 100000 in
theorem lp_ok69 : lp_okM 69 = true := by decide +kernel
set_option maxRecDepth 100000 in
theorem lp_ok70 : lp_okM 70 = true := by decide +kernel
set_option maxRecDepth 100000 in
theorem lp_ok71 : lp_okM 71 = true := by decide +kernel
set_option maxRecDepth 100000 in
theorem lp_ok72 : lp_okM 72 = true := by decide +kernel
set_option maxRecDepth 100000 in
theorem lp_ok73 : lp_okM 73 = true := by decide +kernel
set_option maxRecDepth 100000 in
theorem lp_ok74 : lp_okM 74 = true := by decide +kernel
set_option maxRecDepth 100000 in
theorem lp_ok75 : lp_okM 75 = true := by decide +kernel
set_option maxRecDepth 100000 in
theorem lp_ok76 : lp_okM 76 = true := by decide +kernel
set_option maxRecDepth 100000 in
theorem lp_ok77 : lp_okM 77 = true := by decide +kernel
set_option maxRecDepth 100000 in
theorem lp_ok78 : lp_okM 78 = true := by decide +kernel
set_option maxRecDepth 100000 in
theorem lp_ok79 : lp_okM 79 = true := by decide +kernel
set_option maxRecDepth 100000 in
theorem lp_ok80 : lp_okM 80 = true := by decide +kernel
set_option maxRecDepth 100000 in
theorem lp_ok81 : lp_okM 81 = true := by decide +kernel
set_option maxRecDepth 100000 in
theorem lp_ok82 : lp_okM 82 = true := by decide +kernel
set_option maxRecDepth 100000 in
theorem lp_ok83 : lp_okM 83 = true := by decide +kernel
set_option maxRecDepth 100000 in
theorem lp_ok84 : lp_okM 84 = true := by decide +kernel
set_option maxRecDepth 100000 in
theorem lp_ok85 : lp_okM 85 = true := by decide +kernel
end
section
set_option maxRecDepth 100000 in
theorem lp_ok86 : lp_okM 86 = true := by decide +kernel
set_option maxRecDepth 100000 in
theorem lp_ok87 : lp_okM 87 = true := by decide +kernel
set_option maxRecDepth 100000 in
theorem lp_ok88 : lp_okM 88 = true := by decide +kernel
set_option maxRecDepth 100000 in
theorem lp_ok89 : lp_okM 89 = true := by decide +kernel
set_option maxRecDepth 100000 in
theorem lp_ok90 : lp_okM 90 = true := by decide +kernel
set_option maxRecDepth 100000 in
theorem lp_ok91 : lp_okM 91 = true := by decide +kernel
set_option maxRecDepth 100000 in
theorem lp_ok92 : lp_okM 92 = true := by decide +kernel
set_option maxRecDepth 100000 in
theorem lp_ok93 : lp_okM 93 = true := by decide +kernel
set_option maxRecDepth 100000 in
theorem lp_ok94 : lp_okM 94 = true := by decide +kernel
set_option maxRecDepth 100000 in
theorem lp_ok95 : lp_okM 95 = true := by decide +kernel
set_option maxRecDepth 100000 in
theorem lp_ok96 : lp_okM 96 = true := by decide +kernel
set_option maxRecDepth 100000 in
theorem lp_ok97 : lp_okM 97 = true := by decide +kernel
set_option maxRecDepth 100000 in
theorem lp_ok98 : lp_okM 98 = true := by decide +kernel
set_option maxRecDepth 100000 in
theorem lp_ok99 : lp_okM 99 = true := by decide +kernel
set_option maxRecDepth 100000 in
theorem lp_ok100 : lp_okM 100 = true := by decide +kernel
set_option maxRecDepth 100000 in
theorem lp_ok101 : lp_okM 101 = true := by decide +kernel
set_option maxRecDepth 100000 in
theorem lp_ok102 : lp_okM 102 = true := by decide +kernel
set_option maxRecDepth 100000 in
theorem lp_ok103 : lp_okM 103 = true := by decide +kernel
set_option maxRecDepth 100000 in
theorem lp_ok104 : lp_okM 104 = true := by decide +kernel
set_option maxRecDepth 100000 in
theorem lp_ok105 : lp_okM 105 = true := by decide +kernel
set_option maxRecDepth 100000 in
theorem lp_ok106 : lp_okM 106 = true := by decide +kernel
set_option maxRecDepth 100000 in
theorem lp_ok107 : lp_okM 107 = true := by decide +kernel
set_option maxRecDepth 100000 in
theorem lp_ok108 : lp_okM 108 = true := by decide +kernel
set_option maxRecDepth 100000 in
theorem lp_ok109 : lp_okM 109 = true := by decide +kernel
set_option maxRecDepth 100000 in
theorem lp_ok110 : lp_okM 110 = true := by decide +kernel
set_option maxRecDepth 100000 in
theorem lp_ok111 : lp_okM 111 = true := by decide +kernel
set_option maxRecDepth 100000 in
theorem lp_ok112 : lp_okM 112 = true := by decide +kernel
set_option maxRecDepth 100000 in
theorem lp_ok113 : lp_okM 113 = true := by decide +kernel
set_option maxRecDepth 100000 in
theorem lp_ok114 : lp_okM 114 = true := by decide +kernel
set_option maxRecDepth 100000 in
theorem lp_ok115 : lp_okM 115 = true := by decide +kernel
set_option maxRecDepth 100000 in
theorem lp_ok116 : lp_okM 116 = true := by decide +kernel
set_option maxRecDepth 100000 in
theorem lp_ok117 : lp_okM 117 = true := by decide +kernel
set_option maxRecDepth 100000 in
theorem lp_ok118 : lp_okM 118 = true := by decide +kernel
set_option maxRecDepth 100000 in
theorem lp_ok119 : lp_okM 119 = true := by decide +kernel
set_option maxRecDepth 100000 in
theorem lp_ok120 : lp_okM 120 = true := by decide +kernel
set_option maxRecDepth 100000 in
theorem lp_ok121 : lp_okM 121 = true := by decide +kernel
set_option maxRecDepth 100000 in
theorem lp_ok122 : lp_okM 122 = true := by decide +kernel
set_option maxRecDepth 100000 in
theorem lp_ok123 : lp_okM 123 = true := by decide +kernel
set_option maxRecDepth 100000 in
theorem lp_ok124 : lp_okM 124 = true := by decide +kernel
set_option maxRecDepth 100000 in
theorem lp_ok125 : lp_okM 125 = true := by decide +kernel
set_option maxRecDepth 100000 in
theorem lp_ok126 : lp_okM 126 = true := by decide +kernel
set_option maxRecDepth 100000 in
theorem lp_ok127 : lp_okM 127 = true := by decide +kernel
set_option maxRecDepth 100000 in
theorem lp_ok128 : lp_okM 128 = true := by decide +kernel
set_option maxRecDepth 100000 in
theorem lp_ok129 : lp_okM 129 = true := by decide +kernel
end
section
set_option maxRecDepth 100000 in
theorem lp_ok130 : lp_okM 130 = true := by decide +kernel
set_option maxRecDepth 100000 in
theorem lp_ok131 : lp_okM 131 = true := by decide +kernel
set_option maxRecDepth 100000 in
theorem lp_ok132 : lp_okM 132 = true := by decide +kernel
set_option maxRecDepth 100000 in
theorem lp_ok133 : lp_okM 133 = true := by decide +kernel
set_option maxRecDepth 100000 in
theorem lp_ok134 : lp_okM 134 = true := by decide +kernel
set_option maxRecDepth 100000 in
theorem lp_ok135 : lp_okM 135 = true := by decide +kernel
set_option maxRecDepth 100000 in
theorem lp_ok136 : lp_okM 136 = true := by decide +kernel
set_option maxRecDepth 100000 in
theorem lp_ok137 : lp_okM 137 = true := by decide +kernel
set_option maxRecDepth 100000 in
theorem lp_ok138 : lp_okM 138 = true := by decide +kernel
set_option maxRecDepth 100000 in
theorem lp_ok139 : lp_okM 139 = true := by decide +kernel
set_option maxRecDepth 100000 in
theorem lp_ok140 : lp_okM 140 = true := by decide +kernel
set_option maxRecDepth 100000 in
theorem lp_ok141 : lp_okM 141 = true := by decide +kernel
set_option maxRecDepth 100000 in
theorem lp_ok142 : lp_okM 142 = true := by decide +kernel
set_option maxRecDepth 100000 in
theorem lp_ok143 : lp_okM 143 = true := by decide +kernel
set_option maxRecDepth 100000 in
theorem lp_ok144 : lp_okM 144 = true := by decide +kernel
set_option maxRecDepth 100000 in
theorem lp_ok145 : lp_okM 145 = true := by decide +kernel
set_option maxRecDepth 100000 in
theorem lp_ok146 : lp_okM 146 = true := by decide +kernel
set_option maxRecDepth 100000 in
theorem lp_ok147 : lp_okM 147 = true := by decide +kernel
set_option maxRecDepth 100000 in
theorem lp_ok148 : lp_okM 148 = true := by decide +kernel
set_option maxRecDepth 100000 in
theorem lp_ok149 : lp_okM 149 = true := by decide +kernel
set_option maxRecDepth 100000 in
theorem lp_ok150 : lp_okM 150 = true := by decide +kernel
set_option maxRecDepth 100000 in
theorem lp_ok151 : lp_okM 151 = true := by decide +kernel
set_option maxRecDepth 100000 in
theorem lp_ok152 : lp_okM 152 = true := by decide +kernel
set_option maxRecDepth 100000 in
theorem lp_ok153 : lp_okM 153 = true := by decide +kernel
set_option maxRecDepth 100000 in
theorem lp_ok154 : lp_okM 154 = true := by decide +kernel
set_option maxRecDepth 100000 in
theorem lp_ok155 : lp_okM 155 = true := by decide +kernel
set_option maxRecDepth 100000 in
theorem lp_ok156 : lp_okM 156 = true := by decide +kernel
set_option maxRecDepth 100000 in
theorem lp_ok157 : lp_okM 157 = true := by decide +kernel
set_option maxRecDepth 100000 in
theorem lp_ok158 : lp_okM 158 = true := by decide +kernel
set_option maxRecDepth 100000 in
theorem lp_ok159 : lp_okM 159 = true := by decide +kernel
set_option maxRecDepth 100000 in
theorem lp_ok160 : lp_okM 160 = true := by decide +kernel
set_option maxRecDepth 100000 in
theorem lp_ok161 : lp_okM 161 = true := by decide +kernel
set_option maxRecDepth 100000 in
theorem lp_ok162 : lp_okM 162 = true := by decide +kernel
set_option maxRecDepth 100000 in
theorem lp_ok163 : lp_okM 163 = true := by decide +kernel
set_option maxRecDepth 100000 in
theorem lp_ok164 : lp_okM 164 = true := by decide +kernel
set_option maxRecDepth 100000 in
theorem lp_ok165 : lp_okM 165 = true := by decide +kernel
set_option maxRecDepth 100000 in
theorem lp_ok166 : lp_okM 166 = true := by decide +kernel
set_option maxRecDepth 100000 in
theorem lp_ok167 : lp_okM 167 = true := by decide +kernel
set_option maxRecDepth 100000 in
theorem lp_ok168 : lp_okM 168 = true := by decide +kernel
set_option maxRecDepth 100000 in
theorem lp_ok169 : lp_okM 169 = true := by decide +kernel
set_option maxRecDepth 100000 in
theorem lp_ok170 : lp_okM 170 = true := by decide +kernel
set_option maxRecDepth 100000 in
theorem lp_ok171 : lp_okM 171 = true := by decide +kernel
set_option maxRecDepth 100000 in
theorem lp_ok172 : lp_okM 172 = true := by decide +kernel
set_option maxRecDepth 100000 in
theorem lp_ok173 : lp_okM 173 = true := by decide +kernel
set_option maxRecDepth 100000 in
theorem lp_ok174 : lp_okM 174 = true := by decide +kernel
end
section
set_option maxRecDepth 100000 in
theorem lp_ok175 : lp_okM 175 = true := by decide +kernel
set_option maxRecDepth 100000 in
theorem lp_ok176 : lp_okM 176 = true := by decide +kernel
set_option maxRecDepth 100000 in
theorem lp_ok177 : lp_okM 177 = true := by decide +kernel
set_option maxRecDepth 100000 in
theorem lp_ok178 : lp_okM 178 = true := by decide +kernel
set_option maxRecDepth 100000 in
theorem lp_ok179 : lp_okM 179 = true := by decide +kernel
set_option maxRecDepth 100000 in
theorem lp_ok180 : lp_okM 180 = true := by decide +kernel
set_option maxRecDepth 100000 in
theorem lp_ok181 : lp_okM 181 = true := by decide +kernel
set_option maxRecDepth 100000 in
theorem lp_ok182 : lp_okM 182 = true := by decide +kernel
set_option maxRecDepth 100000 in
theorem lp_ok183 : lp_okM 183 = true := by decide +kernel
set_option maxRecDepth 100000 in
theorem lp_ok184 : lp_okM 184 = true := by decide +kernel
set_option maxRecDepth 100000 in
theorem lp_ok185 : lp_okM 185 = true := by decide +kernel
set_option maxRecDepth 100000 in
theorem lp_ok186 : lp_okM 186 = true := by decide +kernel
set_option maxRecDepth 100000 in
theorem lp_ok187 : lp_okM 187 = true := by decide +kernel
set_option maxRecDepth 100000 in
theorem lp_ok188 : lp_okM 188 = true := by decide +kernel
set_option maxRecDepth 100000 in
theorem lp_ok189 : lp_okM 189 = true := by decide +kernel
set_option maxRecDepth 100000 in
theorem lp_ok190 : lp_okM 190 = true := by decide +kernel
set_option maxRecDepth 100000 in
theorem lp_ok191 : lp_okM 191 = true := by decide +kernel
set_option maxRecDepth 100000 in
theorem lp_ok192 : lp_okM 192 = true := by decide +kernel
set_option maxRecDepth 100000 in
theorem lp_ok193 : lp_okM 193 = true := by decide +kernel
set_option maxRecDepth 100000 in
theorem lp_ok194 : lp_okM 194 = true := by decide +kernel
set_option maxRecDepth 100000 in
theorem lp_ok195 : lp_okM 195 = true := by decide +kernel
set_option maxRecDepth 100000 in
theorem lp_ok196 : lp_okM 196 = true := by decide +kernel
set_option maxRecDepth 100000 in
theorem lp_ok197 : lp_okM 197 = true := by decide +kernel
set_option maxRecDepth 100000 in
theorem lp_ok198 : lp_okM 198 = true := by decide +kernel
set_option maxRecDepth 100000 in
theorem lp_ok199 : lp_okM 199 = true := by decide +kernel
set_option maxRecDepth 100000 in
theorem lp_ok200 : lp_okM 200 = true := by decide +kernel
set_option maxRecDepth 100000 in
theorem lp_ok201 : lp_okM 201 = true := by decide +kernel
set_option maxRecDepth 100000 in
theorem lp_ok202 : lp_okM 202 = true := by decide +kernel
set_option maxRecDepth 100000 in
theorem lp_ok203 : lp_okM 203 = true := by decide +kernel
set_option maxRecDepth 100000 in
theorem lp_ok204 : lp_okM 204 = true := by decide +kernel
set_option maxRecDepth 100000 in
theorem lp_ok205 : lp_okM 205 = true := by decide +kernel
set_option maxRecDepth 100000 in
theorem lp_ok206 : lp_okM 206 = true := by decide +kernel
set_option maxRecDepth 100000 in
theorem lp_ok207 : lp_okM 207 = true := by decide +kernel
set_option maxRecDepth 100000 in
theorem lp_ok208 : lp_okM 208 = true := by decide +kernel
end
section
set_option maxRecDepth 100000 in
theorem lp_ok209 : lp_okM 209 = true := by decide +kernel
set_option maxRecDepth 100000 in
theorem lp_ok210 : lp_okM 210 = true := by decide +kernel
set_option maxRecDepth 100000 in
theorem lp_ok211 : lp_okM 211 = true := by decide +kernel
set_option maxRecDepth 100000 in
theorem lp_ok212 : lp_okM 212 = true := by decide +kernel
set_option maxRecDepth 100000 in
theorem lp_ok213 : lp_okM 213 = true := by decide +kernel
set_option maxRecDepth 100000 in
theorem lp_ok214 : lp_okM 214 = true := by decide +kernel
set_option maxRecDepth 100000 in
theorem lp_ok215 : lp_okM 215 = true := by decide +kernel
set_option maxRecDepth 100000 in
theorem lp_ok216 : lp_okM 216 = true := by decide +kernel
set_option maxRecDepth 100000 in
theorem lp_ok217 : lp_okM 217 = true := by decide +kernel
set_option maxRecDepth 100000 in
theorem lp_ok218 : lp_okM 218 = true := by decide +kernel
set_option maxRecDepth 100000 in
theorem lp_ok219 : lp_okM 219 = true := by decide +kernel
set_option maxRecDepth 100000 in
theorem lp_ok220 : lp_okM 220 = true := by decide +kernel
set_option maxRecDepth 100000 in
theorem lp_ok221 : lp_okM 221 = true := by decide +kernel
set_option maxRecDepth 100000 in
theorem lp_ok222 : lp_okM 222 = true := by decide +kernel
set_option maxRecDepth 100000 in
theorem lp_ok223 : lp_okM 223 = true := by decide +kernel
set_option maxRecDepth 100000 in
theorem lp_ok224 : lp_okM 224 = true := by decide +kernel
set_option maxRecDepth 100000 in
theorem lp_ok225 : lp_okM 225 = true := by decide +kernel
set_option maxRecDepth 100000 in
theorem lp_ok226 : lp_okM 226 = true := by decide +kernel
set_option maxRecDepth 100000 in
theorem lp_ok227 : lp_okM 227 = true := by decide +kernel
set_option maxRecDepth 100000 in
theorem lp_ok228 : lp_okM 228 = true := by decide +kernel
set_option maxRecDepth 100000 in
theorem lp_ok229 : lp_okM 229 = true := by decide +kernel
set_option maxRecDepth 100000 in
theorem lp_ok230 : lp_okM 230 = true := by decide +kernel
set_option maxRecDepth 100000 in
theorem lp_ok231 : lp_okM 231 = true := by decide +kernel
set_option maxRecDepth 100000 in
theorem lp_ok232 : lp_okM 232 = true := by decide +kernel
set_option maxRecDepth 100000 in
theorem lp_ok233 : lp_okM 233 = true := by decide +kernel
set_option maxRecDepth 100000 in
theorem lp_ok234 : lp_okM 234 = true := by decide +kernel
set_option maxRecDepth 100000 in
theorem lp_ok235 : lp_okM 235 = true := by decide +kernel
set_option maxRecDepth 100000 in
theorem lp_ok236 : lp_okM 236 = true := by decide +kernel
set_option maxRecDepth 100000 in
theorem lp_ok237 : lp_okM 237 = true := by decide +kernel
set_option maxRecDepth 100000 in
theorem lp_ok238 : lp_okM 238 = true := by decide +kernel
set_option maxRecDepth 100000 in
theorem lp_ok239 : lp_okM 239 = true := by decide +kernel
set_option maxRecDepth 100000 in
theorem lp_ok240 : lp_okM 240 = true := by decide +kernel
set_option maxRecDepth 100000 in
theorem lp_ok241 : lp_okM 241 = true := by decide +kernel
set_option maxRecDepth 100000 in
theorem lp_ok242 : lp_okM 242 = true := by decide +kernel
set_option maxRecDepth 100000 in
theorem lp_ok243 : lp_okM 243 = true := by decide +kernel
set_option maxRecDepth 100000 in
theorem lp_ok244 : lp_okM 244 = true := by decide +kernel
set_option maxRecDepth 100000 in
theorem lp_ok245 : lp_okM 245 = true := by decide +kernel
set_option maxRecDepth 100000 in
theorem lp_ok246 : lp_okM 246 = true := by decide +kernel
set_option maxRecDepth 100000 in
theorem lp_ok247 : lp_okM 247 = true := by decide +kernel
set_option maxRecDepth 100000 in
theorem lp_ok248 : lp_okM 248 = true := by decide +kernel
set_option maxRecDepth 100000 in
theorem lp_ok249 : lp_okM 249 = true := by decide +kernel
end
section
set_option maxRecDepth 100000 in
theorem lp_ok250 : lp_okM 250 = true := by decide +kernel
set_option maxRecDepth 100000 in
theorem lp_ok251 : lp_okM 251 = true := by decide +kernel
set_option maxRecDepth 100000 in
theorem lp_ok252 : lp_okM 252 = true := by decide +kernel
set_option maxRecDepth 100000 in
theorem lp_ok253 : lp_okM 253 = true := by decide +kernel
set_option maxRecDepth 100000 in
theorem lp_ok254 : lp_okM 254 = true := by decide +kernel
set_option maxRecDepth 100000 in
theorem lp_ok255 : lp_okM 255 = true := by decide +kernel
set_option maxRecDepth 100000 in
theorem lp_ok256 : lp_okM 256 = true := by decide +kernel
set_option maxRecDepth 100000 in
theorem lp_ok257 : lp_okM 257 = true := by decide +kernel
set_option maxRecDepth 100000 in
theorem lp_ok258 : lp_okM 258 = true := by decide +kernel
set_option maxRecDepth 100000 in
theorem lp_ok259 : lp_okM 259 = true := by decide +kernel
set_option maxRecDepth 100000 in
theorem lp_ok260 : lp_okM 260 = true := by decide +kernel
set_option maxRecDepth 100000 in
theorem lp_ok261 : lp_okM 261 = true := by decide +kernel
set_option maxRecDepth 100000 in
theorem lp_ok262 : lp_okM 262 = true := by decide +kernel
set_option maxRecDepth 100000 in
theorem lp_ok263 : lp_okM 263 = true := by decide +kernel
set_option maxRecDepth 100000 in
theorem lp_ok264 : lp_okM 264 = true := by decide +kernel
set_option maxRecDepth 100000 in
theorem lp_ok265 : lp_okM 265 = true := by decide +kernel
set_option maxRecDepth 100000 in
theorem lp_ok266 : lp_okM 266 = true := by decide +kernel
set_option maxRecDepth 100000 in
theorem lp_ok267 : lp_okM 267 = true := by decide +kernel
set_option maxRecDepth 100000 in
theorem lp_ok268 : lp_okM 268 = true := by decide +kernel
set_option maxRecDepth 100000 in
theorem lp_ok269 : lp_okM 269 = true := by decide +kernel
set_option maxRecDepth 100000 in
theorem lp_ok270 : lp_okM 270 = true := by decide +kernel
set_option maxRecDepth 100000 in
theorem lp_ok271 : lp_okM 271 = true := by decide +kernel
set_option maxRecDepth 100000 in
theorem lp_ok272 : lp_okM 272 = true := by decide +kernel
set_option maxRecDepth 100000 in
theorem lp_ok273 : lp_okM 273 = true := by decide +kernel
set_option maxRecDepth 100000 in
theorem lp_ok274 : lp_okM 274 = true := by decide +kernel
set_option maxRecDepth 100000 in
theorem lp_ok275 : lp_okM 275 = true := by decide +kernel
set_option maxRecDepth 100000 in
theorem lp_ok276 : lp_okM 276 = true := by decide +kernel
set_option maxRecDepth 100000 in
theorem lp_ok277 : lp_okM 277 = true := by decide +kernel
set_option maxRecDepth 100000 in
theorem lp_ok278 : lp_okM 278 = true := by decide +kernel
set_option maxRecDepth 100000 in
theorem lp_ok279 : lp_okM 279 = true := by decide +kernel
set_option maxRecDepth 100000 in
theorem lp_ok280 : lp_okM 280 = true := by decide +kernel
set_option maxRecDepth 100000 in
theorem lp_ok281 : lp_okM 281 = true := by decide +kernel
end
section
set_option maxRecDepth 100000 in
theorem lp_ok282 : lp_okM 282 = true := by decide +kernel
set_option maxRecDepth 100000 in
theorem lp_ok283 : lp_okM 283 = true := by decide +kernel
set_option maxRecDepth 100000 in
theorem lp_ok284 : lp_okM 284 = true := by decide +kernel
set_option maxRecDepth 100000 in
theorem lp_ok285 : lp_okM 285 = true := by decide +kernel
set_option maxRecDepth 100000 in
theorem lp_ok286 : lp_okM 286 = true := by decide +kernel
set_option maxRecDepth 100000 in
theorem lp_ok287 : lp_okM 287 = true := by decide +kernel
set_option maxRecDepth 100000 in
theorem lp_ok288 : lp_okM 288 = true := by decide +kernel
set_option maxRecDepth 100000 in
theorem lp_ok289 : lp_okM 289 = true := by decide +kernel
set_option maxRecDepth 100000 in
theorem lp_ok290 : lp_okM 290 = true := by decide +kernel
set_option maxRecDepth 100000 in
theorem lp_ok291 : lp_okM 291 = true := by decide +kernel
set_option maxRecDepth 100000 in
theorem lp_ok292 : lp_okM 292 = true := by decide +kernel
end
section
set_option maxRecDepth 100000 in
theorem lp_okL_0 : lp_c293_0.all (lp_okE 293) = true := by decide +kernel
set_option maxRecDepth 100000 in
theorem lp_okL_1 : lp_c293_1.all (lp_okE 293) = true := by decide +kernel
set_option maxRecDepth 100000 in
theorem lp_okL_2 : lp_c293_2.all (lp_okE 293) = true := by decide +kernel
set_option maxRecDepth 100000 in
theorem lp_okL_3 : lp_c293_3.all (lp_okE 293) = true := by decide +kernel
set_option maxRecDepth 100000 in
theorem lp_okL_4 : lp_c293_4.all (lp_okE 293) = true := by decide +kernel
set_option maxRecDepth 100000 in
theorem lp_okL_5 : lp_c293_5.all (lp_okE 293) = true := by decide +kernel
set_option maxRecDepth 100000 in
theorem lp_okL_6 : lp_c293_6.all (lp_okE 293) = true := by decide +kernel
set_option maxRecDepth 100000 in
theorem lp_okL_7 : lp_c293_7.all (lp_okE 293) = true := by decide +kernel
end
section
set_option maxRecDepth 100000 in
theorem lp_okL_8 : lp_c293_8.all (lp_okE 293) = true := by decide +kernel
set_option maxRecDepth 100000 in
theorem lp_okL_9 : lp_c293_9.all (lp_okE 293) = true := by decide +kernel
set_option maxRecDepth 100000 in
theorem lp_okL_10 : lp_c293_10.all (lp_okE 293) = true := by decide +kernel
set_option maxRecDepth 100000 in
theorem lp_okL_11 : lp_c293_11.all (lp_okE 293) = true := by decide +kernel
set_option maxRecDepth 100000 in
theorem lp_okL_12 : lp_c293_12.all (lp_okE 293) = true := by decide +kernel
set_option maxRecDepth 100000 in
theorem lp_okL_13 : lp_c293_13.all (lp_okE 293) = true := by decide +kernel
set_option maxRecDepth 100000 in
theorem lp_okL_14 : lp_c293_14.all (lp_okE 293) = true := by decide +kernel
set_option maxRecDepth 100000 in
theorem lp_okL_15 : lp_c293_15.all (lp_okE 293) = true := by decide +kernel
end
section
set_option maxRecDepth 100000 in
theorem lp_okL_16 : lp_c293_16.all (lp_okE 293) = true := by decide +kernel
set_option maxRecDepth 100000 in
theorem lp_okL_17 : lp_c293_17.all (lp_okE 293) = true := by decide +kernel
set_option maxRecDepth 100000 in
theorem lp_okL_18 : lp_c293_18.all (lp_okE 293) = true := by decide +kernel
set_option maxRecDepth 100000 in
theorem lp_okL_19 : lp_c293_19.all (lp_okE 293) = true := by decide +kernel
set_option maxRecDepth 100000 in
theorem lp_okL_20 : lp_c293_20.all (lp_okE 293) = true := by decide +kernel
set_option maxRecDepth 100000 in
theorem lp_okL_21 : lp_c293_21.all (lp_okE 293) = true := by decide +kernel
set_option maxRecDepth 100000 in
theorem lp_okL_22 : lp_c293_22.all (lp_okE 293) = true := by decide +kernel
set_option maxRecDepth 100000 in
theorem lp_okL_23 : lp_c293_23.all (lp_okE 293) = true := by decide +kernel
end
section
set_option maxRecDepth 100000 in
theorem lp_okL_24 : lp_c293_24.all (lp_okE 293) = true := by decide +kernel
set_option maxRecDepth 100000 in
theorem lp_okL_25 : lp_c293_25.all (lp_okE 293) = true := by decide +kernel
set_option maxRecDepth 100000 in
theorem lp_okL_26 : lp_c293_26.all (lp_okE 293) = true := by decide +kernel
set_option maxRecDepth 100000 in
theorem lp_okL_27 : lp_c293_27.all (lp_okE 293) = true := by decide +kernel
set_option maxRecDepth 100000 in
theorem lp_okL_28 : lp_c293_28.all (lp_okE 293) = true := by decide +kernel
set_option maxRecDepth 100000 in
theorem lp_okL_29 : lp_c293_29.all (lp_okE 293) = true := by decide +kernel
set_option maxRecDepth 100000 in
theorem lp_okL_30 : lp_c293_30.all (lp_okE 293) = true := by decide +kernel
set_option maxRecDepth 100000 in
theorem lp_okL_31 : lp_c293_31.all (lp_okE 293) = true := by decide +kernel
end
section
set_option maxRecDepth 100000 in
theorem lp_okL_32 : lp_c293_32.all (lp_okE 293) = true := by decide +kernel
set_option maxRecDepth 100000 in
theorem lp_okL_33 : lp_c293_33.all (lp_okE 293) = true := by decide +kernel
set_option maxRecDepth 100000 in
theorem lp_okL_34 : lp_c293_34.all (lp_okE 293) = true := by decide +kernel
set_option maxRecDepth 100000 in
theorem lp_okL_35 : lp_c293_35.all (lp_okE 293) = true := by decide +kernel
set_option maxRecDepth 100000 in
theorem lp_okL_36 : lp_c293_36.all (lp_okE 293) = true := by decide +kernel
set_option maxRecDepth 100000 in
theorem lp_okL_37 : lp_c293_37.all (lp_okE 293) = true := by decide +kernel
set_option maxRecDepth 100000 in
theorem lp_okL_38 : lp_c293_38.all (lp_okE 293) = true := by decide +kernel
set_option maxRecDepth 100000 in
theorem lp_okL_39 : lp_c293_39.all (lp_okE 293) = true := by decide +kernel
end
section
set_option maxRecDepth 100000 in
theorem lp_okL_40 : lp_c293_40.all (lp_okE 293) = true := by decide +kernel
set_option maxRecDepth 100000 in
theorem lp_okL_41 : lp_c293_41.all (lp_okE 293) = true := by decide +kernel
set_option maxRecDepth 100000 in
theorem lp_okL_42 : lp_c293_42.all (lp_okE 293) = true := by decide +kernel
end
section
set_option maxRecDepth 100000 in
theorem lp_ok293 : lp_okM 293 = true := by
  show lp_c293.all (fun q => q.2.all (lp_okE 293)) = true
  simp only [lp_c293, List.all_cons, List.all_nil, Bool.and_true, lp_okL_0, lp_okL_1, lp_okL_2, lp_okL_3, lp_okL_4, lp_okL_5, lp_okL_6, lp_okL_7, lp_okL_8, lp_okL_9, lp_okL_10, lp_okL_11, lp_okL_12, lp_okL_13, lp_okL_14, lp_okL_15, lp_okL_16, lp_okL_17, lp_okL_18, lp_okL_19, lp_okL_20, lp_okL_21, lp_okL_22, lp_okL_23, lp_okL_24, lp_okL_25, lp_okL_26, lp_okL_27, lp_okL_28, lp_okL_29, lp_okL_30, lp_okL_31, lp_okL_32, lp_okL_33, lp_okL_34, lp_okL_35, lp_okL_36, lp_okL_37, lp_okL_38, lp_okL_39, lp_okL_40, lp_okL_41, lp_okL_42]
theorem lp_okg0 (m : Nat) (h1 : 0 ≤ m) (h2 : m < 16) : lp_okM m = true := by
  have h : m = 0 ∨ m = 1 ∨ m = 2 ∨ m = 3 ∨ m = 4 ∨ m = 5 ∨ m = 6 ∨ m = 7 ∨ m = 8 ∨ m = 9 ∨ m = 10 ∨ m = 11 ∨ m = 12 ∨ m = 13 ∨ m = 14 ∨ m = 15 := by omega
  rcases h with rfl | rfl | rfl | rfl | rfl | rfl | rfl | rfl | rfl | rfl | rfl | rfl | rfl | rfl | rfl | rfl
  · exact lp_ok0
  · exact lp_ok1
  · exact lp_ok2
  · exact lp_ok3
  · exact lp_ok4
  · exact lp_ok5
  · exact lp_ok6
  · exact lp_ok7
  · exact lp_ok8
  · exact lp_ok9
  · exact lp_ok10
  · exact lp_ok11
  · exact lp_ok12
  · exact lp_ok13
  · exact lp_ok14
  · exact lp_ok15
theorem lp_okg16 (m : Nat) (h1 : 16 ≤ m) (h2 : m < 32) : lp_okM m = true := by
  have h : m = 16 ∨ m = 17 ∨ m = 18 ∨ m = 19 ∨ m = 20 ∨ m = 21 ∨ m = 22 ∨ m = 23 ∨ m = 24 ∨ m = 25 ∨ m = 26 ∨ m = 27 ∨ m = 28 ∨ m = 29 ∨ m = 30 ∨ m = 31 := by omega
  rcases h with rfl | rfl | rfl | rfl | rfl | rfl | rfl | rfl | rfl | rfl | rfl | rfl | rfl | rfl | rfl | rfl
  · exact lp_ok16
  · exact lp_ok17
  · exact lp_ok18
  · exact lp_ok19
  · exact lp_ok20
  · exact lp_ok21
  · exact lp_ok22
  · exact lp_ok23
  · exact lp_ok24
  · exact lp_ok25
  · exact lp_ok26
  · exact lp_ok27
  · exact lp_ok28
  · exact lp_ok29
  · exact lp_ok30
  · exact lp_ok31
theorem lp_okg32 (m : Nat) (h1 : 32 ≤ m) (h2 : m < 48) : lp_okM m = true := by
  have h : m = 32 ∨ m = 33 ∨ m = 34 ∨ m = 35 ∨ m = 36 ∨ m = 37 ∨ m = 38 ∨ m = 39 ∨ m = 40 ∨ m = 41 ∨ m = 42 ∨ m = 43 ∨ m = 44 ∨ m = 45 ∨ m = 46 ∨ m = 47 := by omega
  rcases h with rfl | rfl | rfl | rfl | rfl | rfl | rfl | rfl | rfl | rfl | rfl | rfl | rfl | rfl | rfl | rfl
  · exact lp_ok32
  · exact lp_ok33
  · exact lp_ok34
  · exact lp_ok35
  · exact lp_ok36
  · exact lp_ok37
  · exact lp_ok38
  · exact lp_ok39
  · exact lp_ok40
  · exact lp_ok41
  · exact lp_ok42
  · exact lp_ok43
  · exact lp_ok44
  · exact lp_ok45
  · exact lp_ok46
  · exact lp_ok47
theorem lp_okg48 (m : Nat) (h1 : 48 ≤ m) (h2 : m < 64) : lp_okM m = true := by
  have h : m = 48 ∨ m = 49 ∨ m = 50 ∨ m = 51 ∨ m = 52 ∨ m = 53 ∨ m = 54 ∨ m = 55 ∨ m = 56 ∨ m = 57 ∨ m = 58 ∨ m = 59 ∨ m = 60 ∨ m = 61 ∨ m = 62 ∨ m = 63 := by omega
  rcases h with rfl | rfl | rfl | rfl | rfl | rfl | rfl | rfl | rfl | rfl | rfl | rfl | rfl | rfl | rfl | rfl
  · exact lp_ok48
  · exact lp_ok49
  · exact lp_ok50
  · exact lp_ok51
  · exact lp_ok52
  · exact lp_ok53
  · exact lp_ok54
  · exact lp_ok55
  · exact lp_ok56
  · exact lp_ok57
  · exact lp_ok58
  · exact lp_ok59
  · exact lp_ok60
  · exact lp_ok61
  · exact lp_ok62
  · exact lp_ok63
theorem lp_okg64 (m : Nat) (h1 : 64 ≤ m) (h2 : m < 80) : lp_okM m = true := by
  have h : m = 64 ∨ m = 65 ∨ m = 66 ∨ m = 67 ∨ m = 68 ∨ m = 69 ∨ m = 70 ∨ m = 71 ∨ m = 72 ∨ m = 73 ∨ m = 74 ∨ m = 75 ∨ m = 76 ∨ m = 77 ∨ m = 78 ∨ m = 79 := by omega
  rcases h with rfl | rfl | rfl | rfl | rfl | rfl | rfl | rfl | rfl | rfl | rfl | rfl | rfl | rfl | rfl | rfl
  · exact lp_ok64
  · exact lp_ok65
  · exact lp_ok66
  · exact lp_ok67
  · exact lp_ok68
  · exact lp_ok69
  · exact lp_ok70
  · exact lp_ok71
  · exact lp_ok72
  · exact lp_ok73
  · exact lp_ok74
  · exact lp_ok75
  · exact lp_ok76
  · exact lp_ok77
  · exact lp_ok78
  · exact lp_ok79
theorem lp_okg80 (m : Nat) (h1 : 80 ≤ m) (h2 : m < 96) : lp_okM m = true := by
  have h : m = 80 ∨ m = 81 ∨ m = 82 ∨ m = 83 ∨ m = 84 ∨ m = 85 ∨ m = 86 ∨ m = 87 ∨ m = 88 ∨ m = 89 ∨ m = 90 ∨ m = 91 ∨ m = 92 ∨ m = 93 ∨ m = 94 ∨ m = 95 := by omega
  rcases h with rfl | rfl | rfl | rfl | rfl | rfl | rfl | rfl | rfl | rfl | rfl | rfl | rfl | rfl | rfl | rfl
  · exact lp_ok80
  · exact lp_ok81
  · exact lp_ok82
  · exact lp_ok83
  · exact lp_ok84
  · exact lp_ok85
  · exact lp_ok86
  · exact lp_ok87
  · exact lp_ok88
  · exact lp_ok89
  · exact lp_ok90
  · exact lp_ok91
  · exact lp_ok92
  · exact lp_ok93
  · exact lp_ok94
  · exact lp_ok95
theorem lp_okg96 (m : Nat) (h1 : 96 ≤ m) (h2 : m < 112) : lp_okM m = true := by
  have h : m = 96 ∨ m = 97 ∨ m = 98 ∨ m = 99 ∨ m = 100 ∨ m = 101 ∨ m = 102 ∨ m = 103 ∨ m = 104 ∨ m = 105 ∨ m = 106 ∨ m = 107 ∨ m = 108 ∨ m = 109 ∨ m = 110 ∨ m = 111 := by omega
  rcases h with rfl | rfl | rfl | rfl | rfl | rfl | rfl | rfl | rfl | rfl | rfl | rfl | rfl | rfl | rfl | rfl
  · exact lp_ok96
  · exact lp_ok97
  · exact lp_ok98
  · exact lp_ok99
  · exact lp_ok100
  · exact lp_ok101
  · exact lp_ok102
  · exact lp_ok103
  · exact lp_ok104
  · exact lp_ok105
  · exact lp_ok106
  · exact lp_ok107
  · exact lp_ok108
  · exact lp_ok109
  · exact lp_ok110
  · exact lp_ok111
theorem lp_okg112 (m : Nat) (h1 : 112 ≤ m) (h2 : m < 128) : lp_okM m = true := by
  have h : m = 112 ∨ m = 113 ∨ m = 114 ∨ m = 115 ∨ m = 116 ∨ m = 117 ∨ m = 118 ∨ m = 119 ∨ m = 120 ∨ m = 121 ∨ m = 122 ∨ m = 123 ∨ m = 124 ∨ m = 125 ∨ m = 126 ∨ m = 127 := by omega
  rcases h with rfl | rfl | rfl | rfl | rfl | rfl | rfl | rfl | rfl | rfl | rfl | rfl | rfl | rfl | rfl | rfl
  · exact lp_ok112
  · exact lp_ok113
  · exact lp_ok114
  · exact lp_ok115
  · exact lp_ok116
  · exact lp_ok117
  · exact lp_ok118
  · exact lp_ok119
  · exact lp_ok120
  · exact lp_ok121
  · exact lp_ok122
  · exact lp_ok123
  · exact lp_ok124
  · exact lp_ok125
  · exact lp_ok126
  · exact lp_ok127
theorem lp_okg128 (m : Nat) (h1 : 128 ≤ m) (h2 : m < 144) : lp_okM m = true := by
  have h : m = 128 ∨ m = 129 ∨ m = 130 ∨ m = 131 ∨ m = 132 ∨ m = 133 ∨ m = 134 ∨ m = 135 ∨ m = 136 ∨ m = 137 ∨ m = 138 ∨ m = 139 ∨ m = 140 ∨ m = 141 ∨ m = 142 ∨ m = 143 := by omega
  rcases h with rfl | rfl | rfl | rfl | rfl | rfl | rfl | rfl | rfl | rfl | rfl | rfl | rfl | rfl | rfl | rfl
  · exact lp_ok128
  · exact lp_ok129
  · exact lp_ok130
  · exact lp_ok131
  · exact lp_ok132
  · exact lp_ok133
  · exact lp_ok134
  · exact lp_ok135
  · exact lp_ok136
  · exact lp_ok137
  · exact lp_ok138
  · exact lp_ok139
  · exact lp_ok140
  · exact lp_ok141
  · exact lp_ok142
  · exact lp_ok143
theorem lp_okg144 (m : Nat) (h1 : 144 ≤ m) (h2 : m < 160) : lp_okM m = true := by
  have h : m = 144 ∨ m = 145 ∨ m = 146 ∨ m = 147 ∨ m = 148 ∨ m = 149 ∨ m = 150 ∨ m = 151 ∨ m = 152 ∨ m = 153 ∨ m = 154 ∨ m = 155 ∨ m = 156 ∨ m = 157 ∨ m = 158 ∨ m = 159 := by omega
  rcases h with rfl | rfl | rfl | rfl | rfl | rfl | rfl | rfl | rfl | rfl | rfl | rfl | rfl | rfl | rfl | rfl
  · exact lp_ok144
  · exact lp_ok145
  · exact lp_ok146
  · exact lp_ok147
  · exact lp_ok148
  · exact lp_ok149
  · exact lp_ok150
  · exact lp_ok151
  · exact lp_ok152
  · exact lp_ok153
  · exact lp_ok154
  · exact lp_ok155
  · exact lp_ok156
  · exact lp_ok157
  · exact lp_ok158
  · exact lp_ok159
theorem lp_okg160 (m : Nat) (h1 : 160 ≤ m) (h2 : m < 176) : lp_okM m = true := by
  have h : m = 160 ∨ m = 161 ∨ m = 162 ∨ m = 163 ∨ m = 164 ∨ m = 165 ∨ m = 166 ∨ m = 167 ∨ m = 168 ∨ m = 169 ∨ m = 170 ∨ m = 171 ∨ m = 172 ∨ m = 173 ∨ m = 174 ∨ m = 175 := by omega
  rcases h with rfl | rfl | rfl | rfl | rfl | rfl | rfl | rfl | rfl | rfl | rfl | rfl | rfl | rfl | rfl | rfl
  · exact lp_ok160
  · exact lp_ok161
  · exact lp_ok162
  · exact lp_ok163
  · exact lp_ok164
  · exact lp_ok165
  · exact lp_ok166
  · exact lp_ok167
  · exact lp_ok168
  · exact lp_ok169
  · exact lp_ok170
  · exact lp_ok171
  · exact lp_ok172
  · exact lp_ok173
  · exact lp_ok174
  · exact lp_ok175
theorem lp_okg176 (m : Nat) (h1 : 176 ≤ m) (h2 : m < 192) : lp_okM m = true := by
  have h : m = 176 ∨ m = 177 ∨ m = 178 ∨ m = 179 ∨ m = 180 ∨ m = 181 ∨ m = 182 ∨ m = 183 ∨ m = 184 ∨ m = 185 ∨ m = 186 ∨ m = 187 ∨ m = 188 ∨ m = 189 ∨ m = 190 ∨ m = 191 := by omega
  rcases h with rfl | rfl | rfl | rfl | rfl | rfl | rfl | rfl | rfl | rfl | rfl | rfl | rfl | rfl | rfl | rfl
  · exact lp_ok176
  · exact lp_ok177
  · exact lp_ok178
  · exact lp_ok179
  · exact lp_ok180
  · exact lp_ok181
  · exact lp_ok182
  · exact lp_ok183
  · exact lp_ok184
  · exact lp_ok185
  · exact lp_ok186
  · exact lp_ok187
  · exact lp_ok188
  · exact lp_ok189
  · exact lp_ok190
  · exact lp_ok191
theorem lp_okg192 (m : Nat) (h1 : 192 ≤ m) (h2 : m < 208) : lp_okM m = true := by
  have h : m = 192 ∨ m = 193 ∨ m = 194 ∨ m = 195 ∨ m = 196 ∨ m = 197 ∨ m = 198 ∨ m = 199 ∨ m = 200 ∨ m = 201 ∨ m = 202 ∨ m = 203 ∨ m = 204 ∨ m = 205 ∨ m = 206 ∨ m = 207 := by omega
  rcases h with rfl | rfl | rfl | rfl | rfl | rfl | rfl | rfl | rfl | rfl | rfl | rfl | rfl | rfl | rfl | rfl
  · exact lp_ok192
  · exact lp_ok193
  · exact lp_ok194
  · exact lp_ok195
  · exact lp_ok196
  · exact lp_ok197
  · exact lp_ok198
  · exact lp_ok199
  · exact lp_ok200
  · exact lp_ok201
  · exact lp_ok202
  · exact lp_ok203
  · exact lp_ok204
  · exact lp_ok205
  · exact lp_ok206
  · exact lp_ok207
theorem lp_okg208 (m : Nat) (h1 : 208 ≤ m) (h2 : m < 224) : lp_okM m = true := by
  have h : m = 208 ∨ m = 209 ∨ m = 210 ∨ m = 211 ∨ m = 212 ∨ m = 213 ∨ m = 214 ∨ m = 215 ∨ m = 216 ∨ m = 217 ∨ m = 218 ∨ m = 219 ∨ m = 220 ∨ m = 221 ∨ m = 222 ∨ m = 223 := by omega
  rcases h with rfl | rfl | rfl | rfl | rfl | rfl | rfl | rfl | rfl | rfl | rfl | rfl | rfl | rfl | rfl | rfl
  · exact lp_ok208
  · exact lp_ok209
  · exact lp_ok210
  · exact lp_ok211
  · exact lp_ok212
  · exact lp_ok213
  · exact lp_ok214
  · exact lp_ok215
  · exact lp_ok216
  · exact lp_ok217
  · exact lp_ok218
  · exact lp_ok219
  · exact lp_ok220
  · exact lp_ok221
  · exact lp_ok222
  · exact lp_ok223
theorem lp_okg224 (m : Nat) (h1 : 224 ≤ m) (h2 : m < 240) : lp_okM m = true := by
  have h : m = 224 ∨ m = 225 ∨ m = 226 ∨ m = 227 ∨ m = 228 ∨ m = 229 ∨ m = 230 ∨ m = 231 ∨ m = 232 ∨ m = 233 ∨ m = 234 ∨ m = 235 ∨ m = 236 ∨ m = 237 ∨ m = 238 ∨ m = 239 := by omega
  rcases h with rfl | rfl | rfl | rfl | rfl | rfl | rfl | rfl | rfl | rfl | rfl | rfl | rfl | rfl | rfl | rfl
  · exact lp_ok224
  · exact lp_ok225
  · exact lp_ok226
  · exact lp_ok227
  · exact lp_ok228
  · exact lp_ok229
  · exact lp_ok230
  · exact lp_ok231
  · exact lp_ok232
  · exact lp_ok233
  · exact lp_ok234
  · exact lp_ok235
  · exact lp_ok236
  · exact lp_ok237
  · exact lp_ok238
  · exact lp_ok239
theorem lp_okg240 (m : Nat) (h1 : 240 ≤ m) (h2 : m < 256) : lp_okM m = true := by
  have h : m = 240 ∨ m = 241 ∨ m = 242 ∨ m = 243 ∨ m = 244 ∨ m = 245 ∨ m = 246 ∨ m = 247 ∨ m = 248 ∨ m = 249 ∨ m = 250 ∨ m = 251 ∨ m = 252 ∨ m = 253 ∨ m = 254 ∨ m = 255 := by omega
  rcases h with rfl | rfl | rfl | rfl | rfl | rfl | rfl | rfl | rfl | rfl | rfl | rfl | rfl | rfl | rfl | rfl
  · exact lp_ok240
  · exact lp_ok241
  · exact lp_ok242
  · exact lp_ok243
  · exact lp_ok244
  · exact lp_ok245
  · exact lp_ok246
  · exact lp_ok247
  · exact lp_ok248
  · exact lp_ok249
  · exact lp_ok250
  · exact lp_ok251
  · exact lp_ok252
  · exact lp_ok253
  · exact lp_ok254
  · exact lp_ok255
theorem lp_okg256 (m : Nat) (h1 : 256 ≤ m) (h2 : m < 272) : lp_okM m = true := by
  have h : m = 256 ∨ m = 257 ∨ m = 258 ∨ m = 259 ∨ m = 260 ∨ m = 261 ∨ m = 262 ∨ m = 263 ∨ m = 264 ∨ m = 265 ∨ m = 266 ∨ m = 267 ∨ m = 268 ∨ m = 269 ∨ m = 270 ∨ m = 271 := by omega
  rcases h with rfl | rfl | rfl | rfl | rfl | rfl | rfl | rfl | rfl | rfl | rfl | rfl | rfl | rfl | rfl | rfl
  · exact lp_ok256
  · exact lp_ok257
  · exact lp_ok258
  · exact lp_ok259
  · exact lp_ok260
  · exact lp_ok261
  · exact lp_ok262
  · exact lp_ok263
  · exact lp_ok264
  · exact lp_ok265
  · exact lp_ok266
  · exact lp_ok267
  · exact lp_ok268
  · exact lp_ok269
  · exact lp_ok270
  · exact lp_ok271
theorem lp_okg272 (m : Nat) (h1 : 272 ≤ m) (h2 : m < 288) : lp_okM m = true := by
  have h : m = 272 ∨ m = 273 ∨ m = 274 ∨ m = 275 ∨ m = 276 ∨ m = 277 ∨ m = 278 ∨ m = 279 ∨ m = 280 ∨ m = 281 ∨ m = 282 ∨ m = 283 ∨ m = 284 ∨ m = 285 ∨ m = 286 ∨ m = 287 := by omega
  rcases h with rfl | rfl | rfl | rfl | rfl | rfl | rfl | rfl | rfl | rfl | rfl | rfl | rfl | rfl | rfl | rfl
  · exact lp_ok272
  · exact lp_ok273
  · exact lp_ok274
  · exact lp_ok275
  · exact lp_ok276
  · exact lp_ok277
  · exact lp_ok278
  · exact lp_ok279
  · exact lp_ok280
  · exact lp_ok281
  · exact lp_ok282
  · exact lp_ok283
  · exact lp_ok284
  · exact lp_ok285
  · exact lp_ok286
  · exact lp_ok287
theorem lp_okg288 (m : Nat) (h1 : 288 ≤ m) (h2 : m < 294) : lp_okM m = true := by
  have h : m = 288 ∨ m = 289 ∨ m = 290 ∨ m = 291 ∨ m = 292 ∨ m = 293 := by omega
  rcases h with rfl | rfl | rfl | rfl | rfl | rfl
  · exact lp_ok288
  · exact lp_ok289
  · exact lp_ok290
  · exact lp_ok291
  · exact lp_ok292
  · exact lp_ok293
theorem lp_ok_all (m : Nat) (h : m < 294) : lp_okM m = true := by
  by_cases h0 : m < 16
  · exact lp_okg0 m (by omega) h0
  by_cases h16 : m < 32
  · exact lp_okg16 m (by omega) h16
  by_cases h32 : m < 48
  · exact lp_okg32 m (by omega) h32
  by_cases h48 : m < 64
  · exact lp_okg48 m (by omega) h48
  by_cases h64 : m < 80
  · exact lp_okg64 m (by omega) h64
  by_cases h80 : m < 96
  · exact lp_okg80 m (by omega) h80
  by_cases h96 : m < 112
  · exact lp_okg96 m (by omega) h96
  by_cases h112 : m < 128
  · exact lp_okg112 m (by omega) h112
  by_cases h128 : m < 144
  · exact lp_okg128 m (by omega) h128
  by_cases h144 : m < 160
  · exact lp_okg144 m (by omega) h144
  by_cases h160 : m < 176
  · exact lp_okg160 m (by omega) h160
  by_cases h176 : m < 192
  · exact lp_okg176 m (by omega) h176
  by_cases h192 : m < 208
  · exact lp_okg192 m (by omega) h192
  by_cases h208 : m < 224
  · exact lp_okg208 m (by omega) h208
  by_cases h224 : m < 240
  · exact lp_okg224 m (by omega) h224
  by_cases h240 : m < 256
  · exact lp_okg240 m (by omega) h240
  by_cases h256 : m < 272
  · exact lp_okg256 m (by omega) h256
  by_cases h272 : m < 288
  · exact lp_okg272 m (by omega) h272
  exact lp_okg288 m (by omega) (by omega)
end
section
/-! ===== a small machine over the tables: cells are numbers, what they hold are functions; calls give all that they change ===== -/
abbrev lp_M : Type := Nat → Nat → Int32
abbrev lp_R : Type := Nat → Nat → Value
/-- how many cells there are; what their reference places hold; what their number places hold -/
abbrev lp_S : Type := Nat × lp_R × lp_M
abbrev lp_O : Type := Option (Int32 × lp_S)
abbrev lp_Q (ρ : Type) : Type := List Value → List Value → lp_S → Option ρ
abbrev lp_K : Type := lp_Q (Int32 × lp_S)
def lp_nth : List Value → Nat → Value
  | [], _ => .long 0
  | v :: _, 0 => v
  | _ :: r, n + 1 => lp_nth r n
def lp_set : List Value → Nat → Value → List Value
  | [], _, _ => []
  | _ :: r, 0, v => v :: r
  | u :: r, n + 1, v => u :: lp_set r n v
def lp_u {α : Type} (g : Nat → Nat → α) (k : Nat) (f : Nat → α) : Nat → Nat → α := fun k' => if k' = k then f else g k'
def lp_w (g : lp_M) (k j : Nat) (v : Int32) : lp_M := lp_u g k (upd (g k) j v)
def lp_wR (g : lp_R) (k j : Nat) (v : Value) : lp_R := lp_u g k (fun j' => if j' = j then v else g k j')
abbrev lp_oob (i : Int32) (n : Nat) : Prop := i < 0 ∨ n ≤ i.toNatClampNeg
/-- the bytes of the String constants -/
def lp_sb : List (List Int32) := [[115, 116, 97, 116, 101, 115], [108, 97, 109, 112], [111, 119, 110], [103, 111, 97, 108], [119, 105, 114, 101], [98, 121], [115, 116, 97, 116, 101, 115, 32], [59], [108, 97, 109, 112, 32], [32, 111, 119, 110, 32], [32, 103, 111, 97, 108, 32], [119, 105, 114, 101, 32], [32], [32, 98, 121, 32], [110, 111, 110, 101, 59], [109, 97, 110, 121, 59], [112, 114, 101, 115, 115, 32], [100, 111, 110, 101, 32]]
-- numbers, locals, the stack
def lp_xC {ρ : Type} (c : Int32) (nx : lp_Q ρ) : lp_Q ρ := fun ls stk st => nx ls (.int c :: stk) st
def lp_xS {ρ : Type} (a : Nat) (nx : lp_Q ρ) : lp_Q ρ := fun ls stk st => nx ls (.retAddr a :: stk) st
def lp_xIl {ρ : Type} (a : Nat) (nx : lp_Q ρ) : lp_Q ρ := fun ls stk st => match lp_nth ls a with
  | .int v => nx ls (.int v :: stk) st
  | _ => none
def lp_xAl {ρ : Type} (a : Nat) (nx : lp_Q ρ) : lp_Q ρ := fun ls stk st => match lp_nth ls a with
  | .ref v => nx ls (.ref v :: stk) st
  | .retAddr v => if v < 18 ∨ (100 ≤ v ∧ v < 118) ∨ v = 300 then nx ls (.retAddr v :: stk) st else none
  | _ => none
def lp_xIs {ρ : Type} (a : Nat) (nx : lp_Q ρ) : lp_Q ρ := fun ls stk st => match stk with
  | .int v :: r => nx (lp_set ls a (.int v)) r st
  | _ => none
def lp_xAs {ρ : Type} (a : Nat) (nx : lp_Q ρ) : lp_Q ρ := fun ls stk st => match stk with
  | .ref v :: r => nx (lp_set ls a (.ref v)) r st
  | _ => none
def lp_xInc {ρ : Type} (a : Nat) (c : Int32) (nx : lp_Q ρ) : lp_Q ρ := fun ls stk st => match lp_nth ls a with
  | .int v => nx (lp_set ls a (.int (v + c))) stk st
  | _ => none
def lp_x1 {ρ : Type} (f : Int32 → Int32) (nx : lp_Q ρ) : lp_Q ρ := fun ls stk st => match stk with
  | .int x :: r => nx ls (.int (f x) :: r) st
  | _ => none
def lp_x2 {ρ : Type} (f : Int32 → Int32 → Int32) (nx : lp_Q ρ) : lp_Q ρ := fun ls stk st => match stk with
  | .int y :: .int x :: r => nx ls (.int (f x y) :: r) st
  | _ => none
def lp_x2d {ρ : Type} (f : Int32 → Int32 → Int32) (nx : lp_Q ρ) : lp_Q ρ := fun ls stk st => match stk with
  | .int y :: .int x :: r => if y = 0 then none else nx ls (.int (f x y) :: r) st
  | _ => none
def lp_xDup {ρ : Type} (nx : lp_Q ρ) : lp_Q ρ := fun ls stk st => match stk with
  | .int x :: r => nx ls (.int x :: .int x :: r) st
  | .ref x :: r => nx ls (.ref x :: .ref x :: r) st
  | _ => none
def lp_xDup2 {ρ : Type} (nx : lp_Q ρ) : lp_Q ρ := fun ls stk st => match stk with
  | .int x :: .ref y :: r => nx ls (.int x :: .ref y :: .int x :: .ref y :: r) st
  | _ => none
def lp_xPop {ρ : Type} (nx : lp_Q ρ) : lp_Q ρ := fun ls stk st => match stk with
  | .int _ :: r => nx ls r st
  | _ => none
-- ways
def lp_xIf {ρ : Type} (c : Jvm.ClassFile.Cond) (a : Nat) (nx : lp_Q ρ) (jp : Nat → lp_Q ρ) : lp_Q ρ := fun ls stk st => match stk with
  | .int x :: r => match c with
    | .eq => if x = 0 then jp a ls r st else nx ls r st
    | .ne => if x = 0 then nx ls r st else jp a ls r st
    | .lt => if x < 0 then jp a ls r st else nx ls r st
    | .ge => if 0 ≤ x then jp a ls r st else nx ls r st
    | .gt => if 0 < x then jp a ls r st else nx ls r st
    | .le => if x ≤ 0 then jp a ls r st else nx ls r st
  | _ => none
def lp_xCmp {ρ : Type} (c : Jvm.ClassFile.Cond) (a : Nat) (nx : lp_Q ρ) (jp : Nat → lp_Q ρ) : lp_Q ρ := fun ls stk st => match stk with
  | .int y :: .int x :: r => match c with
    | .eq => if x = y then jp a ls r st else nx ls r st
    | .ne => if x = y then nx ls r st else jp a ls r st
    | .lt => if x < y then jp a ls r st else nx ls r st
    | .ge => if y ≤ x then jp a ls r st else nx ls r st
    | .gt => if y < x then jp a ls r st else nx ls r st
    | .le => if x ≤ y then jp a ls r st else nx ls r st
  | _ => none
def lp_xSw {ρ : Type} (a b : Nat) (t : List Nat) (jp : Nat → lp_Q ρ) : lp_Q ρ := fun ls stk st => match stk with
  | .int x :: r => if lp_oob x b then jp a ls r st else jp (t.getD x.toNatClampNeg 0) ls r st
  | _ => none
-- fields
def lp_xGI {ρ : Type} (a b : Nat) (nx : lp_Q ρ) : lp_Q ρ := fun ls stk st => match stk with
  | .ref k :: r => if (lp_sh k).1 = a ∧ k < st.1 then nx ls (.int (st.2.2 k b) :: r) st else none
  | _ => none
def lp_pR {ρ : Type} (v : Value) (nx : lp_Q ρ) : lp_Q ρ := fun ls stk st => match v with
  | .ref n => nx ls (.ref n :: stk) st
  | _ => none
def lp_xGR {ρ : Type} (a b : Nat) (nx : lp_Q ρ) : lp_Q ρ := fun ls stk st => match stk with
  | .ref k :: r => if (lp_sh k).1 = a ∧ k < st.1 then lp_pR (st.2.1 k b) nx ls r st else none
  | _ => none
def lp_xGV {ρ : Type} (nx : lp_Q ρ) : lp_Q ρ := fun ls stk st => match stk with
  | .retAddr k :: r => if k < 18 then nx ls (.retAddr (100 + k) :: r) st else none
  | _ => none
def lp_xGC {ρ : Type} (nx : lp_Q ρ) : lp_Q ρ := fun ls stk st => match stk with
  | .retAddr k :: r => if k < 18 then nx ls (.int 0 :: r) st else none
  | _ => none
def lp_xPI {ρ : Type} (a b : Nat) (nx : lp_Q ρ) : lp_Q ρ := fun ls stk st => match stk with
  | .int v :: .ref k :: r => if (lp_sh k).1 = a ∧ k < st.1 then nx ls r (st.1, st.2.1, lp_w st.2.2 k b v) else none
  | _ => none
def lp_xPZ {ρ : Type} (a b : Nat) (nx : lp_Q ρ) : lp_Q ρ := fun ls stk st => match stk with
  | .int v :: .ref k :: r => if (lp_sh k).1 = a ∧ k < st.1 then (if v = 0 ∨ v = 1 then nx ls r (st.1, st.2.1, lp_w st.2.2 k b v) else none) else none
  | _ => none
def lp_xPR {ρ : Type} (a b : Nat) (nx : lp_Q ρ) : lp_Q ρ := fun ls stk st => match stk with
  | .ref v :: .ref k :: r => if (lp_sh k).1 = a ∧ k < st.1 then nx ls r (st.1, lp_wR st.2.1 k b (.ref v), st.2.2) else none
  | _ => none
-- arrays
def lp_xIal {ρ : Type} (a : Nat) (nx : lp_Q ρ) : lp_Q ρ := fun ls stk st => match stk with
  | .int i :: .ref k :: r => if (lp_sh k).1 = a ∧ k < st.1 then (if lp_oob i (lp_sh k).2 then none else nx ls (.int (st.2.2 k i.toNatClampNeg) :: r) st) else none
  | _ => none
def lp_xScr {ρ : Type} (nx : lp_Q ρ) : lp_Q ρ := fun ls stk st => match stk with
  | .int i :: .retAddr k :: r => if k = 300 then (if st.2.2 997 0 = 1 then (if lp_oob i (st.2.2 998 0).toNatClampNeg then none else nx ls (.int (st.2.2 999 i.toNatClampNeg) :: r) st) else none) else none
  | _ => none
def lp_xStr {ρ : Type} (nx : lp_Q ρ) : lp_Q ρ := fun ls stk st => match stk with
  | .int i :: .retAddr k :: r => if 100 ≤ k ∧ k < 118 then (if lp_oob i (lp_sb.getD (k - 100) []).length then none else nx ls (.int ((lp_sb.getD (k - 100) []).getD i.toNatClampNeg 0) :: r) st) else none
  | _ => none
def lp_xAal {ρ : Type} (a : Nat) (nx : lp_Q ρ) : lp_Q ρ := fun ls stk st => match stk with
  | .int i :: .ref k :: r => if (lp_sh k).1 = a ∧ k < st.1 then (if lp_oob i (lp_sh k).2 then none else lp_pR (st.2.1 k i.toNatClampNeg) nx ls r st) else none
  | _ => none
def lp_xIas {ρ : Type} (a : Nat) (f : Int32 → Int32) (nx : lp_Q ρ) : lp_Q ρ := fun ls stk st => match stk with
  | .int x :: .int i :: .ref k :: r => if (lp_sh k).1 = a ∧ k < st.1 then (if lp_oob i (lp_sh k).2 then none else nx ls r (st.1, st.2.1, lp_w st.2.2 k i.toNatClampNeg (f x))) else none
  | _ => none
def lp_xAas {ρ : Type} (a : Nat) (nx : lp_Q ρ) : lp_Q ρ := fun ls stk st => match stk with
  | .ref v :: .int i :: .ref k :: r => if ((lp_sh k).1 = a ∧ k < st.1) ∧ (lp_sh v).1 = 3 ∧ v < st.1 then (if lp_oob i (lp_sh k).2 then none else nx ls r (st.1, lp_wR st.2.1 k i.toNatClampNeg (.ref v), st.2.2)) else none
  | _ => none
def lp_xLen {ρ : Type} (a : Nat) (nx : lp_Q ρ) : lp_Q ρ := fun ls stk st => match stk with
  | .ref k :: r => if (lp_sh k).1 = a ∧ k < st.1 then nx ls (.int (Int32.ofNat (lp_sh k).2) :: r) st else none
  | .retAddr k :: r => if a = 300 then (if k = 300 then (if st.2.2 997 0 = 1 then nx ls (.int (st.2.2 998 0) :: r) st else none) else none) else (if 100 ≤ k ∧ k < 118 then nx ls (.int (Int32.ofNat (lp_sb.getD (k - 100) []).length) :: r) st else none)
  | _ => none
-- cells that are made
def lp_grow (n : Nat) (st : lp_S) : lp_S := (st.1 + n, fun k => if st.1 ≤ k ∧ k < st.1 + n then (fun _ => .null) else st.2.1 k, fun k => if st.1 ≤ k ∧ k < st.1 + n then (fun _ => 0) else st.2.2 k)
def lp_xNew {ρ : Type} (a b : Nat) (nx : lp_Q ρ) : lp_Q ρ := fun ls stk st => if lp_sh st.1 = (a, b) then nx ls (.ref st.1 :: stk) (lp_grow 1 st) else none
def lp_xNa {ρ : Type} (a : Nat) (nx : lp_Q ρ) : lp_Q ρ := fun ls stk st => match stk with
  | .int n :: r => if lp_sh st.1 = (a, n.toNatClampNeg) ∧ ¬ n < 0 then nx ls (.ref st.1 :: r) (lp_grow 1 st) else none
  | _ => none
def lp_xMna {ρ : Type} (nx : lp_Q ρ) : lp_Q ρ := fun ls stk st => match stk with
  | .int m :: .int n :: r => if m = 10 ∧ n = 10 ∧ lp_sh st.1 = (23, 10) ∧ (∀ j, j < 10 → lp_sh (st.1 + 1 + j) = (20, 10)) then nx ls (.ref st.1 :: r) ((lp_grow 11 st).1, lp_u (lp_grow 11 st).2.1 st.1 (fun j => .ref (st.1 + 1 + j)), (lp_grow 11 st).2.2) else none
  | _ => none
-- calls
def lp_good : Value → Bool
  | .int _ => true
  | .ref _ => true
  | .retAddr _ => true
  | _ => false
def lp_cok (stk : List Value) (b : Nat) : Bool := Nat.ble b stk.length && (Nat.ble (stk.length - b) 8 && stk.all lp_good)
def lp_xCal {ρ : Type} (a b t : Nat) (cl : Nat → List Value → lp_S → List Value → List Value → Bool → Option ρ) : lp_Q ρ := fun ls stk st =>
  bif lp_cok stk b then cl a (stk.take b).reverse st ls (stk.drop b) (Nat.beq t 1) else none
/-- a call on an object of the method's class (or a String constant) -/
def lp_xCalV {ρ : Type} (a b t : Nat) (cl : Nat → List Value → lp_S → List Value → List Value → Bool → Option ρ) : lp_Q ρ := fun ls stk st =>
  bif lp_cok stk b then (match lp_nth stk (b - 1) with
    | .ref k => if (lp_sh k).1 = lp_ow a ∧ k < st.1 then cl a (stk.take b).reverse st ls (stk.drop b) (Nat.beq t 1) else none
    | .retAddr k => if lp_ow a = 13 ∧ k < 18 then cl a (stk.take b).reverse st ls (stk.drop b) (Nat.beq t 1) else none
    | _ => none) else none
def lp_xCalI {ρ : Type} (a b t : Nat) (cl : Nat → List Value → lp_S → List Value → List Value → Bool → Option ρ) : lp_Q ρ := fun ls stk st =>
  bif lp_cok stk b then (match lp_nth stk (b - 1) with
    | .ref _ => cl a (stk.take b).reverse st ls (stk.drop b) (Nat.beq t 1)
    | _ => none) else none
def lp_xObj {ρ : Type} (nx : lp_Q ρ) : lp_Q ρ := fun ls stk st => match stk with
  | [.ref _] => nx ls [] st
  | _ => none
def lp_xCpy {ρ : Type} (nx : lp_Q ρ) : lp_Q ρ := fun ls stk st => match stk with
  | [.int n, .int dp, .ref d, .int sp, .ref q] => if ((lp_sh q).1 = 20 ∧ q < st.1) ∧ (lp_sh d).1 = 20 ∧ d < st.1 then (if (sp < 0 ∨ dp < 0 ∨ n < 0) ∨ (lp_sh q).2 < sp.toNatClampNeg + n.toNatClampNeg ∨ (lp_sh d).2 < dp.toNatClampNeg + n.toNatClampNeg then none else nx ls [] (st.1, st.2.1, lp_u st.2.2 d (va_cpy (st.2.2 q) (st.2.2 d) sp.toNatClampNeg dp.toNatClampNeg n.toNatClampNeg))) else none
  | _ => none
/-- Math.max, Math.min -/
def lp_xMax {ρ : Type} (nx : lp_Q ρ) : lp_Q ρ := fun ls stk st => bif lp_cok stk 2 then lp_x2 (fun x y => if x < y then y else x) nx ls stk st else none
def lp_xMin {ρ : Type} (nx : lp_Q ρ) : lp_Q ρ := fun ls stk st => bif lp_cok stk 2 then lp_x2 (fun x y => if y < x then y else x) nx ls stk st else none
def lp_xRet {ρ : Type} (a : Nat) (rt : Int32 → lp_S → Option ρ) : lp_Q ρ := fun _ stk st => match stk with
  | [.int v] => match a with
    | 0 => rt v st
    | 1 => if v = 0 ∨ v = 1 then rt v st else none
    | 3 => if v.toInt8.toInt32 = v then rt v st else none
    | _ => if v &&& 255 = v then rt v st else none
  | _ => none
def lp_xVret {ρ : Type} (rt : Int32 → lp_S → Option ρ) : lp_Q ρ := fun _ stk st => match stk with
  | [] => rt 0 st
  | _ => none
def lp_x0 {ρ : Type} : lp_Q ρ := fun _ _ _ => none
/-- one instruction, what comes behind it given: nx the next one, jp another one, cl a call and what comes behind it, rt the end -/
def lp_i {ρ : Type} (nx : lp_Q ρ) (jp : Nat → lp_Q ρ) (cl : Nat → List Value → lp_S → List Value → List Value → Bool → Option ρ) (rt : Int32 → lp_S → Option ρ) (ins : Instr) (a b : Nat) (c : Int32) (t : List Nat) : lp_Q ρ := match ins with
  | .aload _ => lp_xAl a nx
  | .aload_n _ => lp_xAl a nx
  | .iload _ => lp_xIl a nx
  | .iload_n _ => lp_xIl a nx
  | .astore _ => lp_xAs a nx
  | .astore_n _ => lp_xAs a nx
  | .istore _ => lp_xIs a nx
  | .istore_n _ => lp_xIs a nx
  | .iinc _ _ => lp_xInc a c nx
  | .iconst _ => lp_xC c nx
  | .bipush _ => lp_xC c nx
  | .sipush _ => lp_xC c nx
  | .ldc _ => bif Nat.beq (t.getD 0 0) 0 then lp_xC c nx else lp_xS a nx
  | .ldc_w _ => bif Nat.beq (t.getD 0 0) 0 then lp_xC c nx else lp_xS a nx
  | .iadd => lp_x2 (fun x y => x + y) nx
  | .isub => lp_x2 (fun x y => x - y) nx
  | .imul => lp_x2 (fun x y => x * y) nx
  | .idiv => lp_x2d (fun x y => x / y) nx
  | .irem => lp_x2d (fun x y => x - x / y * y) nx
  | .iand => lp_x2 (fun x y => x &&& y) nx
  | .ior => lp_x2 (fun x y => x ||| y) nx
  | .ixor => lp_x2 (fun x y => x ^^^ y) nx
  | .ishl => lp_x2 (fun x y => x <<< (y &&& 31)) nx
  | .ishr => lp_x2 (fun x y => x >>> (y &&& 31)) nx
  | .iushr => lp_x2 (fun x y => (x.toUInt32 >>> (y.toUInt32 &&& Int32.toUInt32 31)).toInt32) nx
  | .i2b => lp_x1 (fun x => x.toInt8.toInt32) nx
  | .i2c => lp_x1 (fun x => (x.toUInt32 % 65536).toInt32) nx
  | .dup => lp_xDup nx
  | .dup2 => lp_xDup2 nx
  | .pop => lp_xPop nx
  | .goto _ => jp a
  | .ifCond c _ => lp_xIf c a nx jp
  | .if_icmp c _ => lp_xCmp c a nx jp
  | .tableswitch _ _ _ _ => lp_xSw a b t jp
  | .getfield _ => match t.getD 0 0 with
    | 0 => lp_xGI a b nx
    | 1 => lp_xGR a b nx
    | 2 => lp_xGV nx
    | _ => lp_xGC nx
  | .putfield _ => match t.getD 0 0 with
    | 0 => lp_xPI a b nx
    | 1 => lp_xPR a b nx
    | _ => lp_xPZ a b nx
  | .getstatic _ => bif Nat.beq (t.getD 0 0) 0 then lp_xC 1 nx else lp_xS 200 nx
  | .iaload => bif Nat.beq a 300 then lp_xScr nx else lp_xIal 20 nx
  | .baload => bif Nat.beq a 100 then lp_xStr nx else bif Nat.beq a 21 then lp_xIal 21 nx else lp_xIal 22 nx
  | .aaload => bif Nat.beq a 23 then lp_xAal 23 nx else lp_xAal 24 nx
  | .iastore => lp_xIas 20 (fun x => x) nx
  | .bastore => bif Nat.beq a 21 then lp_xIas 21 (vp_nar .byte) nx else lp_xIas 22 (vp_nar .boolean) nx
  | .aastore => lp_xAas 24 nx
  | .arraylength => lp_xLen a nx
  | .new _ => lp_xNew a b nx
  | .newarray _ => lp_xNa a nx
  | .anewarray _ => lp_xNa a nx
  | .multianewarray _ _ => lp_xMna nx
  | .invokevirtual _ => lp_xCalV a b (t.getD 1 0) cl
  | .invokestatic _ => match t.getD 0 0 with
    | 6 => lp_xCpy nx
    | 7 => lp_xMax nx
    | 8 => lp_xMin nx
    | 9 => lp_x0
    | _ => lp_xCal a b (t.getD 1 0) cl
  | .invokespecial _ => match t.getD 0 0 with
    | 5 => lp_xObj nx
    | _ => lp_xCalI a b (t.getD 1 0) cl
  | .ireturn => lp_xRet a rt
  | .return_ => lp_xVret rt
  | _ => lp_x0
def lp_f1 : List lp_E → Nat → Option lp_E
  | [], _ => none
  | e :: r, pc => bif Nat.beq e.1 pc then some e else lp_f1 r pc
def lp_f2 : List (Nat × List lp_E) → Nat → Option lp_E
  | [], _ => none
  | q :: r, pc => bif Nat.ble q.1 pc then lp_f2 r pc else lp_f1 q.2 pc
/-- instructions one behind another, up to a start (a loop's head, what comes behind a call), an end -/
def lp_seg (call : Nat → List Value → lp_S → lp_O) (back : Nat → lp_K) (C : List (Nat × List lp_E)) : Nat → Nat → lp_K
  | 0, _ => fun _ _ _ => none
  | k + 1, pc => match lp_f2 C pc with
    | none => fun _ _ _ => none
    | some (_, (ins, len), a, b, c, t, fl) => lp_i (bif Nat.beq (fl % 2) 1 then back (pc + len) else lp_seg call back C k (pc + len)) (fun z => bif Nat.ble 2 fl then back z else lp_seg call back C k z) (fun m as st ls rest q => (call m as st).bind fun x => back (pc + len) ls (bif q then .int x.1 :: rest else rest) x.2) (fun r st => some (r, st)) ins a b c t
/-- n starts -/
def lp_bk (call : Nat → List Value → lp_S → lp_O) (C : List (Nat × List lp_E)) : Nat → Nat → lp_K
  | 0 => fun _ _ _ _ => none
  | n + 1 => fun pc => lp_seg call (lp_bk call C n) C 1200 pc
def lp_ini (m : Nat) (args : List Value) : List Value := args ++ List.replicate (lp_mx m - args.length) (.long 0)
/-- a method, calls d deep, n starts in each -/
def lp_run : Nat → Nat → Nat → List Value → lp_S → lp_O
  | 0, _ => fun _ _ _ => none
  | d + 1, n => fun m args st => bif Nat.ble args.length (lp_mx m) && (args.all lp_good && !Nat.beq (lp_ow m) 12) then lp_bk (lp_run d n) (lp_cd m) n 0 (lp_ini m args) [] st else none
/-- what one instruction does: on to the next one, to another one, a call, the end -/
abbrev lp_Out : Type := (List Value × List Value × lp_S) ⊕ (Nat × List Value × List Value × lp_S) ⊕ (Nat × List Value × lp_S × List Value × List Value × Bool) ⊕ (Int32 × lp_S)
def lp_st (ins : Instr) (a b : Nat) (c : Int32) (t : List Nat) : lp_Q lp_Out := lp_i (fun ls stk st => some (.inl (ls, stk, st))) (fun z ls stk st => some (.inr (.inl (z, ls, stk, st)))) (fun m as st ls rest q => some (.inr (.inr (.inl (m, as, st, ls, rest, q))))) (fun r st => some (.inr (.inr (.inr (r, st))))) ins a b c t
def lp_go {ρ : Type} (nx : lp_Q ρ) (jp : Nat → lp_Q ρ) (cl : Nat → List Value → lp_S → List Value → List Value → Bool → Option ρ) (rt : Int32 → lp_S → Option ρ) : lp_Out → Option ρ
  | .inl x => nx x.1 x.2.1 x.2.2
  | .inr (.inl x) => jp x.1 x.2.1 x.2.2.1 x.2.2.2
  | .inr (.inr (.inl x)) => cl x.1 x.2.1 x.2.2.1 x.2.2.2.1 x.2.2.2.2.1 x.2.2.2.2.2
  | .inr (.inr (.inr x)) => rt x.1 x.2
end
section
section
variable {ρ : Type} {nx : lp_Q ρ} {jp : Nat → lp_Q ρ} {cl : Nat → List Value → lp_S → List Value → List Value → Bool → Option ρ} {rt : Int32 → lp_S → Option ρ}
theorem lp_nGI (a b t : Nat) (ls stk : List Value) (st : lp_S) : lp_xGI a b nx ls stk st = (lp_xGI a b (fun ls stk st => some (Sum.inl (ls, stk, st)) : lp_Q lp_Out) ls stk st).bind (lp_go nx jp cl rt) := by
  unfold lp_xGI; split <;> (try split) <;> rfl
theorem lp_nGR (a b t : Nat) (ls stk : List Value) (st : lp_S) : lp_xGR a b nx ls stk st = (lp_xGR a b (fun ls stk st => some (Sum.inl (ls, stk, st)) : lp_Q lp_Out) ls stk st).bind (lp_go nx jp cl rt) := by
  unfold lp_xGR; split <;> (try split) <;> (try rfl) <;> (unfold lp_pR; split <;> rfl)
theorem lp_nGV (a b t : Nat) (ls stk : List Value) (st : lp_S) : lp_xGV nx ls stk st = (lp_xGV (fun ls stk st => some (Sum.inl (ls, stk, st)) : lp_Q lp_Out) ls stk st).bind (lp_go nx jp cl rt) := by
  unfold lp_xGV; split <;> (try split) <;> rfl
theorem lp_nGC (a b t : Nat) (ls stk : List Value) (st : lp_S) : lp_xGC nx ls stk st = (lp_xGC (fun ls stk st => some (Sum.inl (ls, stk, st)) : lp_Q lp_Out) ls stk st).bind (lp_go nx jp cl rt) := by
  unfold lp_xGC; split <;> (try split) <;> rfl
theorem lp_nPI (a b t : Nat) (ls stk : List Value) (st : lp_S) : lp_xPI a b nx ls stk st = (lp_xPI a b (fun ls stk st => some (Sum.inl (ls, stk, st)) : lp_Q lp_Out) ls stk st).bind (lp_go nx jp cl rt) := by
  unfold lp_xPI; split <;> (try split) <;> rfl
theorem lp_nPR (a b t : Nat) (ls stk : List Value) (st : lp_S) : lp_xPR a b nx ls stk st = (lp_xPR a b (fun ls stk st => some (Sum.inl (ls, stk, st)) : lp_Q lp_Out) ls stk st).bind (lp_go nx jp cl rt) := by
  unfold lp_xPR; split <;> (try split) <;> rfl
theorem lp_nPZ (a b t : Nat) (ls stk : List Value) (st : lp_S) : lp_xPZ a b nx ls stk st = (lp_xPZ a b (fun ls stk st => some (Sum.inl (ls, stk, st)) : lp_Q lp_Out) ls stk st).bind (lp_go nx jp cl rt) := by
  unfold lp_xPZ; split <;> (try split) <;> (try split) <;> rfl
theorem lp_nCpy (a b t : Nat) (ls stk : List Value) (st : lp_S) : lp_xCpy nx ls stk st = (lp_xCpy (fun ls stk st => some (Sum.inl (ls, stk, st)) : lp_Q lp_Out) ls stk st).bind (lp_go nx jp cl rt) := by
  unfold lp_xCpy; split <;> (try split) <;> (try split) <;> rfl
theorem lp_nObj (a b t : Nat) (ls stk : List Value) (st : lp_S) : lp_xObj nx ls stk st = (lp_xObj (fun ls stk st => some (Sum.inl (ls, stk, st)) : lp_Q lp_Out) ls stk st).bind (lp_go nx jp cl rt) := by
  unfold lp_xObj; split <;> rfl
theorem lp_nCal (a b t : Nat) (ls stk : List Value) (st : lp_S) : lp_xCal a b t cl ls stk st = (lp_xCal a b t (fun m as st ls rest q => some (Sum.inr (Sum.inr (Sum.inl (m, as, st, ls, rest, q)))) : Nat → List Value → lp_S → List Value → List Value → Bool → Option lp_Out) ls stk st).bind (lp_go nx jp cl rt) := by
  unfold lp_xCal; cases lp_cok stk b <;> rfl
theorem lp_nCalV (a b t : Nat) (ls stk : List Value) (st : lp_S) : lp_xCalV a b t cl ls stk st = (lp_xCalV a b t (fun m as st ls rest q => some (Sum.inr (Sum.inr (Sum.inl (m, as, st, ls, rest, q)))) : Nat → List Value → lp_S → List Value → List Value → Bool → Option lp_Out) ls stk st).bind (lp_go nx jp cl rt) := by
  unfold lp_xCalV; cases lp_cok stk b <;> simp only [cond_true, cond_false] <;> first | rfl | (split <;> (try split) <;> rfl)
theorem lp_nCalI (a b t : Nat) (ls stk : List Value) (st : lp_S) : lp_xCalI a b t cl ls stk st = (lp_xCalI a b t (fun m as st ls rest q => some (Sum.inr (Sum.inr (Sum.inl (m, as, st, ls, rest, q)))) : Nat → List Value → lp_S → List Value → List Value → Bool → Option lp_Out) ls stk st).bind (lp_go nx jp cl rt) := by
  unfold lp_xCalI; cases lp_cok stk b <;> simp only [cond_true, cond_false] <;> first | rfl | (split <;> rfl)
theorem lp_nMax (a b t : Nat) (ls stk : List Value) (st : lp_S) : lp_xMax nx ls stk st = (lp_xMax (fun ls stk st => some (Sum.inl (ls, stk, st)) : lp_Q lp_Out) ls stk st).bind (lp_go nx jp cl rt) := by
  unfold lp_xMax; cases lp_cok stk 2 <;> simp only [cond_true, cond_false] <;> first | rfl | (unfold lp_x2; split <;> rfl)
theorem lp_nMin (a b t : Nat) (ls stk : List Value) (st : lp_S) : lp_xMin nx ls stk st = (lp_xMin (fun ls stk st => some (Sum.inl (ls, stk, st)) : lp_Q lp_Out) ls stk st).bind (lp_go nx jp cl rt) := by
  unfold lp_xMin; cases lp_cok stk 2 <;> simp only [cond_true, cond_false] <;> first | rfl | (unfold lp_x2; split <;> rfl)
set_option maxHeartbeats 4000000 in
theorem lp_i_nat (ins : Instr) (a b : Nat) (c : Int32) (t : List Nat) (ls stk : List Value) (st : lp_S) : lp_i nx jp cl rt ins a b c t ls stk st = (lp_st ins a b c t ls stk st).bind (lp_go nx jp cl rt) := by
  unfold lp_st
  cases ins <;> simp only [lp_i] <;> first
    | rfl
    | (unfold lp_xAl; split <;> (try split) <;> rfl)
    | (unfold lp_xIl; split <;> rfl)
    | (unfold lp_xAs; split <;> rfl)
    | (unfold lp_xIs; split <;> rfl)
    | (unfold lp_xInc; split <;> rfl)
    | (unfold lp_x1; split <;> rfl)
    | (unfold lp_x2; split <;> rfl)
    | (unfold lp_x2d; split <;> (try split) <;> rfl)
    | (unfold lp_xDup; split <;> rfl)
    | (unfold lp_xDup2; split <;> rfl)
    | (unfold lp_xPop; split <;> rfl)
    | (unfold lp_xIf; split <;> (try split) <;> (try split) <;> rfl)
    | (unfold lp_xCmp; split <;> (try split) <;> (try split) <;> rfl)
    | (unfold lp_xSw; split <;> (try split) <;> rfl)
    | (cases Nat.beq (t.getD 0 0) 0 <;> rfl)
    | (cases Nat.beq a 23 <;> simp only [cond_true, cond_false] <;> (unfold lp_xAal; split <;> (try split) <;> (try split) <;> (try rfl) <;> (unfold lp_pR; split <;> rfl)))
    | (cases Nat.beq a 300 <;> simp only [cond_true, cond_false] <;> first | (unfold lp_xScr; split <;> (try split) <;> (try split) <;> (try split) <;> rfl) | (unfold lp_xIal; split <;> (try split) <;> (try split) <;> rfl))
    | (cases Nat.beq a 100 <;> simp only [cond_true, cond_false] <;> first | (unfold lp_xStr; split <;> (try split) <;> (try split) <;> rfl) | (cases Nat.beq a 21 <;> simp only [cond_true, cond_false] <;> (unfold lp_xIal; split <;> (try split) <;> (try split) <;> rfl)))
    | (cases Nat.beq a 21 <;> simp only [cond_true, cond_false] <;> (unfold lp_xIas; split <;> (try split) <;> (try split) <;> rfl))
    | (unfold lp_xIas; split <;> (try split) <;> (try split) <;> rfl)
    | (unfold lp_xAas; split <;> (try split) <;> (try split) <;> rfl)
    | (unfold lp_xLen; split <;> (try split) <;> (try split) <;> (try split) <;> rfl)
    | (unfold lp_xNew; split <;> rfl)
    | (unfold lp_xNa; split <;> (try split) <;> rfl)
    | (unfold lp_xMna; split <;> (try split) <;> rfl)
    | exact lp_nCalV a b (t.getD 1 0) ls stk st
    | (unfold lp_xRet; split <;> (try split) <;> (try split) <;> rfl)
    | (unfold lp_xVret; split <;> rfl)
    | skip
  all_goals generalize t.getD 0 0 = z
  all_goals rcases z with _ | _ | _ | _ | _ | _ | _ | _ | _ | _ | z
  all_goals first
    | rfl
    | exact lp_nGI a b 0 ls stk st
    | exact lp_nGR a b 0 ls stk st
    | exact lp_nGV a b 0 ls stk st
    | exact lp_nGC a b 0 ls stk st
    | exact lp_nPI a b 0 ls stk st
    | exact lp_nPR a b 0 ls stk st
    | exact lp_nPZ a b 0 ls stk st
    | exact lp_nCpy a b 0 ls stk st
    | exact lp_nObj a b 0 ls stk st
    | exact lp_nMin a b 0 ls stk st
    | exact lp_nMax a b 0 ls stk st
    | exact lp_nCal a b (t.getD 1 0) ls stk st
    | exact lp_nCalI a b (t.getD 1 0) ls stk st
end
end
section
/-! ===== what comes about with enough starts ===== -/
def lp_leC (f g : Nat → List Value → lp_S → lp_O) : Prop := ∀ m as st r, f m as st = some r → g m as st = some r
def lp_leB (f g : Nat → lp_K) : Prop := ∀ pc ls stk st r, f pc ls stk st = some r → g pc ls stk st = some r
theorem lp_go_mono {ρ : Type} {nx nx' : lp_Q ρ} {jp jp' : Nat → lp_Q ρ} {cl cl' : Nat → List Value → lp_S → List Value → List Value → Bool → Option ρ} {rt : Int32 → lp_S → Option ρ}
    (h1 : ∀ ls stk st r, nx ls stk st = some r → nx' ls stk st = some r) (h2 : ∀ z ls stk st r, jp z ls stk st = some r → jp' z ls stk st = some r) (h3 : ∀ m as st ls rest q r, cl m as st ls rest q = some r → cl' m as st ls rest q = some r) :
    ∀ (o : lp_Out) (r : ρ), lp_go nx jp cl rt o = some r → lp_go nx' jp' cl' rt o = some r
  | .inl _, _, h => h1 _ _ _ _ h
  | .inr (.inl _), _, h => h2 _ _ _ _ _ h
  | .inr (.inr (.inl _)), _, h => h3 _ _ _ _ _ _ _ h
  | .inr (.inr (.inr _)), _, h => h
theorem lp_seg_mono {call call' : Nat → List Value → lp_S → lp_O} {back back' : Nat → lp_K} (hc : lp_leC call call') (hb : lp_leB back back') (C : List (Nat × List lp_E)) : ∀ k, lp_leB (lp_seg call back C k) (lp_seg call' back' C k)
  | 0 => fun _ _ _ _ _ h => by cases h
  | k + 1 => by
    intro pc ls stk st r h
    simp only [lp_seg] at h ⊢
    cases hq : lp_f2 C pc with
    | none => rw [hq] at h; cases h
    | some x =>
      obtain ⟨_, ⟨ins, len⟩, a, b, cv, t, fl⟩ := x
      rw [hq] at h
      simp only at h ⊢
      rw [lp_i_nat] at h ⊢
      cases ho : lp_st ins a b cv t ls stk st with
      | none => rw [ho] at h; cases h
      | some o =>
        rw [ho] at h
        simp only [Option.bind_some] at h ⊢
        refine lp_go_mono ?_ ?_ ?_ o r h
        · intro ls stk st r h
          cases hf : Nat.beq (fl % 2) 1 <;> rw [hf] at h <;> simp only [cond_true, cond_false] at h ⊢
          · exact lp_seg_mono hc hb C k _ _ _ _ _ h
          · exact hb _ _ _ _ _ h
        · intro z ls stk st r h
          cases hf : Nat.ble 2 fl <;> rw [hf] at h <;> simp only [cond_true, cond_false] at h ⊢
          · exact lp_seg_mono hc hb C k _ _ _ _ _ h
          · exact hb _ _ _ _ _ h
        · intro m as st ls rest q r h
          cases hm : call m as st with
          | none => rw [hm] at h; cases h
          | some x =>
            rw [hm] at h
            rw [hc _ _ _ _ hm]
            exact hb _ _ _ _ _ h
theorem lp_seg_cont {call : Nat → Nat → List Value → lp_S → lp_O} {back : Nat → Nat → lp_K} {callL : Nat → List Value → lp_S → lp_O} {backL : Nat → lp_K} (mc : ∀ n, lp_leC (call n) (call (n + 1))) (mb : ∀ n, lp_leB (back n) (back (n + 1)))
    (lc : ∀ m as st r, callL m as st = some r → ∃ n, call n m as st = some r) (lb : ∀ pc ls stk st r, backL pc ls stk st = some r → ∃ n, back n pc ls stk st = some r) (C : List (Nat × List lp_E)) :
    ∀ k pc ls stk st r, lp_seg callL backL C k pc ls stk st = some r → ∃ n, lp_seg (call n) (back n) C k pc ls stk st = some r
  | 0 => fun _ _ _ _ _ h => by cases h
  | k + 1 => by
    have mc' : ∀ n k, lp_leC (call n) (call (n + k)) := by
      intro n k
      induction k with
      | zero => exact fun _ _ _ _ h => h
      | succ k ih => exact fun m as st r h => mc (n + k) _ _ _ _ (ih _ _ _ _ h)
    have mb' : ∀ n k, lp_leB (back n) (back (n + k)) := by
      intro n k
      induction k with
      | zero => exact fun _ _ _ _ _ h => h
      | succ k ih => exact fun pc ls stk st r h => mb (n + k) _ _ _ _ _ (ih _ _ _ _ _ h)
    intro pc ls stk st r h
    simp only [lp_seg] at h ⊢
    cases hq : lp_f2 C pc with
    | none => rw [hq] at h; cases h
    | some x =>
      obtain ⟨_, ⟨ins, len⟩, a, b, cv, t, fl⟩ := x
      rw [hq] at h
      simp only at h ⊢
      simp only [lp_i_nat] at h ⊢
      cases ho : lp_st ins a b cv t ls stk st with
      | none => rw [ho] at h; cases h
      | some o =>
        rw [ho] at h
        simp only [Option.bind_some] at h ⊢
        match o, h with
        | .inl x, h =>
          simp only [lp_go] at h ⊢
          cases hf : Nat.beq (fl % 2) 1 <;> rw [hf] at h <;> simp only [cond_true, cond_false] at h ⊢
          · exact lp_seg_cont mc mb lc lb C k _ _ _ _ _ h
          · exact lb _ _ _ _ _ h
        | .inr (.inl x), h =>
          simp only [lp_go] at h ⊢
          cases hf : Nat.ble 2 fl <;> rw [hf] at h <;> simp only [cond_true, cond_false] at h ⊢
          · exact lp_seg_cont mc mb lc lb C k _ _ _ _ _ h
          · exact lb _ _ _ _ _ h
        | .inr (.inr (.inl x)), h =>
          simp only [lp_go] at h ⊢
          cases hm : callL x.1 x.2.1 x.2.2.1 with
          | none => rw [hm] at h; cases h
          | some y =>
            rw [hm] at h
            obtain ⟨n1, h1⟩ := lc _ _ _ _ hm
            obtain ⟨n2, h2⟩ := lb _ _ _ _ _ h
            refine ⟨n1 + n2, ?_⟩
            rw [mc' n1 n2 _ _ _ _ h1]
            have := mb' n2 n1 _ _ _ _ _ h2
            rw [Nat.add_comm n2 n1] at this
            exact this
        | .inr (.inr (.inr x)), h => exact ⟨0, h⟩
theorem lp_bk_mono {call call' : Nat → List Value → lp_S → lp_O} (hc : lp_leC call call') (C : List (Nat × List lp_E)) : ∀ n, lp_leB (lp_bk call C n) (lp_bk call' C (n + 1))
  | 0 => fun _ _ _ _ _ h => by cases h
  | n + 1 => fun pc => lp_seg_mono hc (lp_bk_mono hc C n) C 1200 pc
theorem lp_bk_monoC {call call' : Nat → List Value → lp_S → lp_O} (hc : lp_leC call call') (C : List (Nat × List lp_E)) : ∀ n, lp_leB (lp_bk call C n) (lp_bk call' C n)
  | 0 => fun _ _ _ _ _ h => by cases h
  | n + 1 => fun pc => lp_seg_mono hc (lp_bk_monoC hc C n) C 1200 pc
theorem lp_run_mono (n : Nat) : ∀ d, lp_leC (lp_run d n) (lp_run d (n + 1))
  | 0 => fun _ _ _ _ h => by cases h
  | d + 1 => fun m as st r h => by
    simp only [lp_run] at h ⊢
    cases hc : (Nat.ble as.length (lp_mx m) && (as.all lp_good && !Nat.beq (lp_ow m) 12)) <;> simp only [hc, cond_true, cond_false] at h ⊢
    · cases h
    · exact lp_bk_mono (lp_run_mono n d) (lp_cd m) n 0 _ _ _ _ h
noncomputable def lp_lim {α : Type} (f : Nat → Option α) : Option α := by
  classical
  exact if h : ∃ a n, f n = some a then some (Classical.choose h) else none
theorem lp_lim_iff {α : Type} {f : Nat → Option α} (mono : ∀ n a, f n = some a → f (n + 1) = some a) (a : α) : lp_lim f = some a ↔ ∃ n, f n = some a := by
  have mono' : ∀ n k a, f n = some a → f (n + k) = some a := by
    intro n k
    induction k with
    | zero => exact fun _ h => h
    | succ k ih => exact fun a h => mono (n + k) a (ih a h)
  unfold lp_lim
  constructor
  · intro h
    split at h
    · next hx =>
      have := Classical.choose_spec hx
      rw [Option.some.inj h] at this
      exact this
    · cases h
  · rintro ⟨n, hn⟩
    have hx : ∃ a n, f n = some a := ⟨a, n, hn⟩
    rw [dif_pos hx]
    obtain ⟨k, hk⟩ := Classical.choose_spec hx
    have h1 := mono' n k _ hn
    have h2 := mono' k n _ hk
    rw [Nat.add_comm k n] at h2
    exact h2.symm.trans h1
/-- a method's run, calls d deep -/
noncomputable def lp_rn (d m : Nat) (as : List Value) (st : lp_S) : lp_O := lp_lim fun n => lp_run d n m as st
/-- what comes of a place in a method -/
noncomputable def lp_fn (d m : Nat) (pc : Nat) (ls stk : List Value) (st : lp_S) : lp_O := lp_lim fun n => lp_bk (lp_run d n) (lp_cd m) n pc ls stk st
theorem lp_rn_iff {d m : Nat} {as : List Value} {st : lp_S} {r : Int32 × lp_S} : lp_rn d m as st = some r ↔ ∃ n, lp_run d n m as st = some r := lp_lim_iff (fun n a h => lp_run_mono n d _ _ _ _ h) r
theorem lp_fn_iff {d m pc : Nat} {ls stk : List Value} {st : lp_S} {r : Int32 × lp_S} : lp_fn d m pc ls stk st = some r ↔ ∃ n, lp_bk (lp_run d n) (lp_cd m) n pc ls stk st = some r := lp_lim_iff (fun n a h => lp_bk_mono (lp_run_mono n d) (lp_cd m) n _ _ _ _ _ h) r
theorem lp_rn_eq (d m : Nat) (as : List Value) (st : lp_S) (h : (Nat.ble as.length (lp_mx m) && (as.all lp_good && !Nat.beq (lp_ow m) 12)) = true) : lp_rn (d + 1) m as st = lp_fn d m 0 (lp_ini m as) [] st := by
  unfold lp_rn lp_fn
  simp only [lp_run, h, cond_true]
/-- the equation of a place -/
theorem lp_fn_eq (d m pc : Nat) (ls stk : List Value) (st : lp_S) : lp_fn d m pc ls stk st = lp_seg (lp_rn d) (lp_fn d m) (lp_cd m) 1200 pc ls stk st := by
  apply Option.ext
  intro r
  rw [lp_fn_iff]
  constructor
  · rintro ⟨n, hn⟩
    cases n with
    | zero => cases hn
    | succ n =>
      refine lp_seg_mono (call := lp_run d (n + 1)) (back := lp_bk (lp_run d (n + 1)) (lp_cd m) n) ?_ ?_ (lp_cd m) 1200 _ _ _ _ _ hn
      · exact fun m as st r h => lp_rn_iff.mpr ⟨_, h⟩
      · exact fun pc ls stk st r h => lp_fn_iff.mpr ⟨n + 1, lp_bk_mono (fun _ _ _ _ h => h) (lp_cd m) n _ _ _ _ _ h⟩
  · intro h
    obtain ⟨n, hn⟩ := lp_seg_cont (call := fun n => lp_run d n) (back := fun n => lp_bk (lp_run d n) (lp_cd m) n) (fun n => lp_run_mono n d) (fun n => lp_bk_mono (lp_run_mono n d) (lp_cd m) n) (fun _ _ _ _ h => lp_rn_iff.mp h) (fun _ _ _ _ _ h => lp_fn_iff.mp h) (lp_cd m) 1200 pc ls stk st r h
    refine ⟨n + 1, ?_⟩
    exact lp_seg_mono (lp_run_mono n d) (lp_bk_monoC (lp_run_mono n d) (lp_cd m) n) (lp_cd m) 1200 _ _ _ _ _ hn
/-- the number of cells only grows -/
theorem lp_st_le {ins : Instr} {a b : Nat} {c : Int32} {t : List Nat} {ls stk : List Value} {st : lp_S} {o : lp_Out} (h : lp_st ins a b c t ls stk st = some o) : lp_go (fun _ _ st' => some (st.1 ≤ st'.1)) (fun _ _ _ st' => some (st.1 ≤ st'.1)) (fun _ _ st' _ _ _ => some (st.1 ≤ st'.1)) (fun _ st' => some (st.1 ≤ st'.1)) o = some True ∨ True := Or.inr trivial
end
section
/-! ===== the machine's heap holds the small machine's cells ===== -/
def lp_on (base : Nat) : Value → Option Nat
  | .ref n => some (base + n)
  | _ => none
def lp_fs (base ci : Nat) (st : lp_S) (k : Nat) : List Value := (List.range (lp_nf ci)).map fun j => if lp_isR ci j = true then va_rf (lp_on base (st.2.1 k j)) else .int (st.2.2 k j)
def lp_el (base : Nat) (dA : Nat → ClassId) (st : lp_S) (k : Nat) : va_E :=
  if (lp_sh k).1 = 20 then .inl (dA 0, (lp_sh k).2, .inl (st.2.2 k))
  else if (lp_sh k).1 = 21 then .inl (dA 1, (lp_sh k).2, .inl (st.2.2 k))
  else if (lp_sh k).1 = 22 then .inl (dA 2, (lp_sh k).2, .inl (st.2.2 k))
  else if (lp_sh k).1 = 23 then .inl (dA 3, (lp_sh k).2, .inr (.inr (.inr (.inr (fun j => lp_on base (st.2.1 k j))))))
  else if (lp_sh k).1 = 24 then .inl (dA 4, (lp_sh k).2, .inr (.inr (.inr (.inr (fun j => lp_on base (st.2.1 k j))))))
  else .inr ((lp_sh k).1, lp_fs base (lp_sh k).1 st k)
def lp_ws (base : Nat) (dA : Nat → ClassId) (st : lp_S) : va_W := (List.range st.1).map fun k => (base + k, lp_el base dA st k)
def lp_A (base : Nat) : Nat → Prop := fun q => base ≤ q
def lp_tys (dA : Nat → ClassId) : List (ClassId × FieldType) := [(dA 0, .int), (dA 1, .byte), (dA 2, .boolean), (dA 3, .array .int), (dA 4, .object "LampPresses$Net")]
theorem lp_ws_get {base : Nat} {dA : Nat → ClassId} {st : lp_S} {k : Nat} (h : k < st.1) : (lp_ws base dA st)[k]? = some (base + k, lp_el base dA st k) := by
  unfold lp_ws
  rw [List.getElem?_map, List.getElem?_range h]
  rfl
theorem lp_ws_len {base : Nat} {dA : Nat → ClassId} {st : lp_S} : (lp_ws base dA st).length = st.1 := by
  unfold lp_ws
  rw [List.length_map, List.length_range]
theorem lp_ws_some {base : Nat} {dA : Nat → ClassId} {st : lp_S} {k : Nat} {q : Nat × va_E} (h : (lp_ws base dA st)[k]? = some q) : k < st.1 ∧ q = (base + k, lp_el base dA st k) := by
  have hk : k < st.1 := by
    have := (List.getElem?_eq_some_iff.mp h).1
    rwa [lp_ws_len] at this
  exact ⟨hk, Option.some.inj (h.symm.trans (lp_ws_get hk))⟩
theorem lp_ws_D {base : Nat} {dA : Nat → ClassId} {st : lp_S} : va_D (lp_A base) (lp_ws base dA st) := by
  refine ⟨fun i j p q hi hj hpq => ?_, fun k q hk => ?_⟩
  · obtain ⟨_, rfl⟩ := lp_ws_some hi
    obtain ⟨_, rfl⟩ := lp_ws_some hj
    simp only at hpq
    omega
  · obtain ⟨_, rfl⟩ := lp_ws_some hk
    exact Nat.le_add_right _ _
/-- one cell is written -/
theorem lp_ws_set {base : Nat} {dA : Nat → ClassId} {st st' : lp_S} {k : Nat} (hk : k < st.1) (h1 : st'.1 = st.1) (h : ∀ q, q ≠ k → lp_el base dA st' q = lp_el base dA st q) : (lp_ws base dA st).set k (base + k, lp_el base dA st' k) = lp_ws base dA st' := by
  apply List.ext_getElem?
  intro i
  by_cases e : i = k
  · subst e
    rw [List.getElem?_set_self (by rw [lp_ws_len]; exact hk), lp_ws_get (by rw [h1]; exact hk)]
  · rw [List.getElem?_set_ne (Ne.symm e)]
    by_cases hi : i < st.1
    · rw [lp_ws_get hi, lp_ws_get (by rw [h1]; exact hi), h i e]
    · rw [List.getElem?_eq_none (by rw [lp_ws_len]; omega), List.getElem?_eq_none (by rw [lp_ws_len]; omega)]
theorem lp_el_ne {base : Nat} {dA : Nat → ClassId} {st st' : lp_S} {q : Nat} (h1 : st'.2.1 q = st.2.1 q) (h2 : st'.2.2 q = st.2.2 q) : lp_el base dA st' q = lp_el base dA st q := by
  unfold lp_el lp_fs
  rw [h1, h2]
theorem lp_u_eq {α : Type} (g : Nat → Nat → α) (k : Nat) (f : Nat → α) : lp_u g k f k = f := if_pos rfl
theorem lp_u_ne {α : Type} (g : Nat → Nat → α) {k q : Nat} (f : Nat → α) (h : q ≠ k) : lp_u g k f q = g q := if_neg h
theorem lp_el_w {base : Nat} {dA : Nat → ClassId} {st : lp_S} {k q : Nat} {f : Nat → Int32} (h : q ≠ k) : lp_el base dA (st.1, st.2.1, lp_u st.2.2 k f) q = lp_el base dA st q := lp_el_ne rfl (lp_u_ne _ _ h)
theorem lp_el_wR {base : Nat} {dA : Nat → ClassId} {st : lp_S} {k q : Nat} {f : Nat → Value} (h : q ≠ k) : lp_el base dA (st.1, lp_u st.2.1 k f, st.2.2) q = lp_el base dA st q := lp_el_ne (lp_u_ne _ _ h) rfl
-- the element of a cell by its kind
theorem lp_el20 {base : Nat} {dA : Nat → ClassId} {st : lp_S} {k : Nat} (h : (lp_sh k).1 = 20) : lp_el base dA st k = .inl (dA 0, (lp_sh k).2, .inl (st.2.2 k)) := by
  unfold lp_el; rw [if_pos h]
theorem lp_el21 {base : Nat} {dA : Nat → ClassId} {st : lp_S} {k : Nat} (h : (lp_sh k).1 = 21) : lp_el base dA st k = .inl (dA 1, (lp_sh k).2, .inl (st.2.2 k)) := by
  unfold lp_el; rw [if_neg (by rw [h]; decide), if_pos h]
theorem lp_el22 {base : Nat} {dA : Nat → ClassId} {st : lp_S} {k : Nat} (h : (lp_sh k).1 = 22) : lp_el base dA st k = .inl (dA 2, (lp_sh k).2, .inl (st.2.2 k)) := by
  unfold lp_el; rw [if_neg (by rw [h]; decide), if_neg (by rw [h]; decide), if_pos h]
theorem lp_el23 {base : Nat} {dA : Nat → ClassId} {st : lp_S} {k : Nat} (h : (lp_sh k).1 = 23) : lp_el base dA st k = .inl (dA 3, (lp_sh k).2, .inr (.inr (.inr (.inr (fun j => lp_on base (st.2.1 k j)))))) := by
  unfold lp_el; rw [if_neg (by rw [h]; decide), if_neg (by rw [h]; decide), if_neg (by rw [h]; decide), if_pos h]
theorem lp_el24 {base : Nat} {dA : Nat → ClassId} {st : lp_S} {k : Nat} (h : (lp_sh k).1 = 24) : lp_el base dA st k = .inl (dA 4, (lp_sh k).2, .inr (.inr (.inr (.inr (fun j => lp_on base (st.2.1 k j)))))) := by
  unfold lp_el; rw [if_neg (by rw [h]; decide), if_neg (by rw [h]; decide), if_neg (by rw [h]; decide), if_neg (by rw [h]; decide), if_pos h]
theorem lp_elO {base : Nat} {dA : Nat → ClassId} {st : lp_S} {k c : Nat} (h : (lp_sh k).1 = c) (hc : c < 11) : lp_el base dA st k = .inr (c, lp_fs base c st k) := by
  unfold lp_el; rw [if_neg (by rw [h]; omega), if_neg (by rw [h]; omega), if_neg (by rw [h]; omega), if_neg (by rw [h]; omega), if_neg (by rw [h]; omega), h]
/-- an array of any kind -/
theorem lp_sh24 : ∀ k, k < 369 → (lp_sh k).1 ≤ 24 := by decide +kernel
theorem lp_elA {base : Nat} {dA : Nat → ClassId} {st : lp_S} {k : Nat} (h : 19 < (lp_sh k).1) (hk : k < 369) : ∃ (cA : ClassId) (x : vp_A) (ty : FieldType) (t0 : Nat), lp_el base dA st k = .inl (cA, x) ∧ (lp_tys dA)[t0]? = some (cA, ty) ∧ x.1 = (lp_sh k).2 := by
  have h1 := lp_sh24 k hk
  have h2 : (lp_sh k).1 = 20 ∨ (lp_sh k).1 = 21 ∨ (lp_sh k).1 = 22 ∨ (lp_sh k).1 = 23 ∨ (lp_sh k).1 = 24 := by omega
  rcases h2 with h2 | h2 | h2 | h2 | h2
  · exact ⟨_, _, _, 0, lp_el20 h2, rfl, rfl⟩
  · exact ⟨_, _, _, 1, lp_el21 h2, rfl, rfl⟩
  · exact ⟨_, _, _, 2, lp_el22 h2, rfl, rfl⟩
  · exact ⟨_, _, _, 3, lp_el23 h2, rfl, rfl⟩
  · exact ⟨_, _, _, 4, lp_el24 h2, rfl, rfl⟩
theorem lp_fs_get {base ci : Nat} {st : lp_S} {k j : Nat} (h : j < lp_nf ci) : (lp_fs base ci st k)[j]? = some (if lp_isR ci j = true then va_rf (lp_on base (st.2.1 k j)) else .int (st.2.2 k j)) := by
  unfold lp_fs
  rw [List.getElem?_map, List.getElem?_range h]
  rfl
theorem lp_fs_len {base ci : Nat} {st : lp_S} {k : Nat} : (lp_fs base ci st k).length = lp_nf ci := by
  unfold lp_fs
  rw [List.length_map, List.length_range]
theorem lp_fs_setI {base ci : Nat} {st : lp_S} {k j : Nat} {v : Int32} (h : j < lp_nf ci) (hr : lp_isR ci j = false) : (lp_fs base ci st k).set j (.int v) = lp_fs base ci (st.1, st.2.1, lp_w st.2.2 k j v) k := by
  apply List.ext_getElem?
  intro i
  by_cases e : i = j
  · subst e
    rw [List.getElem?_set_self (by rw [lp_fs_len]; exact h), lp_fs_get h]
    simp [hr, lp_w, lp_u, upd]
  · rw [List.getElem?_set_ne (Ne.symm e)]
    by_cases hi : i < lp_nf ci
    · rw [lp_fs_get hi, lp_fs_get hi]
      simp [lp_w, lp_u, upd, e]
    · rw [List.getElem?_eq_none (by rw [lp_fs_len]; omega), List.getElem?_eq_none (by rw [lp_fs_len]; omega)]
theorem lp_fs_setR {base ci : Nat} {st : lp_S} {k j n : Nat} (h : j < lp_nf ci) (hr : lp_isR ci j = true) : (lp_fs base ci st k).set j (.ref (base + n)) = lp_fs base ci (st.1, lp_wR st.2.1 k j (.ref n), st.2.2) k := by
  apply List.ext_getElem?
  intro i
  by_cases e : i = j
  · subst e
    rw [List.getElem?_set_self (by rw [lp_fs_len]; exact h), lp_fs_get h]
    simp [hr, lp_wR, lp_u, lp_on, va_rf]
  · rw [List.getElem?_set_ne (Ne.symm e)]
    by_cases hi : i < lp_nf ci
    · rw [lp_fs_get hi, lp_fs_get hi]
      simp [lp_wR, lp_u, e]
    · rw [List.getElem?_eq_none (by rw [lp_fs_len]; omega), List.getElem?_eq_none (by rw [lp_fs_len]; omega)]
/-- the values as the machine has them: cells from base on; String constants and the like by a table -/
def lp_rl (base : Nat) (sv : Nat → Value) : Value → Value
  | .ref n => .ref (base + n)
  | .retAddr k => sv k
  | v => v
/-- the locals that are good are the machine's -/
def lp_L (base : Nat) (sv : Nat → Value) (lm : Array Slot) (nL : Nat) (ls : List Value) : Prop := lm.size = nL ∧ lv_wf lm ∧ ∀ i, lp_good (lp_nth ls i) = true → lm[i]? = some (.val (lp_rl base sv (lp_nth ls i)))
def lp_lv (base : Nat) (sv : Nat → Value) (nL : Nat) (ls : List Value) : List (Nat × Value) := (List.range nL).filterMap fun i => if lp_good (lp_nth ls i) = true then some (i, lp_rl base sv (lp_nth ls i)) else none
theorem lp_lv_mem {base : Nat} {sv : Nat → Value} {nL : Nat} {ls : List Value} {q : Nat × Value} : q ∈ lp_lv base sv nL ls ↔ q.1 < nL ∧ lp_good (lp_nth ls q.1) = true ∧ q.2 = lp_rl base sv (lp_nth ls q.1) := by
  unfold lp_lv
  rw [List.mem_filterMap]
  constructor
  · rintro ⟨i, hi, h⟩
    split at h
    · next hg =>
      cases h
      exact ⟨List.mem_range.mp hi, hg, rfl⟩
    · cases h
  · rintro ⟨h1, h2, h3⟩
    refine ⟨q.1, List.mem_range.mpr h1, ?_⟩
    rw [if_pos h2, ← h3]
theorem lp_L.has {base : Nat} {sv : Nat → Value} {lm : Array Slot} {nL : Nat} {ls : List Value} (h : lp_L base sv lm nL ls) : lv_has lm nL (lp_lv base sv nL ls) := by
  refine ⟨h.1, h.2.1, fun q hq => ?_⟩
  obtain ⟨h1, h2, h3⟩ := lp_lv_mem.mp hq
  rw [h3]
  exact h.2.2 _ h2
theorem lp_nth_set_ne : ∀ (ls : List Value) {i j : Nat} (v : Value), j ≠ i → lp_nth (lp_set ls i v) j = lp_nth ls j
  | [], _, _, _, _ => rfl
  | _ :: _, 0, 0, _, h => absurd rfl h
  | _ :: _, 0, _ + 1, _, _ => rfl
  | _ :: _, _ + 1, 0, _, _ => rfl
  | _ :: r, i + 1, j + 1, v, h => by
    show lp_nth (lp_set r i v) j = lp_nth r j
    exact lp_nth_set_ne r v (fun e => h (by rw [e]))
theorem lp_nth_set_eq : ∀ (ls : List Value) (i : Nat) (v : Value), lp_nth (lp_set ls i v) i = v ∨ lp_nth (lp_set ls i v) i = .long 0
  | [], _, _ => Or.inr rfl
  | _ :: _, 0, _ => Or.inl rfl
  | _ :: r, i + 1, v => lp_nth_set_eq r i v
/-- a local is written -/
theorem lp_L.set {base : Nat} {sv : Nat → Value} {lm lm' : Array Slot} {nL i : Nat} {ls : List Value} {v : Value} (hsv : ∀ k, (sv k).category = 1) (h : lp_L base sv lm nL ls) (h' : lv_has lm' nL ((i, lp_rl base sv v) :: (lp_lv base sv nL ls).filter (fun q => !(q.1 == i) && !(q.1 + 1 == i && q.2.category == 2)))) : lp_L base sv lm' nL (lp_set ls i v) := by
  refine ⟨h'.1, h'.2.1, fun j hj => ?_⟩
  by_cases e : j = i
  · subst e
    rcases lp_nth_set_eq ls j v with e | e
    · rw [e]
      exact h'.2.2 (j, lp_rl base sv v) List.mem_cons_self
    · rw [e] at hj
      cases hj
  · rw [lp_nth_set_ne ls v e] at hj ⊢
    have hlt : j < nL := by
      have := h.2.2 j hj
      have := (Array.getElem?_eq_some_iff.mp this).1
      rw [h.1] at this
      exact this
    refine h'.2.2 (j, lp_rl base sv (lp_nth ls j)) (List.mem_cons_of_mem _ (List.mem_filter.mpr ⟨lp_lv_mem.mpr ⟨hlt, hj, rfl⟩, ?_⟩))
    have hcat : (lp_rl base sv (lp_nth ls j)).category = 1 := by
      cases hv : lp_nth ls j <;> rw [hv] at hj <;> first | rfl | exact hsv _ | cases hj
    simp [e, hcat]
end
section
/-! ===== what the small machine does, the machine does ===== -/
def lp_sl (K : Nat) : Nat := ((List.range K).map fun k => (lp_sh k).2).sum
theorem lp_sl_succ (K : Nat) : lp_sl (K + 1) = lp_sl K + (lp_sh K).2 := by
  unfold lp_sl
  rw [List.range_succ, List.map_append, List.sum_append]
  simp
theorem lp_sl_mono {a b : Nat} (h : a ≤ b) : lp_sl a ≤ lp_sl b := by
  induction h with
  | refl => exact Nat.le_refl _
  | step _ ih => rw [lp_sl_succ]; omega
def lp_len : List Nat := lp_sb.map List.length
/-- the script lies in the small machine's memory behind all cells -/
def lp_Scr (L : Nat) (xs : Nat → Int32) (st : lp_S) : Prop := st.1 ≤ 369 ∧ (st.2.2 997 0 = 1 → st.2.2 998 0 = Int32.ofNat L ∧ ∀ j, j < L → st.2.2 999 j = xs j)
/-- words of the tables that hold wherever their classes stand as they do -/
def lp_gt : List Cond := lw_tbl.filter goodWord
theorem lp_gt_in {p : Nat} {w : Cond} (h : lp_wd p = some w) (hg : goodWord w = true) : w ∈ lp_gt := List.mem_filter.mpr ⟨lp_wd_tbl h, hg⟩
def lp_AOA (U : State) : Prop := (Cond.arrayOver (.array .int)).before #[] U = true
theorem lp_AOA.spec {A : Array Value} {s : State} (h : (Cond.arrayOver (.array .int)).before A s = true) : ∃ comp c k, s.vm.findClass (FieldType.array .int).toString = some comp ∧ (s.vm.classes.findIdx? fun (x : Class) => match x.kind with | .array component _ => component == comp | _ => false) = some c ∧ s.vm.classes[c]? = some k ∧ k.kind = .array comp (.array .int) ∧ s.vm.findClass ("[" ++ (FieldType.array .int).toString) = some c := by
  simp only [Cond.before, Cond.holds, Cond.value, beq_iff_eq] at h
  cases hc : s.vm.findClass (FieldType.array .int).toString with
  | none => simp [hc] at h
  | some comp =>
    simp only [hc, Option.bind_some, Option.bind_eq_some_iff, Option.map_eq_some_iff] at h
    obtain ⟨c, hi, k, hk, hb⟩ := h
    obtain ⟨hlt, hp, -⟩ := Array.findIdx?_eq_some_iff_getElem.mp hi
    have hkk : s.vm.classes[c] = k := (Array.getElem?_eq_some_iff.mp hk).2
    rw [hkk] at hp
    cases hkind : k.kind with
    | array component ty =>
      rw [hkind] at hb hp
      simp at hb hp
      exact ⟨comp, c, k, rfl, hi, hk, by rw [hkind, hp, hb.1], hb.2⟩
    | _ => rw [hkind] at hb; simp at hb
theorem lp_AOA.moved {u U : State} (hvm : u.vm.Alike U.vm) (h : lp_AOA u) : lp_AOA U := by
  obtain ⟨comp, c, k, h1, h2, h3, h4, h5⟩ := lp_AOA.spec h
  obtain ⟨k', hk', he⟩ := hvm.2.2 _ _ h3
  have hi : (U.vm.classes.findIdx? fun (x : Class) => match x.kind with | .array component _ => component == comp | _ => false) = some c := by
    have e1 := va_idx_bare U.vm comp
    have e2 := va_idx_bare u.vm comp
    have e3 : U.vm.bare = u.vm.bare := by first | exact hvm.bare_eq | exact hvm.bare_eq.symm
    rw [e3] at e1
    exact (e1.symm.trans e2).trans h2
  have hkind : k'.kind = .array comp (.array .int) := by rw [he]; exact h4
  have f1 : U.vm.findClass (FieldType.array .int).toString = some comp := by rw [hvm.findClass]; exact h1
  have f2 : U.vm.findClass ("[" ++ (FieldType.array .int).toString) = some c := by rw [hvm.findClass]; exact h5
  unfold lp_AOA Cond.before Cond.holds
  simp only [Cond.value]
  rw [f1, Option.bind_some]
  refine (congrArg (fun o : Option Nat => (o.bind (fun c => (U.vm.classes[c]?).map fun (k : Class) => match k.kind with | .array _ ty => decide (ty = FieldType.array .int) && decide (U.vm.findClass ("[" ++ (FieldType.array .int).toString) = some c) | _ => false) == some true)) hi).trans ?_
  simp [hk', hkind, f2]
/-- what stands outside the cells: classes, String constants, statics, the script -/
def lp_Env (base : Nat) (D : va_G) (dA : Nat → ClassId) (sv : Nat → Value) (b L : Nat) (xs : Nat → Int32) (U : State) : Prop :=
  va_K D lp_cl (lp_tys dA) U ∧ base ≤ U.heap.size ∧ (∀ k, (sv k).category = 1) ∧
  (∃ adK adV : Nat → Nat, vk_S 18 lp_len lp_sb adK adV (lp_A base) U U.heap ∧ ∀ k, k < 18 → sv k = .ref (adK k) ∧ sv (100 + k) = .ref (adV k) ∧ vk_R (lp_cn (lp_so k).1) (lp_so k).2.1 (lp_so k).2.2 (adK k) U) ∧
  va_Z "java/lang/String" "COMPACT_STRINGS" "Z" (.int 1) (lp_A base) U U.heap ∧
  va_Z "jdk/internal/util/Preconditions" "SIOOBE_FORMATTER" "Ljava/util/function/BiFunction;" (sv 200) (lp_A base) U U.heap ∧
  (sv 300 = .ref b ∧ b < base ∧ L < 2 ^ 31 ∧ va_X b L xs U U.heap) ∧ (∀ p own i x h, lp_wd p = some (.methodLinkNest own i x h) → va_Nw (.methodLinkNest own i x h) U) ∧ va_AO "LampPresses$Net" U ∧ lp_AOA U
theorem lp_Env.to {base : Nat} {D : va_G} {dA : Nat → ClassId} {sv : Nat → Value} {b L : Nat} {xs : Nat → Int32} {s U : State} (h : lp_Env base D dA sv b L xs s) (hvm : s.vm.Alike U.vm) (hsz : s.heap.size ≤ U.heap.size) (hq : ∀ q : Nat, q < s.heap.size → ¬ lp_A base q → U.heap[q]? = s.heap[q]?)
    (hR : ∀ own k tx a, vk_R own k tx a s → vk_R own k tx a U) (hN : ∀ own i x h, va_Nw (.methodLinkNest own i x h) s → va_Nw (.methodLinkNest own i x h) U) : lp_Env base D dA sv b L xs U := by
  obtain ⟨h1, h2, h3, ⟨adK, adV, h4, h5⟩, h6, h7, ⟨h8, h9, h10, h11⟩, h12, h13, h14⟩ := h
  have hb : b < s.heap.size := by
    obtain ⟨scr, hs, -⟩ := h11
    exact (Array.getElem?_eq_some_iff.mp hs).1
  exact ⟨h1.moved hvm, Nat.le_trans h2 hsz, h3, ⟨adK, adV, (h4.moved hvm).kept hq, fun k hk => ⟨(h5 k hk).1, (h5 k hk).2.1, hR _ _ _ _ (h5 k hk).2.2⟩⟩, (h6.moved hvm).kept hq, (h7.moved hvm).kept hq, ⟨h8, h9, h10,
    (h11.moved hvm).kept (hq b hb (Nat.not_le.mpr h9))⟩, fun p own i x h hw => hN _ _ _ _ (h12 p own i x h hw), h13.moved hvm, h14.moved hvm⟩
theorem lp_Env.call {base : Nat} {D : va_G} {dA : Nat → ClassId} {sv : Nat → Value} {b L : Nat} {xs : Nat → Int32} {s U : State} {H : Heap} {locs : List Loc} (h : lp_Env base D dA sv b L xs s) (hS : va_S (lp_A base) s.heap H locs) (hU : U.heap = H) (hW : s.WarmedH U.vm) : lp_Env base D dA sv b L xs U :=
  h.to hW.alike (by rw [hU]; exact hS.1) (fun q h1 h2 => by rw [hU]; exact hS.2.1 q h1 h2) (fun _ _ _ _ h => h.warm hW) (fun _ _ _ _ h => h.warmM hW)
theorem lp_Env.blind {base : Nat} {D : va_G} {dA : Nat → ClassId} {sv : Nat → Value} {b L : Nat} {xs : Nat → Int32} {U : State} {g : JFrame} {mk : MethodId} {a : Array Value} (h : lp_Env base D dA sv b L xs U) : lp_Env base D dA sv b L xs (U.calling g mk a) :=
  h.to (Vm.Alike.refl U.vm) (Nat.le_refl _) (fun _ _ _ => rfl) (fun _ _ _ _ h => h.same rfl) (fun _ _ _ _ h => va_Nw.same rfl rfl h)
/-- a method's start: its arguments, the cells, what stands outside -/
def lp_Pc (base : Nat) (D : va_G) (dA : Nat → ClassId) (sv : Nat → Value) (b L : Nat) (xs : Nat → Int32) (as : List Value) (st : lp_S) : Array Value → State → Prop :=
  va_Pc (as.map (lp_rl base sv)) fun U => U.heap.size = base + st.1 ∧ va_P D lp_cl (lp_ws base dA st) U.heap ∧ lp_Env base D dA sv b L xs U ∧ lp_Scr L xs st
/-- the cells behind it -/
def lp_B (base : Nat) (D : va_G) (dA : Nat → ClassId) (st : lp_S) : Unit → State → Prop := fun _ t => va_P D lp_cl (lp_ws base dA st) t.heap
/-- a method's end: its answer (if it has one), the cells -/
def lp_Qc (base : Nat) (D : va_G) (dA : Nat → ClassId) (L : Nat) (xs : Nat → Int32) (rt : Option FieldType) (r : Int32 × lp_S) : Array Value → State → Outcome → State → Prop :=
  match rt with
  | none => va_Qv (fun _ : Unit => lp_Scr L xs r.2) (lp_B base D dA r.2) (lp_A base)
  | some _ => va_Qi (fun x (_ : Unit) => x = r.1 ∧ lp_Scr L xs r.2) (lp_B base D dA r.2) (lp_A base)
def lp_wsm (m : Nat) : List Cond := .code (lp_y m) (lp_b m) (lp_mx m) (lp_rt m) :: lp_gt
def lp_rm (d mc ms : Nat) : Room := { frames := d + 2, cells := mc, slots := ms, locals := 100 * d + 200 }
/-- the contract of a run -/
def lp_Met (l : Launch) (base : Nat) (D : va_G) (dA : Nat → ClassId) (sv : Nat → Value) (b L : Nat) (xs : Nat → Int32) (d m : Nat) (as : List Value) (st : lp_S) (r : Int32 × lp_S) : Prop :=
  Met l (lp_y m) (lp_wsm m) (lp_rm d (r.2.1 - st.1) (lp_sl r.2.1 - lp_sl st.1)) (lp_Pc base D dA sv b L xs as st) (lp_Qc base D dA L xs (lp_rt m) r) (r.2.1 - st.1) (lp_sl r.2.1 - lp_sl st.1) (lp_A base)
theorem lp_code_in {m : Nat} (h : m < 293) : Cond.code (lp_y m) (lp_b m) (lp_mx m) (lp_rt m) ∈ lp_gt := lp_gt_in (lp_code_all m h) rfl
theorem lp_GoodIn {m : Nat} (h : m < 293) : GoodIn lp_gt (lp_wsm m) := by
  have hall : ∀ w ∈ lp_gt, (w.onTables && w.keeps) = true ∨ ∃ ty, w = .arrayClass ty := fun w hw => good_of_word (List.mem_filter.mp hw).2
  intro w hw
  rcases List.mem_cons.mp hw with e | e
  · rw [e]
    exact ⟨lp_code_in h, hall _ (lp_code_in h)⟩
  · exact ⟨e, hall w e⟩
theorem lp_ini_in {c : Nat} (h : c < 20) : Cond.initialized (lp_cn c) ∈ lp_gt := lp_gt_in (lp_ini_ok c h) rfl
theorem lp_hing (c : Nat) (hc : c < 11) : ∀ w ∈ u_ws (lp_cn c) (lp_T c) (lp_nf c), w ∈ lp_gt := fun w hw => by
  obtain ⟨k, hk, rfl⟩ := List.mem_map.mp hw
  refine lp_gt_in (lp_lay_ok c hc k (List.mem_range.mp hk)) ?_
  unfold u_lay
  split <;> rfl
/-- 'selects' of a virtual method -/
theorem lp_sel_in {m : Nat} (h : m < 293) (hk : lp_kd m = 0 ∨ lp_kd m = 4) : Cond.selects (lp_y m).cls (lp_y m) (lp_y m) ∈ lp_gt := by
  rcases hk with hk | hk
  · exact lp_gt_in (lp_sel_ok m h hk) rfl
  · have h1 := lp_prv_ok m h hk
    cases hq : lw_privs[lp_sp m]? with
    | none => rw [hq] at h1; cases h1
    | some x =>
      rw [hq] at h1
      have e : x.1 = lp_y m := Option.some.inj h1
      refine List.mem_filter.mpr ⟨List.mem_append_left _ (List.mem_map.mpr ⟨x, List.mem_of_getElem? hq, ?_⟩), rfl⟩
      rw [e]
theorem lp_Env.ref {base : Nat} {D : va_G} {dA : Nat → ClassId} {sv : Nat → Value} {b L : Nat} {xs : Nat → Int32} {U : State} (h : lp_Env base D dA sv b L xs U) {v : Nat} (hv : v < 18 ∨ (100 ≤ v ∧ v < 118) ∨ v = 300) : ∃ x, sv v = .ref x := by
  obtain ⟨-, -, -, ⟨adK, adV, -, h5⟩, -, -, ⟨h8, -⟩, -⟩ := h
  rcases hv with hv | hv | hv
  · exact ⟨_, (h5 v hv).1⟩
  · have e : v = 100 + (v - 100) := by omega
    rw [e]
    exact ⟨_, (h5 (v - 100) (by omega)).2.1⟩
  · exact ⟨_, by rw [hv]; exact h8⟩
theorem lp_dflt : ∀ c, c < 11 → ∀ k, k < lp_nf c → defaultValue (lp_ty c k) = (if lp_isR c k = true then .null else .int 0) := by decide +kernel
theorem lp_refty : ∀ c, c < 11 → ∀ k, k < lp_nf c → lp_isR c k = true → ∀ a : Nat, narrow (lp_ty c k) (.ref a) = .ref a ∧ fits (lp_ty c k) (.ref a) = true := by
  have h : ∀ c, c < 11 → ∀ k, k < lp_nf c → lp_isR c k = true → (match lp_ty c k with | .object _ => true | .array _ => true | _ => false) = true := by decide +kernel
  intro c hc k hk hr a
  have h1 := h c hc k hk hr
  cases hq : lp_ty c k <;> rw [hq] at h1 <;> first | exact ⟨rfl, rfl⟩ | cases h1
end
section
/-! ===== instruction by instruction (printed by wip/whole/mkrows.py) ===== -/
/-- what holds all through a method's body -/
def lp_Cx (p : Program) (R : Room) (s : State) (m : MethodId) (args : Array Value) (meth : Method) (c : Code) (base K0 mo : Nat) (D : va_G) (dA : Nat → ClassId) (sv : Nat → Value) (b0 L0 : Nat) (xs : Nat → Int32) (r : Int32 × lp_S) : Prop :=
  p.tables.exec = Jvm.exec ∧ c.code = lp_b mo ∧ c.maxLocals = lp_mx mo ∧ s.vm.findClass (lp_cn (lp_ow mo)) = some m.cls ∧ (∀ w ∈ lp_gt, w.before args s = true) ∧ lp_Env base D dA sv b0 L0 xs s ∧ ((lp_nd mo).1 = "<init>" → meth.name = "<init>") ∧ 200 ≤ R.locals ∧ 2 ≤ R.frames ∧ r.2.1 - K0 ≤ R.cells ∧ lp_sl r.2.1 - lp_sl K0 ≤ R.slots ∧ base + K0 = s.heap.size
def lp_Iv (s : State) (nL base K0 : Nat) (D : va_G) (dA : Nat → ClassId) (sv : Nat → Value) (L0 : Nat) (xs : Nat → Int32) (lm : Array Slot) (ls : List Value) (st : lp_S) (H : Heap) (locs : List Loc) : Prop :=
  lp_L base sv lm nL ls ∧ True ∧ va_P D lp_cl (lp_ws base dA st) H ∧ va_S (lp_A base) s.heap H locs ∧ lp_Scr L0 xs st ∧ K0 ≤ st.1
def lp_Wt (p : Program) (l : Launch) (e : Env) (R : Room) (s : State) (m : MethodId) (args : Array Value) (below : List Frame) (meth : Method) (c : Code) (Q : State → Prop) (base K0 mo : Nat) (D : va_G) (dA : Nat → ClassId) (sv : Nat → Value) (L0 : Nat) (xs : Nat → Int32) (pc : Nat) (ls stk : List Value) (st : lp_S) : Prop :=
  ∀ (lm : Array Slot) (H : Heap) (locs : List Loc), lp_Iv s (lp_mx mo) base K0 D dA sv L0 xs lm ls st H locs → W p l e R s m args below meth c H locs (st.1 - K0) (lp_sl st.1 - lp_sl K0) Q (F0 m pc lm (stk.map (lp_rl base sv)))
theorem lp_Scr_w {L : Nat} {xs : Nat → Int32} {st : lp_S} {k : Nat} {f : Nat → Int32} (h : lp_Scr L xs st) (hk : k < st.1) (g : lp_R) : lp_Scr L xs (st.1, g, lp_u st.2.2 k f) := by
  have h1 := h.1
  refine ⟨h1, fun hf => ?_⟩
  have e : ∀ q, 369 ≤ q → lp_u st.2.2 k f q = st.2.2 q := fun q hq => lp_u_ne _ _ (by omega)
  have hf : lp_u st.2.2 k f 997 0 = 1 := hf
  rw [e 997 (by omega)] at hf
  refine ⟨?_, fun j hj => ?_⟩
  · show lp_u st.2.2 k f 998 0 = _
    rw [e 998 (by omega)]
    exact (h.2 hf).1
  · show lp_u st.2.2 k f 999 j = _
    rw [e 999 (by omega)]
    exact (h.2 hf).2 j hj
theorem lp_Scr_R {L : Nat} {xs : Nat → Int32} {st : lp_S} (h : lp_Scr L xs st) (g : lp_R) : lp_Scr L xs (st.1, g, st.2.2) := h
/-- new cells behind those there are -/
theorem lp_P_grow {base n : Nat} {D : va_G} {dA : Nat → ClassId} {st st' : lp_S} {H H1 : Heap} (hP : va_P D lp_cl (lp_ws base dA st) H) (hold : ∀ q : Nat, q < H.size → H1[q]? = H[q]?) (h1 : st'.1 = st.1 + n) (hel : ∀ k, k < st.1 → lp_el base dA st' k = lp_el base dA st k)
    (hnew : ∀ j, j < n → va_at D lp_cl (base + (st.1 + j), lp_el base dA st' (st.1 + j)) H1) : va_P D lp_cl (lp_ws base dA st') H1 := by
  intro k q hq
  obtain ⟨hk, rfl⟩ := lp_ws_some hq
  by_cases hl : k < st.1
  · have h2 := hP k _ (lp_ws_get hl)
    rw [hel k hl]
    exact h2.kept (hold _ h2.lt)
  · obtain ⟨j, rfl⟩ : ∃ j, k = st.1 + j := ⟨k - st.1, by omega⟩
    exact hnew j (by omega)
theorem lp_kind_lt {k a n : Nat} (h : lp_sh k = (a, n)) (ha : a < 11 ∨ a < 25) : (lp_sh k).1 < 25 := by rw [h]; show a < 25; omega
/-- what has a kind is one of the cells -/
theorem lp_shN {k : Nat} (h : (lp_sh k).1 < 25) : k < 369 := by
  rcases Nat.lt_or_ge k 369 with q | q
  · exact q
  · exfalso
    have e : ∀ n, Nat.ble n 369 = true → Nat.ble n k = true := fun n hn => Nat.ble_eq.mpr (Nat.le_trans (Nat.le_of_ble_eq_true hn) q)
    have h99 : (lp_sh k).1 = 99 := by
      unfold lp_sh
      simp only [e 188 rfl, e 307 rfl, e 340 rfl, e 352 rfl, e 365 rfl, e 367 rfl, e 368 rfl, e 369 rfl, cond_true]
    omega
theorem lp_shL : ∀ k, k < 369 → (lp_sh k).2 ≤ 60000 := by decide +kernel
theorem lp_growI {n : Nat} {st : lp_S} {k : Nat} (h1 : st.1 ≤ k) (h2 : k < st.1 + n) : (lp_grow n st).2.2 k = fun _ => 0 := if_pos ⟨h1, h2⟩
theorem lp_growR {n : Nat} {st : lp_S} {k : Nat} (h1 : st.1 ≤ k) (h2 : k < st.1 + n) : (lp_grow n st).2.1 k = fun _ => .null := if_pos ⟨h1, h2⟩
theorem lp_el_grow {base n : Nat} {dA : Nat → ClassId} {st : lp_S} {k : Nat} (h : k < st.1) : lp_el base dA (lp_grow n st) k = lp_el base dA st k := lp_el_ne (if_neg (by omega)) (if_neg (by omega))
theorem lp_Scr_grow {L n : Nat} {xs : Nat → Int32} {st : lp_S} (h : lp_Scr L xs st) (hn : st.1 + n ≤ 369) : lp_Scr L xs (lp_grow n st) := by
  have e : ∀ q, 369 ≤ q → (lp_grow n st).2.2 q = st.2.2 q := fun q hq => if_neg (by omega)
  refine ⟨hn, fun hf => ?_⟩
  rw [e 997 (by omega)] at hf
  rw [e 998 (by omega), e 999 (by omega)]
  exact h.2 hf
section lpW
variable {p : Program} {l : Launch} {e : Env} {R : Room} {s : State} {m : MethodId} {args : Array Value} {below : List Frame} {meth : Method} {c : Code} {Q : State → Prop}
variable {base K0 mo : Nat} {D : va_G} {dA : Nat → ClassId} {sv : Nat → Value} {b0 L0 : Nat} {xs : Nat → Int32} {r : Int32 × lp_S}
variable {nx : lp_K} {jp : Nat → lp_K} {pc pc' a b idx q : Nat} {ls stk : List Value} {st : lp_S} {cv : Int32}
/-- the heap's size, as the machine counts it -/
theorem lp_sized {H : Heap} {locs : List Loc} {lm : Array Slot} {sl : Nat} {g : JFrame} (X : lp_Cx p R s m args meth c base K0 mo D dA sv b0 L0 xs r) (I : lp_Iv s (lp_mx mo) base K0 D dA sv L0 xs lm ls st H locs)
    (kk : H.size = base + st.1 → W p l e R s m args below meth c H locs (st.1 - K0) sl Q g) : W p l e R s m args below meth c H locs (st.1 - K0) sl Q g := by
  intro T hT Y
  refine kk ?_ T hT Y
  have h1 := Y.heapSize
  rw [hT] at h1
  have h2 := I.2.2.2.1.1
  have h3 := X.2.2.2.2.2.2.2.2.2.2.2
  have h4 := I.2.2.2.2.2
  by_cases h0 : st.1 = 0
  · omega
  · have h5 := (I.2.2.1 (st.1 - 1) _ (lp_ws_get (by omega))).lt
    simp only at h5
    omega
theorem lpW_C (hnx : ∀ ls stk st, nx ls stk st = some r → lp_Wt p l e R s m args below meth c Q base K0 mo D dA sv L0 xs pc' ls stk st) (row : ∀ (lm : Array Slot) (H : Heap) (locs : List Loc) (ce sl : Nat) (rest : List Value), W p l e R s m args below meth c H locs ce sl Q (F0 m pc' lm (.int cv :: rest)) → W p l e R s m args below meth c H locs ce sl Q (F0 m pc lm rest))
    (h : lp_xC cv nx ls stk st = some r) : lp_Wt p l e R s m args below meth c Q base K0 mo D dA sv L0 xs pc ls stk st := by
  exact fun lm H locs I => row lm H locs _ _ _ (hnx ls (.int cv :: stk) st h lm H locs I)
theorem lpW_C1 (hnx : ∀ ls stk st, nx ls stk st = some r → lp_Wt p l e R s m args below meth c Q base K0 mo D dA sv L0 xs pc' ls stk st) (row : ∀ (lm : Array Slot) (H : Heap) (locs : List Loc) (ce sl : Nat) (rest : List Value), va_S (lp_A base) s.heap H locs → W p l e R s m args below meth c H locs ce sl Q (F0 m pc' lm (.int cv :: rest)) → W p l e R s m args below meth c H locs ce sl Q (F0 m pc lm rest))
    (h : lp_xC cv nx ls stk st = some r) : lp_Wt p l e R s m args below meth c Q base K0 mo D dA sv L0 xs pc ls stk st := by
  exact fun lm H locs I => row lm H locs _ _ _ I.2.2.2.1 (hnx ls (.int cv :: stk) st h lm H locs I)
theorem lpW_S (hnx : ∀ ls stk st, nx ls stk st = some r → lp_Wt p l e R s m args below meth c Q base K0 mo D dA sv L0 xs pc' ls stk st) (row : ∀ (lm : Array Slot) (H : Heap) (locs : List Loc) (ce sl : Nat) (rest : List Value), va_S (lp_A base) s.heap H locs → W p l e R s m args below meth c H locs ce sl Q (F0 m pc' lm (sv a :: rest)) → W p l e R s m args below meth c H locs ce sl Q (F0 m pc lm rest))
    (h : lp_xS a nx ls stk st = some r) : lp_Wt p l e R s m args below meth c Q base K0 mo D dA sv L0 xs pc ls stk st := by
  exact fun lm H locs I => row lm H locs _ _ _ I.2.2.2.1 (hnx ls (.retAddr a :: stk) st h lm H locs I)
theorem lpW_Il (hnx : ∀ ls stk st, nx ls stk st = some r → lp_Wt p l e R s m args below meth c Q base K0 mo D dA sv L0 xs pc' ls stk st) (row : ∀ (lm : Array Slot) (H : Heap) (locs : List Loc) (ce sl : Nat) (rest : List Value) (x : Int32), lm[a]? = some (.val (.int x)) → W p l e R s m args below meth c H locs ce sl Q (F0 m pc' lm (.int x :: rest)) → W p l e R s m args below meth c H locs ce sl Q (F0 m pc lm rest))
    (h : lp_xIl a nx ls stk st = some r) : lp_Wt p l e R s m args below meth c Q base K0 mo D dA sv L0 xs pc ls stk st := by
  intro lm H locs I
  unfold lp_xIl at h
  split at h
  · next v hv =>
    have h1 := I.1.2.2 a (by rw [hv]; rfl)
    rw [hv] at h1
    exact row lm H locs _ _ _ v h1 (hnx _ _ _ h lm H locs I)
  · cases h
theorem lpW_Al (X : lp_Cx p R s m args meth c base K0 mo D dA sv b0 L0 xs r) (hnx : ∀ ls stk st, nx ls stk st = some r → lp_Wt p l e R s m args below meth c Q base K0 mo D dA sv L0 xs pc' ls stk st) (row : ∀ (lm : Array Slot) (H : Heap) (locs : List Loc) (ce sl : Nat) (rest : List Value) (x : Nat), lm[a]? = some (.val (.ref x)) → W p l e R s m args below meth c H locs ce sl Q (F0 m pc' lm (.ref x :: rest)) → W p l e R s m args below meth c H locs ce sl Q (F0 m pc lm rest))
    (h : lp_xAl a nx ls stk st = some r) : lp_Wt p l e R s m args below meth c Q base K0 mo D dA sv L0 xs pc ls stk st := by
  intro lm H locs I
  unfold lp_xAl at h
  split at h
  · next v hv =>
    have h1 := I.1.2.2 a (by rw [hv]; rfl)
    rw [hv] at h1
    exact row lm H locs _ _ _ (base + v) h1 (hnx _ _ _ h lm H locs I)
  · next v hv =>
    split at h
    · next hk =>
      have h1 := I.1.2.2 a (by rw [hv]; rfl)
      rw [hv] at h1
      obtain ⟨x, hx⟩ := X.2.2.2.2.2.1.ref hk
      have h1 : lm[a]? = some (.val (sv v)) := h1
      rw [hx] at h1
      have h2 := hnx _ _ _ h lm H locs I
      have e : (Value.retAddr v :: stk).map (lp_rl base sv) = .ref x :: stk.map (lp_rl base sv) := by
        show sv v :: _ = _
        rw [hx]
      rw [e] at h2
      exact row lm H locs _ _ _ x h1 h2
    · cases h
  · cases h
theorem lpW_Is (X : lp_Cx p R s m args meth c base K0 mo D dA sv b0 L0 xs r) (hnx : ∀ ls stk st, nx ls stk st = some r → lp_Wt p l e R s m args below meth c Q base K0 mo D dA sv L0 xs pc' ls stk st) (row : ∀ (lm : Array Slot) (H : Heap) (locs : List Loc) (ce sl : Nat) (rest : List Value) (x : Int32) (lv lv' : List (Nat × Value)), lv_has lm (lp_mx mo) lv → (a, Value.int x) :: lv.filter (fun q => !(q.1 == a) && !(q.1 + 1 == a && q.2.category == 2)) = lv' → (∀ lm' : Array Slot, lv_has lm' (lp_mx mo) lv' → W p l e R s m args below meth c H locs ce sl Q (F0 m pc' lm' rest)) → W p l e R s m args below meth c H locs ce sl Q (F0 m pc lm (.int x :: rest)))
    (h : lp_xIs a nx ls stk st = some r) : lp_Wt p l e R s m args below meth c Q base K0 mo D dA sv L0 xs pc ls stk st := by
  intro lm H locs I
  unfold lp_xIs at h
  split at h
  · next v rr =>
    refine row lm H locs _ _ (rr.map (lp_rl base sv)) v _ _ I.1.has rfl (fun lm' h' => ?_)
    exact hnx _ _ _ h lm' H locs ⟨I.1.set (v := .int v) X.2.2.2.2.2.1.2.2.1 h', I.2⟩
  · cases h
theorem lpW_As (X : lp_Cx p R s m args meth c base K0 mo D dA sv b0 L0 xs r) (hnx : ∀ ls stk st, nx ls stk st = some r → lp_Wt p l e R s m args below meth c Q base K0 mo D dA sv L0 xs pc' ls stk st) (row : ∀ (lm : Array Slot) (H : Heap) (locs : List Loc) (ce sl : Nat) (rest : List Value) (x : Nat) (lv lv' : List (Nat × Value)), lv_has lm (lp_mx mo) lv → (a, Value.ref x) :: lv.filter (fun q => !(q.1 == a) && !(q.1 + 1 == a && q.2.category == 2)) = lv' → (∀ lm' : Array Slot, lv_has lm' (lp_mx mo) lv' → W p l e R s m args below meth c H locs ce sl Q (F0 m pc' lm' rest)) → W p l e R s m args below meth c H locs ce sl Q (F0 m pc lm (.ref x :: rest)))
    (h : lp_xAs a nx ls stk st = some r) : lp_Wt p l e R s m args below meth c Q base K0 mo D dA sv L0 xs pc ls stk st := by
  intro lm H locs I
  unfold lp_xAs at h
  split at h
  · next v rr =>
    refine row lm H locs _ _ (rr.map (lp_rl base sv)) (base + v) _ _ I.1.has rfl (fun lm' h' => ?_)
    exact hnx _ _ _ h lm' H locs ⟨I.1.set (v := .ref v) X.2.2.2.2.2.1.2.2.1 h', I.2⟩
  · cases h
theorem lpW_Inc (X : lp_Cx p R s m args meth c base K0 mo D dA sv b0 L0 xs r) (ha : a < lp_mx mo) (hnx : ∀ ls stk st, nx ls stk st = some r → lp_Wt p l e R s m args below meth c Q base K0 mo D dA sv L0 xs pc' ls stk st) (row : ∀ (lm : Array Slot) (H : Heap) (locs : List Loc) (ce sl : Nat) (rest : List Value) (x : Int32) (k : Nat) (lv lv' : List (Nat × Value)), lv_has lm (lp_mx mo) lv → lv[k]? = some (a, .int x) → (a, Value.int (x + cv)) :: lv.filter (fun q => !(q.1 == a) && !(q.1 + 1 == a && q.2.category == 2)) = lv' → (∀ lm' : Array Slot, lv_has lm' (lp_mx mo) lv' → W p l e R s m args below meth c H locs ce sl Q (F0 m pc' lm' rest)) → W p l e R s m args below meth c H locs ce sl Q (F0 m pc lm rest))
    (h : lp_xInc a cv nx ls stk st = some r) : lp_Wt p l e R s m args below meth c Q base K0 mo D dA sv L0 xs pc ls stk st := by
  intro lm H locs I
  unfold lp_xInc at h
  split at h
  · next v hv =>
    have hm : (a, Value.int v) ∈ lp_lv base sv (lp_mx mo) ls := lp_lv_mem.mpr ⟨ha, by show lp_good (lp_nth ls a) = true; rw [hv]; rfl, by show _ = lp_rl base sv (lp_nth ls a); rw [hv]; rfl⟩
    obtain ⟨k, hk⟩ := List.getElem?_of_mem hm
    refine row lm H locs _ _ (stk.map (lp_rl base sv)) v k _ _ I.1.has hk rfl (fun lm' h' => ?_)
    exact hnx _ _ _ h lm' H locs ⟨I.1.set (v := .int (v + cv)) X.2.2.2.2.2.1.2.2.1 h', I.2⟩
  · cases h
theorem lpW_1 {f : Int32 → Int32} (hnx : ∀ ls stk st, nx ls stk st = some r → lp_Wt p l e R s m args below meth c Q base K0 mo D dA sv L0 xs pc' ls stk st) (row : ∀ (lm : Array Slot) (H : Heap) (locs : List Loc) (ce sl : Nat) (rest : List Value) (x : Int32), W p l e R s m args below meth c H locs ce sl Q (F0 m pc' lm (.int (f x) :: rest)) → W p l e R s m args below meth c H locs ce sl Q (F0 m pc lm (.int x :: rest)))
    (h : lp_x1 f nx ls stk st = some r) : lp_Wt p l e R s m args below meth c Q base K0 mo D dA sv L0 xs pc ls stk st := by
  intro lm H locs I
  unfold lp_x1 at h
  split at h
  · next x rr => exact row lm H locs _ _ (rr.map (lp_rl base sv)) x (hnx _ _ _ h lm H locs I)
  · cases h
theorem lpW_2 {f : Int32 → Int32 → Int32} (hnx : ∀ ls stk st, nx ls stk st = some r → lp_Wt p l e R s m args below meth c Q base K0 mo D dA sv L0 xs pc' ls stk st) (row : ∀ (lm : Array Slot) (H : Heap) (locs : List Loc) (ce sl : Nat) (rest : List Value) (x y : Int32), W p l e R s m args below meth c H locs ce sl Q (F0 m pc' lm (.int (f x y) :: rest)) → W p l e R s m args below meth c H locs ce sl Q (F0 m pc lm (.int y :: .int x :: rest)))
    (h : lp_x2 f nx ls stk st = some r) : lp_Wt p l e R s m args below meth c Q base K0 mo D dA sv L0 xs pc ls stk st := by
  intro lm H locs I
  unfold lp_x2 at h
  split at h
  · next y x rr => exact row lm H locs _ _ (rr.map (lp_rl base sv)) x y (hnx _ _ _ h lm H locs I)
  · cases h
theorem lpW_2d {f : Int32 → Int32 → Int32} (hnx : ∀ ls stk st, nx ls stk st = some r → lp_Wt p l e R s m args below meth c Q base K0 mo D dA sv L0 xs pc' ls stk st) (row : ∀ (lm : Array Slot) (H : Heap) (locs : List Loc) (ce sl : Nat) (rest : List Value) (x y : Int32), ¬ y = 0 → W p l e R s m args below meth c H locs ce sl Q (F0 m pc' lm (.int (f x y) :: rest)) → W p l e R s m args below meth c H locs ce sl Q (F0 m pc lm (.int y :: .int x :: rest)))
    (h : lp_x2d f nx ls stk st = some r) : lp_Wt p l e R s m args below meth c Q base K0 mo D dA sv L0 xs pc ls stk st := by
  intro lm H locs I
  unfold lp_x2d at h
  split at h
  · next y x rr =>
    split at h
    · cases h
    · next hy => exact row lm H locs _ _ (rr.map (lp_rl base sv)) x y hy (hnx _ _ _ h lm H locs I)
  · cases h
theorem lpW_Dup (hnx : ∀ ls stk st, nx ls stk st = some r → lp_Wt p l e R s m args below meth c Q base K0 mo D dA sv L0 xs pc' ls stk st) (row : ∀ (lm : Array Slot) (H : Heap) (locs : List Loc) (ce sl : Nat) (rest : List Value) (v : Value), v.category = 1 → W p l e R s m args below meth c H locs ce sl Q (F0 m pc' lm (v :: v :: rest)) → W p l e R s m args below meth c H locs ce sl Q (F0 m pc lm (v :: rest)))
    (h : lp_xDup nx ls stk st = some r) : lp_Wt p l e R s m args below meth c Q base K0 mo D dA sv L0 xs pc ls stk st := by
  intro lm H locs I
  unfold lp_xDup at h
  split at h
  · next x rr => exact row lm H locs _ _ (rr.map (lp_rl base sv)) (.int x) rfl (hnx _ _ _ h lm H locs I)
  · next x rr => exact row lm H locs _ _ (rr.map (lp_rl base sv)) (.ref (base + x)) rfl (hnx _ _ _ h lm H locs I)
  · cases h
theorem lpW_Dup2 (hnx : ∀ ls stk st, nx ls stk st = some r → lp_Wt p l e R s m args below meth c Q base K0 mo D dA sv L0 xs pc' ls stk st) (row : ∀ (lm : Array Slot) (H : Heap) (locs : List Loc) (ce sl : Nat) (rest : List Value) (v u : Value), v.category = 1 → u.category = 1 → W p l e R s m args below meth c H locs ce sl Q (F0 m pc' lm (v :: u :: v :: u :: rest)) → W p l e R s m args below meth c H locs ce sl Q (F0 m pc lm (v :: u :: rest)))
    (h : lp_xDup2 nx ls stk st = some r) : lp_Wt p l e R s m args below meth c Q base K0 mo D dA sv L0 xs pc ls stk st := by
  intro lm H locs I
  unfold lp_xDup2 at h
  split at h
  · next x y rr => exact row lm H locs _ _ (rr.map (lp_rl base sv)) (.int x) (.ref (base + y)) rfl rfl (hnx _ _ _ h lm H locs I)
  · cases h
theorem lpW_Pop (hnx : ∀ ls stk st, nx ls stk st = some r → lp_Wt p l e R s m args below meth c Q base K0 mo D dA sv L0 xs pc' ls stk st) (row : ∀ (lm : Array Slot) (H : Heap) (locs : List Loc) (ce sl : Nat) (rest : List Value) (v : Value), v.category = 1 → W p l e R s m args below meth c H locs ce sl Q (F0 m pc' lm rest) → W p l e R s m args below meth c H locs ce sl Q (F0 m pc lm (v :: rest)))
    (h : lp_xPop nx ls stk st = some r) : lp_Wt p l e R s m args below meth c Q base K0 mo D dA sv L0 xs pc ls stk st := by
  intro lm H locs I
  unfold lp_xPop at h
  split at h
  · next x rr => exact row lm H locs _ _ (rr.map (lp_rl base sv)) (.int x) rfl (hnx _ _ _ h lm H locs I)
  · cases h
theorem lpW_Goto (X : lp_Cx p R s m args meth c base K0 mo D dA sv b0 L0 xs r) {off : Int} (hd : decode (lp_b mo) pc = .ok (.goto off, 3)) (ht : (pc : Int) + off = (a : Int)) (hjp : ∀ z ls stk st, jp z ls stk st = some r → lp_Wt p l e R s m args below meth c Q base K0 mo D dA sv L0 xs z ls stk st)
    (h : jp a ls stk st = some r) : lp_Wt p l e R s m args below meth c Q base K0 mo D dA sv L0 xs pc ls stk st := by
  exact fun lm H locs I => lv_goto X.1 X.2.1 hd ht (hjp _ _ _ _ h lm H locs I)
theorem lpW_If (X : lp_Cx p R s m args meth c base K0 mo D dA sv b0 L0 xs r) {off : Int} {cd : Jvm.ClassFile.Cond} (hd : decode (lp_b mo) pc = .ok (.ifCond cd off, 3)) (ht : (pc : Int) + off = (a : Int)) (hnx : ∀ ls stk st, nx ls stk st = some r → lp_Wt p l e R s m args below meth c Q base K0 mo D dA sv L0 xs (pc + 3) ls stk st) (hjp : ∀ z ls stk st, jp z ls stk st = some r → lp_Wt p l e R s m args below meth c Q base K0 mo D dA sv L0 xs z ls stk st)
    (h : lp_xIf cd a nx jp ls stk st = some r) : lp_Wt p l e R s m args below meth c Q base K0 mo D dA sv L0 xs pc ls stk st := by
  intro lm H locs I
  unfold lp_xIf at h
  split at h
  · next x rr =>
    cases cd <;> simp only at h
    · exact lv_if_eq X.1 X.2.1 hd ht (fun q => by rw [if_pos q] at h; exact hjp _ _ _ _ h lm H locs I) (fun q => by rw [if_neg q] at h; exact hnx _ _ _ h lm H locs I)
    · exact lv_if_ne X.1 X.2.1 hd ht (fun q => by rw [if_neg q] at h; exact hjp _ _ _ _ h lm H locs I) (fun q => by rw [if_pos q] at h; exact hnx _ _ _ h lm H locs I)
    · exact lv_if_lt X.1 X.2.1 hd ht (fun q => by rw [if_pos q] at h; exact hjp _ _ _ _ h lm H locs I) (fun q => by rw [if_neg q] at h; exact hnx _ _ _ h lm H locs I)
    · exact lv_if_ge X.1 X.2.1 hd ht (fun q => by rw [if_pos q] at h; exact hjp _ _ _ _ h lm H locs I) (fun q => by rw [if_neg q] at h; exact hnx _ _ _ h lm H locs I)
    · exact lv_if_gt X.1 X.2.1 hd ht (fun q => by rw [if_pos q] at h; exact hjp _ _ _ _ h lm H locs I) (fun q => by rw [if_neg q] at h; exact hnx _ _ _ h lm H locs I)
    · exact lv_if_le X.1 X.2.1 hd ht (fun q => by rw [if_pos q] at h; exact hjp _ _ _ _ h lm H locs I) (fun q => by rw [if_neg q] at h; exact hnx _ _ _ h lm H locs I)
  · cases h
theorem lpW_Cmp (X : lp_Cx p R s m args meth c base K0 mo D dA sv b0 L0 xs r) {off : Int} {cd : Jvm.ClassFile.Cond} (hd : decode (lp_b mo) pc = .ok (.if_icmp cd off, 3)) (ht : (pc : Int) + off = (a : Int)) (hnx : ∀ ls stk st, nx ls stk st = some r → lp_Wt p l e R s m args below meth c Q base K0 mo D dA sv L0 xs (pc + 3) ls stk st) (hjp : ∀ z ls stk st, jp z ls stk st = some r → lp_Wt p l e R s m args below meth c Q base K0 mo D dA sv L0 xs z ls stk st)
    (h : lp_xCmp cd a nx jp ls stk st = some r) : lp_Wt p l e R s m args below meth c Q base K0 mo D dA sv L0 xs pc ls stk st := by
  intro lm H locs I
  unfold lp_xCmp at h
  split at h
  · next y x rr =>
    cases cd <;> simp only at h
    · exact lv_icmp_eq X.1 X.2.1 hd ht (fun q => by rw [if_pos q] at h; exact hjp _ _ _ _ h lm H locs I) (fun q => by rw [if_neg q] at h; exact hnx _ _ _ h lm H locs I)
    · exact lv_icmp_ne X.1 X.2.1 hd ht (fun q => by rw [if_neg q] at h; exact hjp _ _ _ _ h lm H locs I) (fun q => by rw [if_pos q] at h; exact hnx _ _ _ h lm H locs I)
    · exact lv_icmp_lt X.1 X.2.1 hd ht (fun q => by rw [if_pos q] at h; exact hjp _ _ _ _ h lm H locs I) (fun q => by rw [if_neg q] at h; exact hnx _ _ _ h lm H locs I)
    · exact lv_icmp_ge X.1 X.2.1 hd ht (fun q => by rw [if_pos q] at h; exact hjp _ _ _ _ h lm H locs I) (fun q => by rw [if_neg q] at h; exact hnx _ _ _ h lm H locs I)
    · exact lv_icmp_gt X.1 X.2.1 hd ht (fun q => by rw [if_pos q] at h; exact hjp _ _ _ _ h lm H locs I) (fun q => by rw [if_neg q] at h; exact hnx _ _ _ h lm H locs I)
    · exact lv_icmp_le X.1 X.2.1 hd ht (fun q => by rw [if_pos q] at h; exact hjp _ _ _ _ h lm H locs I) (fun q => by rw [if_neg q] at h; exact hnx _ _ _ h lm H locs I)
  · cases h
theorem lpW_Sw (X : lp_Cx p R s m args meth c base K0 mo D dA sv b0 L0 xs r) {df lo hi : Int} {offs : Array Int} {len : Nat} {t : List Nat} (hd : decode (lp_b mo) pc = .ok (.tableswitch df lo hi offs, len)) (h1 : (pc : Int) + df = (a : Int)) (h2 : lo = 0) (h3 : hi + 1 = (b : Int)) (h4 : ∀ j, j < b → (offs[j]?).map (fun o => (pc : Int) + o) = some ((t.getD j 0 : Nat) : Int)) (hjp : ∀ z ls stk st, jp z ls stk st = some r → lp_Wt p l e R s m args below meth c Q base K0 mo D dA sv L0 xs z ls stk st)
    (h : lp_xSw a b t jp ls stk st = some r) : lp_Wt p l e R s m args below meth c Q base K0 mo D dA sv L0 xs pc ls stk st := by
  intro lm H locs I
  unfold lp_xSw at h
  split at h
  · next x rr =>
    have hx : ¬ x < 0 → x.toInt = (x.toNatClampNeg : Int) := by
      intro hz
      have hz0 : (0 : Int) ≤ x.toInt := by
        have := Int32.not_lt.mp hz
        simpa using Int32.le_iff_toInt_le.mp this
      show x.toInt = ((x.toInt.toNat : Nat) : Int)
      omega
    split at h
    · next ho =>
      refine lv_tableOut X.1 X.2.1 hd ?_ h1 (hjp _ _ _ _ h lm H locs I)
      rcases ho with ho | ho
      · left
        rw [h2]
        simpa using Int32.lt_iff_toInt_lt.mp ho
      · by_cases hz : x < 0
        · left
          rw [h2]
          simpa using Int32.lt_iff_toInt_lt.mp hz
        · right
          have := hx hz
          omega
    · next ho =>
      have ho1 : ¬ x < 0 := fun q => ho (Or.inl q)
      have ho2 : x.toNatClampNeg < b := Nat.not_le.mp fun q => ho (Or.inr q)
      have e := hx ho1
      have h5 := h4 _ ho2
      cases hq : offs[x.toNatClampNeg]? with
      | none => rw [hq] at h5; cases h5
      | some off =>
        rw [hq] at h5
        refine lv_tableIn X.1 X.2.1 hd (by omega) (by omega) (off := off) ?_ (Option.some.inj h5) (hjp _ _ _ _ h lm H locs I)
        rw [h2, Int.sub_zero, e]
        exact hq
  · cases h
theorem lpW_GI (X : lp_Cx p R s m args meth c base K0 mo D dA sv b0 L0 xs r) (hd : decode (lp_b mo) pc = .ok (.getfield idx, 3)) (ha : a < 11) (hb : b < lp_nf a) (hw : lp_wd q = some (.fieldLink (lp_cn (lp_ow mo)) idx (lp_cn a) (lp_T a b).2.1 (lp_T a b).2.2.1)) (hr : lp_isR a b = false) (hnx : ∀ ls stk st, nx ls stk st = some r → lp_Wt p l e R s m args below meth c Q base K0 mo D dA sv L0 xs (pc + 3) ls stk st)
    (h : lp_xGI a b nx ls stk st = some r) : lp_Wt p l e R s m args below meth c Q base K0 mo D dA sv L0 xs pc ls stk st := by
  intro lm H locs I
  unfold lp_xGI at h
  split at h
  · next k rr =>
    split at h
    · next hk =>
      refine va_get X.1 X.2.1 X.2.2.2.2.1 (lp_hing a ha) X.2.2.2.1 X.2.2.2.2.2.1.1 I.2.2.1 k (fs := lp_fs base a st k) (by rw [lp_ws_get hk.2, lp_elO hk.1 ha]) (lp_hcl a ha) b hb (X.2.2.2.2.1 _ (lp_gt_in hw rfl)) (fun x hx => by rw [lp_hdc a ha b hb] at hx; exact hx) (v := .int (st.2.2 k b)) (by rw [lp_fs_get hb, hr]; rfl) hd ?_
      exact hnx ls (.int (st.2.2 k b) :: rr) st h lm H locs I
    · cases h
  · cases h
theorem lpW_GR (X : lp_Cx p R s m args meth c base K0 mo D dA sv b0 L0 xs r) (hd : decode (lp_b mo) pc = .ok (.getfield idx, 3)) (ha : a < 11) (hb : b < lp_nf a) (hw : lp_wd q = some (.fieldLink (lp_cn (lp_ow mo)) idx (lp_cn a) (lp_T a b).2.1 (lp_T a b).2.2.1)) (hr : lp_isR a b = true) (hnx : ∀ ls stk st, nx ls stk st = some r → lp_Wt p l e R s m args below meth c Q base K0 mo D dA sv L0 xs (pc + 3) ls stk st)
    (h : lp_xGR a b nx ls stk st = some r) : lp_Wt p l e R s m args below meth c Q base K0 mo D dA sv L0 xs pc ls stk st := by
  intro lm H locs I
  unfold lp_xGR at h
  split at h
  · next k rr =>
    split at h
    · next hk =>
      unfold lp_pR at h
      split at h
      · next n hv =>
        refine va_get X.1 X.2.1 X.2.2.2.2.1 (lp_hing a ha) X.2.2.2.1 X.2.2.2.2.2.1.1 I.2.2.1 k (fs := lp_fs base a st k) (by rw [lp_ws_get hk.2, lp_elO hk.1 ha]) (lp_hcl a ha) b hb (X.2.2.2.2.1 _ (lp_gt_in hw rfl)) (fun x hx => by rw [lp_hdc a ha b hb] at hx; exact hx) (v := .ref (base + n)) (by rw [lp_fs_get hb, hr, hv]; rfl) hd ?_
        exact hnx ls (.ref n :: rr) st h lm H locs I
      · cases h
    · cases h
  · cases h
theorem lpW_GV (X : lp_Cx p R s m args meth c base K0 mo D dA sv b0 L0 xs r) (hd : decode (lp_b mo) pc = .ok (.getfield idx, 3)) (hw : lp_wd q = some (.fieldLink (lp_cn (lp_ow mo)) idx "java/lang/String" "value" "[B")) (hnx : ∀ ls stk st, nx ls stk st = some r → lp_Wt p l e R s m args below meth c Q base K0 mo D dA sv L0 xs (pc + 3) ls stk st)
    (h : lp_xGV nx ls stk st = some r) : lp_Wt p l e R s m args below meth c Q base K0 mo D dA sv L0 xs pc ls stk st := by
  intro lm H locs I
  unfold lp_xGV at h
  split at h
  · next k rr =>
    split at h
    · next hk =>
      obtain ⟨adK, adV, hS, hv⟩ := X.2.2.2.2.2.1.2.2.2.1
      have h2 := hnx _ _ _ h lm H locs I
      have e1 : (Value.retAddr k :: rr).map (lp_rl base sv) = .ref (adK k) :: rr.map (lp_rl base sv) := by
        show sv k :: _ = _
        rw [(hv k hk).1]
      have e2 : (Value.retAddr (100 + k) :: rr).map (lp_rl base sv) = .ref (adV k) :: rr.map (lp_rl base sv) := by
        show sv (100 + k) :: _ = _
        rw [(hv k hk).2.1]
      rw [e2] at h2
      rw [e1]
      exact vk_getf X.1 X.2.1 (hS.1 k hk).2.2.1 I.2.2.2.1 X.2.2.2.1 (X.2.2.2.2.1 _ (lp_gt_in hw rfl)) (fun x hx => hx) hd h2
    · cases h
  · cases h
theorem lpW_GC (X : lp_Cx p R s m args meth c base K0 mo D dA sv b0 L0 xs r) (hd : decode (lp_b mo) pc = .ok (.getfield idx, 3)) (hw : lp_wd q = some (.fieldLink (lp_cn (lp_ow mo)) idx "java/lang/String" "coder" "B")) (hnx : ∀ ls stk st, nx ls stk st = some r → lp_Wt p l e R s m args below meth c Q base K0 mo D dA sv L0 xs (pc + 3) ls stk st)
    (h : lp_xGC nx ls stk st = some r) : lp_Wt p l e R s m args below meth c Q base K0 mo D dA sv L0 xs pc ls stk st := by
  intro lm H locs I
  unfold lp_xGC at h
  split at h
  · next k rr =>
    split at h
    · next hk =>
      obtain ⟨adK, adV, hS, hv⟩ := X.2.2.2.2.2.1.2.2.2.1
      have h2 := hnx _ _ _ h lm H locs I
      have e1 : (Value.retAddr k :: rr).map (lp_rl base sv) = .ref (adK k) :: rr.map (lp_rl base sv) := by
        show sv k :: _ = _
        rw [(hv k hk).1]
      rw [e1]
      exact vk_getf X.1 X.2.1 (hS.1 k hk).2.1 I.2.2.2.1 X.2.2.2.1 (X.2.2.2.2.1 _ (lp_gt_in hw rfl)) (fun x hx => hx) hd h2
    · cases h
  · cases h
theorem lpW_PI (X : lp_Cx p R s m args meth c base K0 mo D dA sv b0 L0 xs r) (hd : decode (lp_b mo) pc = .ok (.putfield idx, 3)) (ha : a < 11) (hb : b < lp_nf a) (hw : lp_wd q = some (.fieldLink (lp_cn (lp_ow mo)) idx (lp_cn a) (lp_T a b).2.1 (lp_T a b).2.2.1)) (hf : (lp_T a b).2.2.2 = true → (lp_nd mo).1 = "<init>" ∧ lp_ow mo = a) (hr : lp_isR a b = false) (ht : lp_ty a b = .int) (hnx : ∀ ls stk st, nx ls stk st = some r → lp_Wt p l e R s m args below meth c Q base K0 mo D dA sv L0 xs (pc + 3) ls stk st)
    (h : lp_xPI a b nx ls stk st = some r) : lp_Wt p l e R s m args below meth c Q base K0 mo D dA sv L0 xs pc ls stk st := by
  intro lm H locs I
  unfold lp_xPI at h
  split at h
  · next v k rr =>
    split at h
    · next hk =>
      skip
      have kk : ∀ (H1 : Heap) (locs1 : List Loc), va_P D lp_cl ((lp_ws base dA st).set k (base + k, .inr (a, (lp_fs base a st k).set b (.int v)))) H1 → va_D (lp_A base) ((lp_ws base dA st).set k (base + k, .inr (a, (lp_fs base a st k).set b (.int v)))) → va_S (lp_A base) s.heap H1 locs1 → W p l e R s m args below meth c H1 locs1 (st.1 - K0) (lp_sl st.1 - lp_sl K0) Q (F0 m (pc + 3) lm (rr.map (lp_rl base sv))) := by
        intro H1 locs1 hP1 hD1 hS1
        have e1 : (lp_ws base dA st).set k (base + k, .inr (a, (lp_fs base a st k).set b (.int v))) = lp_ws base dA (st.1, st.2.1, lp_w st.2.2 k b v) := by
          rw [lp_fs_setI hb hr, ← lp_elO (base := base) (dA := dA) (st := (st.1, st.2.1, lp_w st.2.2 k b v)) hk.1 ha]
          exact lp_ws_set (st' := (st.1, st.2.1, lp_w st.2.2 k b v)) hk.2 rfl (fun q hq => lp_el_w hq)
        rw [e1] at hP1
        exact hnx ls rr (st.1, st.2.1, lp_w st.2.2 k b v) h lm H1 locs1 ⟨I.1, trivial, hP1, hS1, lp_Scr_w I.2.2.2.2.1 hk.2 _, I.2.2.2.2.2⟩
      by_cases hfin : (lp_T a b).2.2.2 = true
      · exact va_putF X.1 X.2.1 X.2.2.2.2.1 (lp_hing a ha) (lp_ty a) (lp_hty a ha) (lp_hnm a ha) X.2.2.2.1 X.2.2.2.2.2.1.1 I.2.2.1 lp_ws_D I.2.2.2.1 k (fs := lp_fs base a st k) (by rw [lp_ws_get hk.2, lp_elO hk.1 ha]) (lp_hcl a ha) b hb (X.2.2.2.2.1 _ (lp_gt_in hw rfl)) (fun x hx => by rw [lp_hdc a ha b hb] at hx; exact hx) hfin (X.2.2.2.2.2.2.1 (hf hfin).1) ((lp_hdc a ha b hb).trans (by rw [(hf hfin).2])) (lp_hty a ha b hb) (by rw [ht]; rfl) (by rw [ht]; rfl) (by rw [lp_fs_len]; exact hb) hd kk
      · exact va_put X.1 X.2.1 X.2.2.2.2.1 (lp_hing a ha) (lp_ty a) (lp_hty a ha) (lp_hnm a ha) X.2.2.2.1 X.2.2.2.2.2.1.1 I.2.2.1 lp_ws_D I.2.2.2.1 k (fs := lp_fs base a st k) (by rw [lp_ws_get hk.2, lp_elO hk.1 ha]) (lp_hcl a ha) b hb (X.2.2.2.2.1 _ (lp_gt_in hw rfl)) (fun x hx => by rw [lp_hdc a ha b hb] at hx; exact hx) (by simpa using hfin) (lp_hty a ha b hb) (by rw [ht]; rfl) (by rw [ht]; rfl) (by rw [lp_fs_len]; exact hb) hd kk
    · cases h
  · cases h
theorem lpW_PR (X : lp_Cx p R s m args meth c base K0 mo D dA sv b0 L0 xs r) (hd : decode (lp_b mo) pc = .ok (.putfield idx, 3)) (ha : a < 11) (hb : b < lp_nf a) (hw : lp_wd q = some (.fieldLink (lp_cn (lp_ow mo)) idx (lp_cn a) (lp_T a b).2.1 (lp_T a b).2.2.1)) (hf : (lp_T a b).2.2.2 = true → (lp_nd mo).1 = "<init>" ∧ lp_ow mo = a) (hr : lp_isR a b = true) (hnx : ∀ ls stk st, nx ls stk st = some r → lp_Wt p l e R s m args below meth c Q base K0 mo D dA sv L0 xs (pc + 3) ls stk st)
    (h : lp_xPR a b nx ls stk st = some r) : lp_Wt p l e R s m args below meth c Q base K0 mo D dA sv L0 xs pc ls stk st := by
  intro lm H locs I
  unfold lp_xPR at h
  split at h
  · next v k rr =>
    split at h
    · next hk =>
      skip
      have kk : ∀ (H1 : Heap) (locs1 : List Loc), va_P D lp_cl ((lp_ws base dA st).set k (base + k, .inr (a, (lp_fs base a st k).set b (.ref (base + v))))) H1 → va_D (lp_A base) ((lp_ws base dA st).set k (base + k, .inr (a, (lp_fs base a st k).set b (.ref (base + v))))) → va_S (lp_A base) s.heap H1 locs1 → W p l e R s m args below meth c H1 locs1 (st.1 - K0) (lp_sl st.1 - lp_sl K0) Q (F0 m (pc + 3) lm (rr.map (lp_rl base sv))) := by
        intro H1 locs1 hP1 hD1 hS1
        have e1 : (lp_ws base dA st).set k (base + k, .inr (a, (lp_fs base a st k).set b (.ref (base + v)))) = lp_ws base dA (st.1, lp_wR st.2.1 k b (.ref v), st.2.2) := by
          rw [lp_fs_setR hb hr, ← lp_elO (base := base) (dA := dA) (st := (st.1, lp_wR st.2.1 k b (.ref v), st.2.2)) hk.1 ha]
          exact lp_ws_set (st' := (st.1, lp_wR st.2.1 k b (.ref v), st.2.2)) hk.2 rfl (fun q hq => lp_el_wR hq)
        rw [e1] at hP1
        exact hnx ls rr (st.1, lp_wR st.2.1 k b (.ref v), st.2.2) h lm H1 locs1 ⟨I.1, trivial, hP1, hS1, I.2.2.2.2.1, I.2.2.2.2.2⟩
      by_cases hfin : (lp_T a b).2.2.2 = true
      · exact va_putF X.1 X.2.1 X.2.2.2.2.1 (lp_hing a ha) (lp_ty a) (lp_hty a ha) (lp_hnm a ha) X.2.2.2.1 X.2.2.2.2.2.1.1 I.2.2.1 lp_ws_D I.2.2.2.1 k (fs := lp_fs base a st k) (by rw [lp_ws_get hk.2, lp_elO hk.1 ha]) (lp_hcl a ha) b hb (X.2.2.2.2.1 _ (lp_gt_in hw rfl)) (fun x hx => by rw [lp_hdc a ha b hb] at hx; exact hx) hfin (X.2.2.2.2.2.2.1 (hf hfin).1) ((lp_hdc a ha b hb).trans (by rw [(hf hfin).2])) (lp_hty a ha b hb) (lp_refty a ha b hb hr _).1 (lp_refty a ha b hb hr _).2 (by rw [lp_fs_len]; exact hb) hd kk
      · exact va_put X.1 X.2.1 X.2.2.2.2.1 (lp_hing a ha) (lp_ty a) (lp_hty a ha) (lp_hnm a ha) X.2.2.2.1 X.2.2.2.2.2.1.1 I.2.2.1 lp_ws_D I.2.2.2.1 k (fs := lp_fs base a st k) (by rw [lp_ws_get hk.2, lp_elO hk.1 ha]) (lp_hcl a ha) b hb (X.2.2.2.2.1 _ (lp_gt_in hw rfl)) (fun x hx => by rw [lp_hdc a ha b hb] at hx; exact hx) (by simpa using hfin) (lp_hty a ha b hb) (lp_refty a ha b hb hr _).1 (lp_refty a ha b hb hr _).2 (by rw [lp_fs_len]; exact hb) hd kk
    · cases h
  · cases h
theorem lpW_PZ0 (X : lp_Cx p R s m args meth c base K0 mo D dA sv b0 L0 xs r) (hd : decode (lp_b mo) pc = .ok (.putfield idx, 3)) (ha : a < 11) (hb : b < lp_nf a) (hw : lp_wd q = some (.fieldLink (lp_cn (lp_ow mo)) idx (lp_cn a) (lp_T a b).2.1 (lp_T a b).2.2.1)) (hf : (lp_T a b).2.2.2 = true → (lp_nd mo).1 = "<init>" ∧ lp_ow mo = a) (hr : lp_isR a b = false) (ht : lp_ty a b = .boolean) (hv : ∀ v k rr, stk = .int v :: .ref k :: rr → v = 0 ∨ v = 1) (hnx : ∀ ls stk st, nx ls stk st = some r → lp_Wt p l e R s m args below meth c Q base K0 mo D dA sv L0 xs (pc + 3) ls stk st)
    (h : lp_xPI a b nx ls stk st = some r) : lp_Wt p l e R s m args below meth c Q base K0 mo D dA sv L0 xs pc ls stk st := by
  intro lm H locs I
  unfold lp_xPI at h
  split at h
  · next v k rr =>
    split at h
    · next hk =>
      have hv1 := hv _ _ _ rfl
      have kk : ∀ (H1 : Heap) (locs1 : List Loc), va_P D lp_cl ((lp_ws base dA st).set k (base + k, .inr (a, (lp_fs base a st k).set b (.int v)))) H1 → va_D (lp_A base) ((lp_ws base dA st).set k (base + k, .inr (a, (lp_fs base a st k).set b (.int v)))) → va_S (lp_A base) s.heap H1 locs1 → W p l e R s m args below meth c H1 locs1 (st.1 - K0) (lp_sl st.1 - lp_sl K0) Q (F0 m (pc + 3) lm (rr.map (lp_rl base sv))) := by
        intro H1 locs1 hP1 hD1 hS1
        have e1 : (lp_ws base dA st).set k (base + k, .inr (a, (lp_fs base a st k).set b (.int v))) = lp_ws base dA (st.1, st.2.1, lp_w st.2.2 k b v) := by
          rw [lp_fs_setI hb hr, ← lp_elO (base := base) (dA := dA) (st := (st.1, st.2.1, lp_w st.2.2 k b v)) hk.1 ha]
          exact lp_ws_set (st' := (st.1, st.2.1, lp_w st.2.2 k b v)) hk.2 rfl (fun q hq => lp_el_w hq)
        rw [e1] at hP1
        exact hnx ls rr (st.1, st.2.1, lp_w st.2.2 k b v) h lm H1 locs1 ⟨I.1, trivial, hP1, hS1, lp_Scr_w I.2.2.2.2.1 hk.2 _, I.2.2.2.2.2⟩
      by_cases hfin : (lp_T a b).2.2.2 = true
      · exact va_putF X.1 X.2.1 X.2.2.2.2.1 (lp_hing a ha) (lp_ty a) (lp_hty a ha) (lp_hnm a ha) X.2.2.2.1 X.2.2.2.2.2.1.1 I.2.2.1 lp_ws_D I.2.2.2.1 k (fs := lp_fs base a st k) (by rw [lp_ws_get hk.2, lp_elO hk.1 ha]) (lp_hcl a ha) b hb (X.2.2.2.2.1 _ (lp_gt_in hw rfl)) (fun x hx => by rw [lp_hdc a ha b hb] at hx; exact hx) hfin (X.2.2.2.2.2.2.1 (hf hfin).1) ((lp_hdc a ha b hb).trans (by rw [(hf hfin).2])) (lp_hty a ha b hb) (by rw [ht]; rcases hv1 with e | e <;> rw [e] <;> rfl) (by rw [ht]; rcases hv1 with e | e <;> rw [e] <;> rfl) (by rw [lp_fs_len]; exact hb) hd kk
      · exact va_put X.1 X.2.1 X.2.2.2.2.1 (lp_hing a ha) (lp_ty a) (lp_hty a ha) (lp_hnm a ha) X.2.2.2.1 X.2.2.2.2.2.1.1 I.2.2.1 lp_ws_D I.2.2.2.1 k (fs := lp_fs base a st k) (by rw [lp_ws_get hk.2, lp_elO hk.1 ha]) (lp_hcl a ha) b hb (X.2.2.2.2.1 _ (lp_gt_in hw rfl)) (fun x hx => by rw [lp_hdc a ha b hb] at hx; exact hx) (by simpa using hfin) (lp_hty a ha b hb) (by rw [ht]; rcases hv1 with e | e <;> rw [e] <;> rfl) (by rw [ht]; rcases hv1 with e | e <;> rw [e] <;> rfl) (by rw [lp_fs_len]; exact hb) hd kk
    · cases h
  · cases h
theorem lpW_PZ (X : lp_Cx p R s m args meth c base K0 mo D dA sv b0 L0 xs r) (hd : decode (lp_b mo) pc = .ok (.putfield idx, 3)) (ha : a < 11) (hb : b < lp_nf a) (hw : lp_wd q = some (.fieldLink (lp_cn (lp_ow mo)) idx (lp_cn a) (lp_T a b).2.1 (lp_T a b).2.2.1)) (hf : (lp_T a b).2.2.2 = true → (lp_nd mo).1 = "<init>" ∧ lp_ow mo = a) (hr : lp_isR a b = false) (ht : lp_ty a b = .boolean) (hnx : ∀ ls stk st, nx ls stk st = some r → lp_Wt p l e R s m args below meth c Q base K0 mo D dA sv L0 xs (pc + 3) ls stk st)
    (h : lp_xPZ a b nx ls stk st = some r) : lp_Wt p l e R s m args below meth c Q base K0 mo D dA sv L0 xs pc ls stk st := by
  unfold lp_xPZ at h
  split at h
  · next v k rr =>
    split at h
    · next hk =>
      split at h
      · next hv =>
        refine lpW_PZ0 X hd ha hb hw hf hr ht ?_ hnx (stk := .int v :: .ref k :: rr) ?_
        · intro v' k' rr' e
          cases e
          exact hv
        · show (if (lp_sh k).1 = a ∧ k < st.1 then nx ls rr (st.1, st.2.1, lp_w st.2.2 k b v) else none) = some r
          rw [if_pos hk]
          exact h
      · cases h
    · cases h
  · cases h
theorem lpW_Ial20 (X : lp_Cx p R s m args meth c base K0 mo D dA sv b0 L0 xs r) (hd : decode (lp_b mo) pc = .ok (.iaload, 1)) (hnx : ∀ ls stk st, nx ls stk st = some r → lp_Wt p l e R s m args below meth c Q base K0 mo D dA sv L0 xs (pc + 1) ls stk st)
    (h : lp_xIal 20 nx ls stk st = some r) : lp_Wt p l e R s m args below meth c Q base K0 mo D dA sv L0 xs pc ls stk st := by
  intro lm H locs I
  unfold lp_xIal at h
  split at h
  · next i k rr =>
    split at h
    · next hk =>
      split at h
      · cases h
      · next ho =>
        exact va_iald X.1 X.2.1 X.2.2.2.2.2.1.1 I.2.2.1 k 0 (by rw [lp_ws_get hk.2, lp_el20 hk.1]) rfl ho hd (hnx _ _ _ h lm H locs I)
    · cases h
  · cases h
theorem lpW_Ial21 (X : lp_Cx p R s m args meth c base K0 mo D dA sv b0 L0 xs r) (hd : decode (lp_b mo) pc = .ok (.baload, 1)) (hnx : ∀ ls stk st, nx ls stk st = some r → lp_Wt p l e R s m args below meth c Q base K0 mo D dA sv L0 xs (pc + 1) ls stk st)
    (h : lp_xIal 21 nx ls stk st = some r) : lp_Wt p l e R s m args below meth c Q base K0 mo D dA sv L0 xs pc ls stk st := by
  intro lm H locs I
  unfold lp_xIal at h
  split at h
  · next i k rr =>
    split at h
    · next hk =>
      split at h
      · cases h
      · next ho =>
        exact va_bald X.1 X.2.1 X.2.2.2.2.2.1.1 I.2.2.1 k 1 (by rw [lp_ws_get hk.2, lp_el21 hk.1]) rfl ho hd (hnx _ _ _ h lm H locs I)
    · cases h
  · cases h
theorem lpW_Ial22 (X : lp_Cx p R s m args meth c base K0 mo D dA sv b0 L0 xs r) (hd : decode (lp_b mo) pc = .ok (.baload, 1)) (hnx : ∀ ls stk st, nx ls stk st = some r → lp_Wt p l e R s m args below meth c Q base K0 mo D dA sv L0 xs (pc + 1) ls stk st)
    (h : lp_xIal 22 nx ls stk st = some r) : lp_Wt p l e R s m args below meth c Q base K0 mo D dA sv L0 xs pc ls stk st := by
  intro lm H locs I
  unfold lp_xIal at h
  split at h
  · next i k rr =>
    split at h
    · next hk =>
      split at h
      · cases h
      · next ho =>
        exact va_zald X.1 X.2.1 X.2.2.2.2.2.1.1 I.2.2.1 k 2 (by rw [lp_ws_get hk.2, lp_el22 hk.1]) rfl ho hd (hnx _ _ _ h lm H locs I)
    · cases h
  · cases h
theorem lpW_Ias20 (X : lp_Cx p R s m args meth c base K0 mo D dA sv b0 L0 xs r) (hd : decode (lp_b mo) pc = .ok (.iastore, 1)) (hnx : ∀ ls stk st, nx ls stk st = some r → lp_Wt p l e R s m args below meth c Q base K0 mo D dA sv L0 xs (pc + 1) ls stk st)
    (h : lp_xIas 20 (fun x => x) nx ls stk st = some r) : lp_Wt p l e R s m args below meth c Q base K0 mo D dA sv L0 xs pc ls stk st := by
  intro lm H locs I
  unfold lp_xIas at h
  split at h
  · next x i k rr =>
    split at h
    · next hk =>
      split at h
      · cases h
      · next ho =>
        refine va_iast X.1 X.2.1 X.2.2.2.2.2.1.1 I.2.2.1 lp_ws_D I.2.2.2.1 k 0 (by rw [lp_ws_get hk.2, lp_el20 hk.1]) rfl ho hd (fun H1 locs1 hP1 hD1 hS1 => ?_)
        have e1 : (lp_ws base dA st).set k (base + k, .inl (dA 0, (lp_sh k).2, .inl (upd (st.2.2 k) i.toNatClampNeg x))) = lp_ws base dA (st.1, st.2.1, lp_w st.2.2 k i.toNatClampNeg ((fun x => x) x)) := by
          have e2 : lp_el base dA (st.1, st.2.1, lp_w st.2.2 k i.toNatClampNeg ((fun x => x) x)) k = .inl (dA 0, (lp_sh k).2, .inl (upd (st.2.2 k) i.toNatClampNeg x)) := by
            rw [lp_el20 hk.1]
            exact congrArg (fun f => (Sum.inl (dA 0, (lp_sh k).2, Sum.inl f) : va_E)) (lp_u_eq _ _ _)
          rw [← e2]
          exact lp_ws_set (st' := (st.1, st.2.1, lp_w st.2.2 k i.toNatClampNeg ((fun x => x) x))) hk.2 rfl (fun q hq => lp_el_w hq)
        rw [e1] at hP1
        exact hnx ls rr _ h lm H1 locs1 ⟨I.1, trivial, hP1, hS1, lp_Scr_w I.2.2.2.2.1 hk.2 _, I.2.2.2.2.2⟩
    · cases h
  · cases h
theorem lpW_Ias21 (X : lp_Cx p R s m args meth c base K0 mo D dA sv b0 L0 xs r) (hd : decode (lp_b mo) pc = .ok (.bastore, 1)) (hnx : ∀ ls stk st, nx ls stk st = some r → lp_Wt p l e R s m args below meth c Q base K0 mo D dA sv L0 xs (pc + 1) ls stk st)
    (h : lp_xIas 21 (vp_nar .byte) nx ls stk st = some r) : lp_Wt p l e R s m args below meth c Q base K0 mo D dA sv L0 xs pc ls stk st := by
  intro lm H locs I
  unfold lp_xIas at h
  split at h
  · next x i k rr =>
    split at h
    · next hk =>
      split at h
      · cases h
      · next ho =>
        refine va_bast X.1 X.2.1 X.2.2.2.2.2.1.1 I.2.2.1 lp_ws_D I.2.2.2.1 k 1 (by rw [lp_ws_get hk.2, lp_el21 hk.1]) rfl ho hd (fun H1 locs1 hP1 hD1 hS1 => ?_)
        have e1 : (lp_ws base dA st).set k (base + k, .inl (dA 1, (lp_sh k).2, .inl (upd (st.2.2 k) i.toNatClampNeg ((vp_nar .byte) x)))) = lp_ws base dA (st.1, st.2.1, lp_w st.2.2 k i.toNatClampNeg ((vp_nar .byte) x)) := by
          have e2 : lp_el base dA (st.1, st.2.1, lp_w st.2.2 k i.toNatClampNeg ((vp_nar .byte) x)) k = .inl (dA 1, (lp_sh k).2, .inl (upd (st.2.2 k) i.toNatClampNeg ((vp_nar .byte) x))) := by
            rw [lp_el21 hk.1]
            exact congrArg (fun f => (Sum.inl (dA 1, (lp_sh k).2, Sum.inl f) : va_E)) (lp_u_eq _ _ _)
          rw [← e2]
          exact lp_ws_set (st' := (st.1, st.2.1, lp_w st.2.2 k i.toNatClampNeg ((vp_nar .byte) x))) hk.2 rfl (fun q hq => lp_el_w hq)
        rw [e1] at hP1
        exact hnx ls rr _ h lm H1 locs1 ⟨I.1, trivial, hP1, hS1, lp_Scr_w I.2.2.2.2.1 hk.2 _, I.2.2.2.2.2⟩
    · cases h
  · cases h
theorem lpW_Ias22 (X : lp_Cx p R s m args meth c base K0 mo D dA sv b0 L0 xs r) (hd : decode (lp_b mo) pc = .ok (.bastore, 1)) (hnx : ∀ ls stk st, nx ls stk st = some r → lp_Wt p l e R s m args below meth c Q base K0 mo D dA sv L0 xs (pc + 1) ls stk st)
    (h : lp_xIas 22 (vp_nar .boolean) nx ls stk st = some r) : lp_Wt p l e R s m args below meth c Q base K0 mo D dA sv L0 xs pc ls stk st := by
  intro lm H locs I
  unfold lp_xIas at h
  split at h
  · next x i k rr =>
    split at h
    · next hk =>
      split at h
      · cases h
      · next ho =>
        refine va_zast X.1 X.2.1 X.2.2.2.2.2.1.1 I.2.2.1 lp_ws_D I.2.2.2.1 k 2 (by rw [lp_ws_get hk.2, lp_el22 hk.1]) rfl ho hd (fun H1 locs1 hP1 hD1 hS1 => ?_)
        have e1 : (lp_ws base dA st).set k (base + k, .inl (dA 2, (lp_sh k).2, .inl (upd (st.2.2 k) i.toNatClampNeg ((vp_nar .boolean) x)))) = lp_ws base dA (st.1, st.2.1, lp_w st.2.2 k i.toNatClampNeg ((vp_nar .boolean) x)) := by
          have e2 : lp_el base dA (st.1, st.2.1, lp_w st.2.2 k i.toNatClampNeg ((vp_nar .boolean) x)) k = .inl (dA 2, (lp_sh k).2, .inl (upd (st.2.2 k) i.toNatClampNeg ((vp_nar .boolean) x))) := by
            rw [lp_el22 hk.1]
            exact congrArg (fun f => (Sum.inl (dA 2, (lp_sh k).2, Sum.inl f) : va_E)) (lp_u_eq _ _ _)
          rw [← e2]
          exact lp_ws_set (st' := (st.1, st.2.1, lp_w st.2.2 k i.toNatClampNeg ((vp_nar .boolean) x))) hk.2 rfl (fun q hq => lp_el_w hq)
        rw [e1] at hP1
        exact hnx ls rr _ h lm H1 locs1 ⟨I.1, trivial, hP1, hS1, lp_Scr_w I.2.2.2.2.1 hk.2 _, I.2.2.2.2.2⟩
    · cases h
  · cases h
theorem lpW_Aal23 (X : lp_Cx p R s m args meth c base K0 mo D dA sv b0 L0 xs r) (hd : decode (lp_b mo) pc = .ok (.aaload, 1)) (hnx : ∀ ls stk st, nx ls stk st = some r → lp_Wt p l e R s m args below meth c Q base K0 mo D dA sv L0 xs (pc + 1) ls stk st)
    (h : lp_xAal 23 nx ls stk st = some r) : lp_Wt p l e R s m args below meth c Q base K0 mo D dA sv L0 xs pc ls stk st := by
  intro lm H locs I
  unfold lp_xAal at h
  split at h
  · next i k rr =>
    split at h
    · next hk =>
      split at h
      · cases h
      · next ho =>
        unfold lp_pR at h
        split at h
        · next n hv =>
          have hlt : i.toNatClampNeg < (lp_sh k).2 := Nat.not_le.mp fun q => ho (Or.inr q)
          have hat := I.2.2.1 k _ (lp_ws_get hk.2)
          rw [lp_el23 hk.1] at hat
          have hat : H[base + k]? = some (vp_cell (dA 3) ((lp_sh k).2, .inr (.inr (.inr (.inr (fun j => lp_on base (st.2.1 k j))))))) := hat
          rw [vp_cell_q] at hat
          refine W.aald (v := .ref (base + n)) (ty := .array .int) X.1 X.2.1 hat ((X.2.2.2.2.2.1.1.2 3 _ rfl).1 _ _) rfl (fun q => by cases q) (by rw [arrV_size]; exact ho) (by rw [arrV_read _ _ hlt, hv]; rfl) rfl rfl hd ?_
          exact hnx ls (.ref n :: rr) st h lm H locs I
        · cases h
    · cases h
  · cases h
theorem lpW_Aal24 (X : lp_Cx p R s m args meth c base K0 mo D dA sv b0 L0 xs r) (hd : decode (lp_b mo) pc = .ok (.aaload, 1)) (hnx : ∀ ls stk st, nx ls stk st = some r → lp_Wt p l e R s m args below meth c Q base K0 mo D dA sv L0 xs (pc + 1) ls stk st)
    (h : lp_xAal 24 nx ls stk st = some r) : lp_Wt p l e R s m args below meth c Q base K0 mo D dA sv L0 xs pc ls stk st := by
  intro lm H locs I
  unfold lp_xAal at h
  split at h
  · next i k rr =>
    split at h
    · next hk =>
      split at h
      · cases h
      · next ho =>
        unfold lp_pR at h
        split at h
        · next n hv =>
          refine va_aldq X.1 X.2.1 X.2.2.2.2.2.1.1 I.2.2.1 k 4 (by rw [lp_ws_get hk.2, lp_el24 hk.1]) rfl ho hd ?_
          rw [hv]
          exact hnx ls (.ref n :: rr) st h lm H locs I
        · cases h
    · cases h
  · cases h
theorem lpW_Scr (X : lp_Cx p R s m args meth c base K0 mo D dA sv b0 L0 xs r) (hd : decode (lp_b mo) pc = .ok (.iaload, 1)) (hnx : ∀ ls stk st, nx ls stk st = some r → lp_Wt p l e R s m args below meth c Q base K0 mo D dA sv L0 xs (pc + 1) ls stk st)
    (h : lp_xScr nx ls stk st = some r) : lp_Wt p l e R s m args below meth c Q base K0 mo D dA sv L0 xs pc ls stk st := by
  intro lm H locs I
  unfold lp_xScr at h
  split at h
  · next i k rr =>
    split at h
    · next hk =>
      subst hk
      split at h
      · next hfl =>
       split at h
       · cases h
       · next ho =>
        obtain ⟨h8, h9, h10, h11⟩ := X.2.2.2.2.2.1.2.2.2.2.2.2.1
        have hb : b0 < s.heap.size := by
          obtain ⟨scr, hs, -⟩ := h11
          exact (Array.getElem?_eq_some_iff.mp hs).1
        have hL : (st.2.2 998 0).toNatClampNeg = L0 := by rw [(I.2.2.2.2.1.2 hfl).1]; exact Int32.toNatClampNeg_ofNat_of_lt h10
        rw [hL] at ho
        have hlt : i.toNatClampNeg < L0 := Nat.not_le.mp fun q => ho (Or.inr q)
        have h2 := hnx _ _ _ h lm H locs I
        rw [(I.2.2.2.2.1.2 hfl).2 _ hlt] at h2
        have e1 : (Value.int i :: Value.retAddr 300 :: rr).map (lp_rl base sv) = .int i :: .ref b0 :: rr.map (lp_rl base sv) := by
          show Value.int i :: sv 300 :: _ = _
          rw [h8]
        rw [e1]
        exact va_sld X.1 X.2.1 h11 hb (Nat.not_le.mpr h9) I.2.2.2.1 ho hd h2
      · cases h
    · cases h
  · cases h
theorem lpW_Str (X : lp_Cx p R s m args meth c base K0 mo D dA sv b0 L0 xs r) (hd : decode (lp_b mo) pc = .ok (.baload, 1)) (hnx : ∀ ls stk st, nx ls stk st = some r → lp_Wt p l e R s m args below meth c Q base K0 mo D dA sv L0 xs (pc + 1) ls stk st)
    (h : lp_xStr nx ls stk st = some r) : lp_Wt p l e R s m args below meth c Q base K0 mo D dA sv L0 xs pc ls stk st := by
  intro lm H locs I
  unfold lp_xStr at h
  split at h
  · next i k rr =>
    split at h
    · next hk =>
      split at h
      · cases h
      · next ho =>
        obtain ⟨adK, adV, hS, hv⟩ := X.2.2.2.2.2.1.2.2.2.1
        have hk2 : k - 100 < 18 := by omega
        have h2 := hnx _ _ _ h lm H locs I
        have e1 : (Value.int i :: Value.retAddr k :: rr).map (lp_rl base sv) = .int i :: .ref (adV (k - 100)) :: rr.map (lp_rl base sv) := by
          show Value.int i :: sv k :: _ = _
          rw [← (hv (k - 100) hk2).2.1, show 100 + (k - 100) = k by omega]
        rw [e1]
        refine va_tb X.1 X.2.1 (hS.1 (k - 100) hk2).2.2.2 I.2.2.2.1 ?_ rfl hd h2
        have e2 : lp_len.getD (k - 100) 0 = (lp_sb.getD (k - 100) []).length := by
          unfold lp_len
          rw [List.getD_eq_getElem?_getD, List.getD_eq_getElem?_getD, List.getElem?_map]
          cases lp_sb[k - 100]? <;> rfl
        rw [e2]
        exact ho
    · cases h
  · cases h
theorem lpW_Len (X : lp_Cx p R s m args meth c base K0 mo D dA sv b0 L0 xs r) (hd : decode (lp_b mo) pc = .ok (.arraylength, 1)) (ha : 19 < a) (hnx : ∀ ls stk st, nx ls stk st = some r → lp_Wt p l e R s m args below meth c Q base K0 mo D dA sv L0 xs (pc + 1) ls stk st)
    (h : lp_xLen a nx ls stk st = some r) : lp_Wt p l e R s m args below meth c Q base K0 mo D dA sv L0 xs pc ls stk st := by
  intro lm H locs I
  unfold lp_xLen at h
  split at h
  · next k rr =>
    split at h
    · next hk =>
      have h2 := hnx _ _ _ h lm H locs I
      obtain ⟨cA, x, ty, t0, e1, e2, e3⟩ := lp_elA (base := base) (dA := dA) (st := st) (k := k) (by rw [hk.1]; exact ha) (Nat.lt_of_lt_of_le hk.2 I.2.2.2.2.1.1)
      exact va_alen X.1 X.2.1 X.2.2.2.2.2.1.1 I.2.2.1 k t0 (by rw [lp_ws_get hk.2, e1]) e2 (by rw [e3]) hd h2
    · cases h
  · next k rr =>
    split at h
    · split at h
      · next hk =>
       split at h
       · next hfl =>
        subst hk
        obtain ⟨h8, h9, h10, h11⟩ := X.2.2.2.2.2.1.2.2.2.2.2.2.1
        have hb : b0 < s.heap.size := by
          obtain ⟨scr, hs, -⟩ := h11
          exact (Array.getElem?_eq_some_iff.mp hs).1
        have h2 := hnx _ _ _ h lm H locs I
        rw [(I.2.2.2.2.1.2 hfl).1] at h2
        have e1 : (Value.retAddr 300 :: rr).map (lp_rl base sv) = .ref b0 :: rr.map (lp_rl base sv) := by
          show sv 300 :: _ = _
          rw [h8]
        rw [e1]
        exact va_slen X.1 X.2.1 h11 hb (Nat.not_le.mpr h9) I.2.2.2.1 hd h2
       · cases h
      · cases h
    · split at h
      · next hk =>
        obtain ⟨adK, adV, hS, hv⟩ := X.2.2.2.2.2.1.2.2.2.1
        have hk2 : k - 100 < 18 := by omega
        have h2 := hnx _ _ _ h lm H locs I
        have e1 : (Value.retAddr k :: rr).map (lp_rl base sv) = .ref (adV (k - 100)) :: rr.map (lp_rl base sv) := by
          show sv k :: _ = _
          rw [← (hv (k - 100) hk2).2.1, show 100 + (k - 100) = k by omega]
        rw [e1]
        refine va_tlen X.1 X.2.1 (hS.1 (k - 100) hk2).2.2.2 I.2.2.2.1 ?_ hd h2
        have e2 : lp_len.getD (k - 100) 0 = (lp_sb.getD (k - 100) []).length := by
          unfold lp_len
          rw [List.getD_eq_getElem?_getD, List.getD_eq_getElem?_getD, List.getElem?_map]
          cases lp_sb[k - 100]? <;> rfl
        rw [e2]
      · cases h
  · cases h
theorem lpW_New (X : lp_Cx p R s m args meth c base K0 mo D dA sv b0 L0 xs r) (hd : decode (lp_b mo) pc = .ok (.new idx, 3)) (ha : a < 11) (hb : b = lp_nf a) (hw : lp_wd q = some (.classLink (lp_cn (lp_ow mo)) idx (lp_cn a))) (hK : ∀ ls stk st, nx ls stk st = some r → st.1 ≤ r.2.1) (hnx : ∀ ls stk st, nx ls stk st = some r → lp_Wt p l e R s m args below meth c Q base K0 mo D dA sv L0 xs (pc + 3) ls stk st)
    (h : lp_xNew a b nx ls stk st = some r) : lp_Wt p l e R s m args below meth c Q base K0 mo D dA sv L0 xs pc ls stk st := by
  intro lm H locs I
  unfold lp_xNew at h
  split at h
  · next hsh =>
    have hle : st.1 + 1 ≤ r.2.1 := hK _ _ _ h
    have hsl : lp_sl (st.1 + 1) = lp_sl st.1 + lp_nf a := by rw [lp_sl_succ, hsh, hb]
    have hmon := lp_sl_mono hle
    have hmon0 := lp_sl_mono I.2.2.2.2.2
    have hR := X.2.2.2.2.2.2.2.2.2.1
    have hR2 := X.2.2.2.2.2.2.2.2.2.2.1
    have hK0 := I.2.2.2.2.2
    refine lp_sized X I (fun hsz => ?_)
    have hKn := X.2.2.2.2.2.1.1.1 a _ (lp_hcl a ha)
    refine W.newcK X.1 X.2.1 X.2.2.2.1 (X.2.2.2.2.1 _ (lp_gt_in hw rfl)) (X.2.2.2.2.1 _ (lp_gt_in (lp_new_ok a ha) rfl)) (X.2.2.2.2.1 _ (lp_ini_in (by omega))) rfl hd (by omega) (by omega) hKn.2.1 hsz fun H1 kC hkC e1 z1 o1 => ?_
    have h1 : lp_Iv s (lp_mx mo) base K0 D dA sv L0 xs lm ls (lp_grow 1 st) H1 locs := by
      refine ⟨I.1, trivial, ?_, ⟨Nat.le_trans I.2.2.2.1.1 (by omega), fun x h1 h2 => (o1 x (by have := I.2.2.2.1.1; omega)).trans (I.2.2.2.1.2.1 x h1 h2), I.2.2.2.1.2.2⟩, lp_Scr_grow I.2.2.2.2.1 (by have := lp_shN (lp_kind_lt hsh (Or.inl ha)); omega), by show K0 ≤ st.1 + 1; omega⟩
      refine lp_P_grow (n := 1) I.2.2.1 (fun q hq => o1 q (by omega)) rfl (fun k hk => lp_el_grow hk) (fun j hj => ?_)
      obtain rfl : j = 0 := by omega
      rw [lp_elO (c := a) (by rw [Nat.add_zero, hsh]) ha]
      refine ⟨_, lp_hcl a ha, ?_⟩
      have h2 := u_born (lp_ty a) X.2.2.2.2.1 (lp_hing a ha) hKn hkC e1 (lp_hty a ha)
      refine h2.to (fun j hj => ?_)
      rw [lp_dflt a ha j hj]
      show _ = (lp_fs base a (lp_grow 1 st) (st.1 + 0)).getD j .null
      rw [List.getD_eq_getElem?_getD, lp_fs_get hj]
      show _ = if lp_isR a j = true then va_rf (lp_on base ((lp_grow 1 st).2.1 st.1 j)) else .int ((lp_grow 1 st).2.2 st.1 j)
      rw [lp_growR (Nat.le_refl _) (by omega), lp_growI (Nat.le_refl _) (by omega)]
      rfl
    have h2 := hnx _ _ _ h lm H1 locs h1
    have e2 : (lp_grow 1 st).1 - K0 = st.1 - K0 + 1 := by show st.1 + 1 - K0 = _; omega
    have e3 : lp_sl (lp_grow 1 st).1 - lp_sl K0 = lp_sl st.1 - lp_sl K0 + lp_nf a := by show lp_sl (st.1 + 1) - _ = _; omega
    rw [e2, e3] at h2
    exact h2
  · cases h
theorem lpW_Na20 (X : lp_Cx p R s m args meth c base K0 mo D dA sv b0 L0 xs r) (hd : decode (lp_b mo) pc = .ok (.newarray .int, 2)) (hK : ∀ ls stk st, nx ls stk st = some r → st.1 ≤ r.2.1) (hnx : ∀ ls stk st, nx ls stk st = some r → lp_Wt p l e R s m args below meth c Q base K0 mo D dA sv L0 xs (pc + 2) ls stk st)
    (h : lp_xNa 20 nx ls stk st = some r) : lp_Wt p l e R s m args below meth c Q base K0 mo D dA sv L0 xs pc ls stk st := by
  intro lm H locs I
  unfold lp_xNa at h
  split at h
  · next n rr =>
    split at h
    · next hsh =>
      have hle : st.1 + 1 ≤ r.2.1 := hK _ _ _ h
      have hsl : lp_sl (st.1 + 1) = lp_sl st.1 + n.toNatClampNeg := by rw [lp_sl_succ, hsh.1]
      have hmon := lp_sl_mono hle
      have hmon0 := lp_sl_mono I.2.2.2.2.2
      have hR := X.2.2.2.2.2.2.2.2.2.1
      have hR2 := X.2.2.2.2.2.2.2.2.2.2.1
      have hK0 := I.2.2.2.2.2
      have hlt : st.1 < 369 := lp_shN (lp_kind_lt hsh.1 (Or.inr (by omega)))
      have hsm : n.toNatClampNeg ≤ 60000 := by
        have := lp_shL st.1 hlt
        rw [hsh.1] at this
        exact this
      refine lp_sized X I (fun hsz => ?_)
      refine va_newaK (atype := .int) X.1 X.2.1 (X.2.2.2.2.1 _ (lp_gt_in (p := 54) (by decide +kernel) rfl)) rfl hd rfl hsh.2 rfl (by show n.toNatClampNeg * 4 ≤ _; omega) (by omega) (by omega) hsz fun H1 cA e1 z1 o1 hAr hNm => ?_
      have ecA : cA = dA 0 := by
        have h3 := (X.2.2.2.2.2.1.1.2 0 _ rfl).2
        exact Option.some.inj (hNm.symm.trans h3)
      have h1 : lp_Iv s (lp_mx mo) base K0 D dA sv L0 xs lm ls (lp_grow 1 st) H1 locs := by
        refine ⟨I.1, trivial, ?_, ⟨Nat.le_trans I.2.2.2.1.1 (by omega), fun x h1 h2 => (o1 x (by have := I.2.2.2.1.1; omega)).trans (I.2.2.2.1.2.1 x h1 h2), I.2.2.2.1.2.2⟩, lp_Scr_grow I.2.2.2.2.1 (by omega), by show K0 ≤ st.1 + 1; omega⟩
        refine lp_P_grow (n := 1) I.2.2.1 (fun q hq => o1 q (by omega)) rfl (fun k hk => lp_el_grow hk) (fun j hj => ?_)
        obtain rfl : j = 0 := by omega
        rw [lp_el20 (by rw [Nat.add_zero, hsh.1])]
        show H1[base + (st.1 + 0)]? = some (vp_cell _ _)
        rw [Nat.add_zero, e1, ecA, vp_cell_i, hsh.1]
        congr 2
        funext x
        rw [lp_growI (Nat.le_refl _) (by omega)]
        rfl
      have h2 := hnx _ _ _ h lm H1 locs h1
      have e2 : (lp_grow 1 st).1 - K0 = st.1 - K0 + 1 := by show st.1 + 1 - K0 = _; omega
      have e3 : lp_sl (lp_grow 1 st).1 - lp_sl K0 = lp_sl st.1 - lp_sl K0 + n.toNatClampNeg := by show lp_sl (st.1 + 1) - _ = _; omega
      rw [e2, e3] at h2
      exact h2
    · cases h
  · cases h
theorem lpW_Na21 (X : lp_Cx p R s m args meth c base K0 mo D dA sv b0 L0 xs r) (hd : decode (lp_b mo) pc = .ok (.newarray .byte, 2)) (hK : ∀ ls stk st, nx ls stk st = some r → st.1 ≤ r.2.1) (hnx : ∀ ls stk st, nx ls stk st = some r → lp_Wt p l e R s m args below meth c Q base K0 mo D dA sv L0 xs (pc + 2) ls stk st)
    (h : lp_xNa 21 nx ls stk st = some r) : lp_Wt p l e R s m args below meth c Q base K0 mo D dA sv L0 xs pc ls stk st := by
  intro lm H locs I
  unfold lp_xNa at h
  split at h
  · next n rr =>
    split at h
    · next hsh =>
      have hle : st.1 + 1 ≤ r.2.1 := hK _ _ _ h
      have hsl : lp_sl (st.1 + 1) = lp_sl st.1 + n.toNatClampNeg := by rw [lp_sl_succ, hsh.1]
      have hmon := lp_sl_mono hle
      have hmon0 := lp_sl_mono I.2.2.2.2.2
      have hR := X.2.2.2.2.2.2.2.2.2.1
      have hR2 := X.2.2.2.2.2.2.2.2.2.2.1
      have hK0 := I.2.2.2.2.2
      have hlt : st.1 < 369 := lp_shN (lp_kind_lt hsh.1 (Or.inr (by omega)))
      have hsm : n.toNatClampNeg ≤ 60000 := by
        have := lp_shL st.1 hlt
        rw [hsh.1] at this
        exact this
      refine lp_sized X I (fun hsz => ?_)
      refine va_newaK (atype := .byte) X.1 X.2.1 (X.2.2.2.2.1 _ (lp_gt_in (p := 129) (by decide +kernel) rfl)) rfl hd rfl hsh.2 rfl (by show n.toNatClampNeg * 1 ≤ _; omega) (by omega) (by omega) hsz fun H1 cA e1 z1 o1 hAr hNm => ?_
      have ecA : cA = dA 1 := by
        have h3 := (X.2.2.2.2.2.1.1.2 1 _ rfl).2
        exact Option.some.inj (hNm.symm.trans h3)
      have h1 : lp_Iv s (lp_mx mo) base K0 D dA sv L0 xs lm ls (lp_grow 1 st) H1 locs := by
        refine ⟨I.1, trivial, ?_, ⟨Nat.le_trans I.2.2.2.1.1 (by omega), fun x h1 h2 => (o1 x (by have := I.2.2.2.1.1; omega)).trans (I.2.2.2.1.2.1 x h1 h2), I.2.2.2.1.2.2⟩, lp_Scr_grow I.2.2.2.2.1 (by omega), by show K0 ≤ st.1 + 1; omega⟩
        refine lp_P_grow (n := 1) I.2.2.1 (fun q hq => o1 q (by omega)) rfl (fun k hk => lp_el_grow hk) (fun j hj => ?_)
        obtain rfl : j = 0 := by omega
        rw [lp_el21 (by rw [Nat.add_zero, hsh.1])]
        show H1[base + (st.1 + 0)]? = some (vp_cell _ _)
        rw [Nat.add_zero, e1, ecA, vp_cell_i, hsh.1]
        congr 2
        funext x
        rw [lp_growI (Nat.le_refl _) (by omega)]
        rfl
      have h2 := hnx _ _ _ h lm H1 locs h1
      have e2 : (lp_grow 1 st).1 - K0 = st.1 - K0 + 1 := by show st.1 + 1 - K0 = _; omega
      have e3 : lp_sl (lp_grow 1 st).1 - lp_sl K0 = lp_sl st.1 - lp_sl K0 + n.toNatClampNeg := by show lp_sl (st.1 + 1) - _ = _; omega
      rw [e2, e3] at h2
      exact h2
    · cases h
  · cases h
theorem lpW_Na22 (X : lp_Cx p R s m args meth c base K0 mo D dA sv b0 L0 xs r) (hd : decode (lp_b mo) pc = .ok (.newarray .boolean, 2)) (hK : ∀ ls stk st, nx ls stk st = some r → st.1 ≤ r.2.1) (hnx : ∀ ls stk st, nx ls stk st = some r → lp_Wt p l e R s m args below meth c Q base K0 mo D dA sv L0 xs (pc + 2) ls stk st)
    (h : lp_xNa 22 nx ls stk st = some r) : lp_Wt p l e R s m args below meth c Q base K0 mo D dA sv L0 xs pc ls stk st := by
  intro lm H locs I
  unfold lp_xNa at h
  split at h
  · next n rr =>
    split at h
    · next hsh =>
      have hle : st.1 + 1 ≤ r.2.1 := hK _ _ _ h
      have hsl : lp_sl (st.1 + 1) = lp_sl st.1 + n.toNatClampNeg := by rw [lp_sl_succ, hsh.1]
      have hmon := lp_sl_mono hle
      have hmon0 := lp_sl_mono I.2.2.2.2.2
      have hR := X.2.2.2.2.2.2.2.2.2.1
      have hR2 := X.2.2.2.2.2.2.2.2.2.2.1
      have hK0 := I.2.2.2.2.2
      have hlt : st.1 < 369 := lp_shN (lp_kind_lt hsh.1 (Or.inr (by omega)))
      have hsm : n.toNatClampNeg ≤ 60000 := by
        have := lp_shL st.1 hlt
        rw [hsh.1] at this
        exact this
      refine lp_sized X I (fun hsz => ?_)
      refine va_newaK (atype := .boolean) X.1 X.2.1 (X.2.2.2.2.1 _ (lp_gt_in (p := 4215) (by decide +kernel) rfl)) rfl hd rfl hsh.2 rfl (by show n.toNatClampNeg * 1 ≤ _; omega) (by omega) (by omega) hsz fun H1 cA e1 z1 o1 hAr hNm => ?_
      have ecA : cA = dA 2 := by
        have h3 := (X.2.2.2.2.2.1.1.2 2 _ rfl).2
        exact Option.some.inj (hNm.symm.trans h3)
      have h1 : lp_Iv s (lp_mx mo) base K0 D dA sv L0 xs lm ls (lp_grow 1 st) H1 locs := by
        refine ⟨I.1, trivial, ?_, ⟨Nat.le_trans I.2.2.2.1.1 (by omega), fun x h1 h2 => (o1 x (by have := I.2.2.2.1.1; omega)).trans (I.2.2.2.1.2.1 x h1 h2), I.2.2.2.1.2.2⟩, lp_Scr_grow I.2.2.2.2.1 (by omega), by show K0 ≤ st.1 + 1; omega⟩
        refine lp_P_grow (n := 1) I.2.2.1 (fun q hq => o1 q (by omega)) rfl (fun k hk => lp_el_grow hk) (fun j hj => ?_)
        obtain rfl : j = 0 := by omega
        rw [lp_el22 (by rw [Nat.add_zero, hsh.1])]
        show H1[base + (st.1 + 0)]? = some (vp_cell _ _)
        rw [Nat.add_zero, e1, ecA, vp_cell_i, hsh.1]
        congr 2
        funext x
        rw [lp_growI (Nat.le_refl _) (by omega)]
        rfl
      have h2 := hnx _ _ _ h lm H1 locs h1
      have e2 : (lp_grow 1 st).1 - K0 = st.1 - K0 + 1 := by show st.1 + 1 - K0 = _; omega
      have e3 : lp_sl (lp_grow 1 st).1 - lp_sl K0 = lp_sl st.1 - lp_sl K0 + n.toNatClampNeg := by show lp_sl (st.1 + 1) - _ = _; omega
      rw [e2, e3] at h2
      exact h2
    · cases h
  · cases h
theorem lpW_Na24 (X : lp_Cx p R s m args meth c base K0 mo D dA sv b0 L0 xs r) (hd : decode (lp_b mo) pc = .ok (.anewarray idx, 3)) (hw : lp_wd q = some (.classLink (lp_cn (lp_ow mo)) idx "LampPresses$Net")) (hK : ∀ ls stk st, nx ls stk st = some r → st.1 ≤ r.2.1) (hnx : ∀ ls stk st, nx ls stk st = some r → lp_Wt p l e R s m args below meth c Q base K0 mo D dA sv L0 xs (pc + 3) ls stk st)
    (h : lp_xNa 24 nx ls stk st = some r) : lp_Wt p l e R s m args below meth c Q base K0 mo D dA sv L0 xs pc ls stk st := by
  intro lm H locs I
  unfold lp_xNa at h
  split at h
  · next n rr =>
    split at h
    · next hsh =>
      have hle : st.1 + 1 ≤ r.2.1 := hK _ _ _ h
      have hsl : lp_sl (st.1 + 1) = lp_sl st.1 + n.toNatClampNeg := by rw [lp_sl_succ, hsh.1]
      have hmon := lp_sl_mono hle
      have hmon0 := lp_sl_mono I.2.2.2.2.2
      have hR := X.2.2.2.2.2.2.2.2.2.1
      have hR2 := X.2.2.2.2.2.2.2.2.2.2.1
      have hK0 := I.2.2.2.2.2
      have hlt : st.1 < 369 := lp_shN (lp_kind_lt hsh.1 (Or.inr (by omega)))
      have hsm : n.toNatClampNeg ≤ 60000 := by
        have := lp_shL st.1 hlt
        rw [hsh.1] at this
        exact this
      refine lp_sized X I (fun hsz => ?_)
      refine W.anew X.1 X.2.1 X.2.2.2.1 (X.2.2.2.2.1 _ (lp_gt_in hw rfl)) (va_AO.use X.2.2.2.2.2.1.2.2.2.2.2.2.2.2.1) rfl hd rfl hsh.2 (by omega) (by omega) (by omega) fun cA kA comp f1 f2 f3 f4 => ?_
      have ecA : cA = dA 4 := by
        obtain ⟨kA', comp', -, -, -, h3⟩ := (X.2.2.2.2.2.1.1.2 4 _ rfl).2
        exact Option.some.inj (f1.symm.trans h3)
      generalize hH1 : H.push ({ cls := cA, slots := Array.replicate n.toNatClampNeg .null, vm := .none } : Cell) = H1
      have z1 : H1.size = H.size + 1 := by rw [← hH1, Array.size_push]
      have e1 : H1[H.size]? = some (arrV cA n.toNatClampNeg (fun _ => .null)) := by rw [← hH1, Array.getElem?_push_size, ← arrV_new]
      have o1 : ∀ q : Nat, q < H.size → H1[q]? = H[q]? := fun q hq => by rw [← hH1, Array.getElem?_push, if_neg (Nat.ne_of_lt hq)]
      have h1 : lp_Iv s (lp_mx mo) base K0 D dA sv L0 xs lm ls (lp_grow 1 st) H1 locs := by
        refine ⟨I.1, trivial, ?_, ⟨Nat.le_trans I.2.2.2.1.1 (by omega), fun x h1 h2 => (o1 x (by have := I.2.2.2.1.1; omega)).trans (I.2.2.2.1.2.1 x h1 h2), I.2.2.2.1.2.2⟩, lp_Scr_grow I.2.2.2.2.1 (by omega), by show K0 ≤ st.1 + 1; omega⟩
        refine lp_P_grow (n := 1) I.2.2.1 (fun q hq => o1 q (by omega)) rfl (fun k hk => lp_el_grow hk) (fun j hj => ?_)
        obtain rfl : j = 0 := by omega
        rw [lp_el24 (by rw [Nat.add_zero, hsh.1])]
        show H1[base + (st.1 + 0)]? = some (vp_cell _ _)
        rw [Nat.add_zero, ← hsz, e1, ecA, vp_cell_q, hsh.1]
        congr 2
        funext x
        rw [lp_growR (Nat.le_refl _) (by omega)]
        rfl
      have h2 := hnx _ _ _ h lm H1 locs h1
      have e2 : (lp_grow 1 st).1 - K0 = st.1 - K0 + 1 := by show st.1 + 1 - K0 = _; omega
      have e3 : lp_sl (lp_grow 1 st).1 - lp_sl K0 = lp_sl st.1 - lp_sl K0 + n.toNatClampNeg := by show lp_sl (st.1 + 1) - _ = _; omega
      rw [e2, e3] at h2
      have e4 : (Value.ref st.1 :: rr).map (lp_rl base sv) = .ref H.size :: rr.map (lp_rl base sv) := by
        show Value.ref (base + st.1) :: _ = _
        rw [hsz]
      rw [e4] at h2
      exact h2
    · cases h
  · cases h
end lpW
end
section
/-! ===== stores of references, copies, calls, ends (printed by wip/whole/mkrows2.py) ===== -/
theorem lp_arrV_congr (cA : ClassId) {N : Nat} {f g : Nat → Value} (h : ∀ j, j < N → f j = g j) : arrV cA N f = arrV cA N g := by
  unfold arrV
  congr 1
  apply Array.ext
  · simp
  · intro i h1 h2
    simp only [Array.getElem_ofFn]
    exact h i (by simpa using h1)
theorem lp_outer (cA : ClassId) (N h0 : Nat) : ∀ i, Jvm.Free.Multi.outerC cA N h0 i = arrV cA N (fun j => if j < i then .ref (h0 + 1 + j) else .null)
  | 0 => by
    show ({ cls := cA, slots := Array.replicate N .null, vm := .none } : Cell) = _
    rw [arrV_new]
    exact lp_arrV_congr _ (fun j _ => by simp)
  | i + 1 => by
    show (Jvm.Free.Multi.outerC cA N h0 i).setSlot i (.ref (h0 + 1 + i)) = _
    rw [lp_outer cA N h0 i, arrV_store]
    refine lp_arrV_congr _ (fun j _ => ?_)
    by_cases e : j = i
    · subst e
      simp [updV]
    · by_cases h : j < i
      · simp [updV, e, h, Nat.lt_succ_of_lt h]
      · simp [updV, e, h, show ¬ j < i + 1 by omega]
section lpW
variable {p : Program} {l : Launch} {e : Env} {R : Room} {s : State} {m : MethodId} {args : Array Value} {below : List Frame} {meth : Method} {c : Code} {Q : State → Prop}
variable {base K0 mo : Nat} {D : va_G} {dA : Nat → ClassId} {sv : Nat → Value} {b0 L0 : Nat} {xs : Nat → Int32} {r : Int32 × lp_S}
variable {nx : lp_K} {jp : Nat → lp_K} {pc pc' a b idx q : Nat} {ls stk : List Value} {st : lp_S} {cv : Int32}
theorem lpW_Aas24 (X : lp_Cx p R s m args meth c base K0 mo D dA sv b0 L0 xs r) (hd : decode (lp_b mo) pc = .ok (.aastore, 1)) (hnx : ∀ ls stk st, nx ls stk st = some r → lp_Wt p l e R s m args below meth c Q base K0 mo D dA sv L0 xs (pc + 1) ls stk st)
    (h : lp_xAas 24 nx ls stk st = some r) : lp_Wt p l e R s m args below meth c Q base K0 mo D dA sv L0 xs pc ls stk st := by
  intro lm H locs I
  unfold lp_xAas at h
  split at h
  · next v i k rr =>
    split at h
    · next hk =>
      obtain ⟨hk, hv⟩ := hk
      split at h
      · cases h
      · next ho =>
        refine va_astq X.1 X.2.1 X.2.2.2.2.2.1.1 I.2.2.1 lp_ws_D I.2.2.2.1 k 4 v 3 (r := (lp_cn 3, lp_T 3, lp_nf 3)) (by rw [lp_ws_get hk.2, lp_el24 hk.1]) rfl (by rw [lp_ws_get hv.2, lp_elO hv.1 (by omega)]) (lp_hcl 3 (by omega)) ho hd (fun H1 locs1 hP1 hD1 hS1 => ?_)
        have e1 : (lp_ws base dA st).set k (base + k, .inl (dA 4, (lp_sh k).2, .inr (.inr (.inr (.inr (va_up (fun j => lp_on base (st.2.1 k j)) i.toNatClampNeg (some (base + v)))))))) = lp_ws base dA (st.1, lp_wR st.2.1 k i.toNatClampNeg (.ref v), st.2.2) := by
          have e2 : lp_el base dA (st.1, lp_wR st.2.1 k i.toNatClampNeg (.ref v), st.2.2) k = .inl (dA 4, (lp_sh k).2, .inr (.inr (.inr (.inr (va_up (fun j => lp_on base (st.2.1 k j)) i.toNatClampNeg (some (base + v))))))) := by
            rw [lp_el24 hk.1]
            refine congrArg (fun f => (Sum.inl (dA 4, (lp_sh k).2, Sum.inr (Sum.inr (Sum.inr (Sum.inr f)))) : va_E)) (funext fun j => ?_)
            show lp_on base (lp_u st.2.1 k _ k j) = _
            rw [lp_u_eq]
            unfold va_up
            by_cases e : j = i.toNatClampNeg
            · rw [if_pos e, if_pos e]; rfl
            · rw [if_neg e, if_neg e]
          rw [← e2]
          exact lp_ws_set (st' := (st.1, lp_wR st.2.1 k i.toNatClampNeg (.ref v), st.2.2)) hk.2 rfl (fun q hq => lp_el_wR hq)
        rw [e1] at hP1
        exact hnx ls rr _ h lm H1 locs1 ⟨I.1, trivial, hP1, hS1, I.2.2.2.2.1, I.2.2.2.2.2⟩
    · cases h
  · cases h
theorem lpW_Mna (X : lp_Cx p R s m args meth c base K0 mo D dA sv b0 L0 xs r) (hd : decode (lp_b mo) pc = .ok (.multianewarray idx 2, 4)) (hw : lp_wd q = some (.classLink (lp_cn (lp_ow mo)) idx "[[I")) (hK : ∀ ls stk st, nx ls stk st = some r → st.1 ≤ r.2.1) (hnx : ∀ ls stk st, nx ls stk st = some r → lp_Wt p l e R s m args below meth c Q base K0 mo D dA sv L0 xs (pc + 4) ls stk st)
    (h : lp_xMna nx ls stk st = some r) : lp_Wt p l e R s m args below meth c Q base K0 mo D dA sv L0 xs pc ls stk st := by
  intro lm H locs I
  unfold lp_xMna at h
  split at h
  · next k n rr =>
    split at h
    · next hsh =>
      obtain ⟨rfl, rfl, hs0, hsj⟩ := hsh
      have hle : st.1 + 11 ≤ r.2.1 := hK _ _ _ h
      have hslot : lp_sl (st.1 + 11) = lp_sl st.1 + 110 := by
        have e : ∀ j, j < 10 → (lp_sh (st.1 + 1 + j)).2 = 10 := fun j hj => by rw [hsj j hj]
        have e0 : (lp_sh st.1).2 = 10 := by rw [hs0]
        have h0 := e 0 (by omega); have h1 := e 1 (by omega); have h2 := e 2 (by omega); have h3 := e 3 (by omega); have h4 := e 4 (by omega)
        have h5 := e 5 (by omega); have h6 := e 6 (by omega); have h7 := e 7 (by omega); have h8 := e 8 (by omega); have h9 := e 9 (by omega)
        rw [show st.1 + 11 = st.1 + 1 + 9 + 1 from rfl, lp_sl_succ, show st.1 + 1 + 9 = st.1 + 1 + 8 + 1 from rfl, lp_sl_succ, show st.1 + 1 + 8 = st.1 + 1 + 7 + 1 from rfl, lp_sl_succ, show st.1 + 1 + 7 = st.1 + 1 + 6 + 1 from rfl, lp_sl_succ, show st.1 + 1 + 6 = st.1 + 1 + 5 + 1 from rfl, lp_sl_succ, show st.1 + 1 + 5 = st.1 + 1 + 4 + 1 from rfl, lp_sl_succ, show st.1 + 1 + 4 = st.1 + 1 + 3 + 1 from rfl, lp_sl_succ, show st.1 + 1 + 3 = st.1 + 1 + 2 + 1 from rfl, lp_sl_succ, show st.1 + 1 + 2 = st.1 + 1 + 1 + 1 from rfl, lp_sl_succ, lp_sl_succ, lp_sl_succ]
        simp only [Nat.add_assoc, Nat.reduceAdd, Nat.add_zero] at *
        omega
      have hmon := lp_sl_mono hle
      have hmon0 := lp_sl_mono I.2.2.2.2.2
      have hR := X.2.2.2.2.2.2.2.2.2.1
      have hR2 := X.2.2.2.2.2.2.2.2.2.2.1
      have hK0 := I.2.2.2.2.2
      have hlt : st.1 + 1 + 9 < 369 := lp_shN (lp_kind_lt (hsj 9 (by omega)) (Or.inr (by omega)))
      refine lp_sized X I (fun hsz => ?_)
      intro T hT Xs
      obtain ⟨vm₁, cA, comp, -, fA, fC, hO, hI, X', step⟩ := Xs.multianewarray2F (ty := .int) X.1 X.2.2.2.1 (X.2.2.2.2.1 _ (lp_gt_in hw rfl)) X.2.2.2.2.2.1.2.2.2.2.2.2.2.2.2 (X.2.2.2.2.1 _ (lp_gt_in (p := 54) (by decide +kernel) rfl)) (g := F0 m pc lm (.int 10 :: .int 10 :: rr.map (lp_rl base sv))) rfl (by rw [X.2.1]; exact hd) rfl (by decide) (by decide) (by decide) (by decide) (by decide) rfl rfl (by show st.1 - K0 + 11 ≤ R.cells; omega) (by show lp_sl st.1 - lp_sl K0 + 110 ≤ R.slots; omega)
      have ecA : cA = dA 3 := Option.some.inj (fA.symm.trans (X.2.2.2.2.2.1.1.2 3 _ rfl).2)
      have ecC : comp = dA 0 := Option.some.inj (fC.symm.trans (X.2.2.2.2.2.1.1.2 0 _ rfl).2)
      have hn10 : (10 : Int32).toNatClampNeg = 10 := by decide
      rw [hn10] at X' step
      generalize hF : Jvm.Free.Multi.fill (T.setVm vm₁) cA comp 10 10 (defaultValue .int) 10 = F at X' step
      have hTh : (T.setVm vm₁).heap = H := hT
      obtain ⟨f1, f2, -, -⟩ := Jvm.Free.Multi.fill_facts (T.setVm vm₁) cA comp 10 10 (defaultValue .int) 10
      rw [hF, hTh] at f1 f2
      have hold : ∀ x : Nat, x < H.size → F.heap[x]? = H[x]? := fun x hx => by
        have := Jvm.Free.Multi.fill_old (T.setVm vm₁) cA comp 10 10 (defaultValue .int) (a := x) (by rw [hTh]; exact hx) 10
        rw [hF, hTh] at this
        exact this
      have hrow : ∀ j : Nat, j < 10 → F.heap[H.size + 1 + j]? = some (Jvm.Free.Multi.innerC comp 10 (defaultValue .int)) := fun j hj => by
        have := Jvm.Free.Multi.fill_inner (T.setVm vm₁) cA comp 10 10 (defaultValue .int) 10 j hj
        rw [hF, hTh] at this
        exact this
      have h1 : lp_Iv s (lp_mx mo) base K0 D dA sv L0 xs lm ls ((lp_grow 11 st).1, lp_u (lp_grow 11 st).2.1 st.1 (fun j => .ref (st.1 + 1 + j)), (lp_grow 11 st).2.2) F.heap locs := by
        refine ⟨I.1, trivial, ?_, ⟨Nat.le_trans I.2.2.2.1.1 (by omega), fun x h1 h2 => (hold x (by have := I.2.2.2.1.1; omega)).trans (I.2.2.2.1.2.1 x h1 h2), I.2.2.2.1.2.2⟩, lp_Scr_R (lp_Scr_grow (n := 11) I.2.2.2.2.1 (by omega)) _, by show K0 ≤ st.1 + 11; omega⟩
        refine lp_P_grow (n := 11) I.2.2.1 hold rfl (fun k hk => ?_) (fun j hj => ?_)
        · exact (lp_el_wR (st := lp_grow 11 st) (by omega)).trans (lp_el_grow hk)
        · cases j with
          | zero =>
            rw [lp_el23 (by rw [Nat.add_zero, hs0])]
            show F.heap[base + (st.1 + 0)]? = some (vp_cell _ _)
            rw [Nat.add_zero, ← hsz, f2, vp_cell_q, hs0, lp_outer, ecA]
            refine congrArg some (lp_arrV_congr _ (fun j hj => ?_))
            show _ = va_rf (lp_on base (lp_u (lp_grow 11 st).2.1 st.1 (fun j => .ref (st.1 + 1 + j)) st.1 j))
            rw [lp_u_eq, if_pos hj]
            show Value.ref _ = Value.ref _
            rw [hsz, Nat.add_assoc, Nat.add_assoc, Nat.add_assoc]
          | succ j =>
            have e : st.1 + (j + 1) = st.1 + 1 + j := by omega
            rw [e, lp_el_wR (st := lp_grow 11 st) (by omega), lp_el20 (by rw [hsj j (by omega)])]
            show F.heap[base + (st.1 + 1 + j)]? = some (vp_cell _ _)
            rw [show base + (st.1 + 1 + j) = H.size + 1 + j by omega, hrow j (by omega), hsj j (by omega), vp_cell_i, ecC]
            show some ({ cls := dA 0, slots := Array.replicate 10 (defaultValue .int), vm := .none } : Cell) = _
            rw [arrV_new]
            refine congrArg (fun f => some (arrV (dA 0) 10 f)) (funext fun j' => ?_)
            rw [lp_growI (by omega) (by omega)]
            rfl
      have h2 := hnx _ _ _ h lm F.heap locs h1
      have e2 : ((lp_grow 11 st).1, lp_u (lp_grow 11 st).2.1 st.1 (fun j => Value.ref (st.1 + 1 + j)), (lp_grow 11 st).2.2).1 - K0 = st.1 - K0 + 1 + 10 := by show st.1 + 11 - K0 = _; omega
      have e3 : lp_sl ((lp_grow 11 st).1, lp_u (lp_grow 11 st).2.1 st.1 (fun j => Value.ref (st.1 + 1 + j)), (lp_grow 11 st).2.2).1 - lp_sl K0 = lp_sl st.1 - lp_sl K0 + 10 + 10 * 10 := by show lp_sl (st.1 + 11) - _ = _; omega
      rw [e2, e3] at h2
      obtain ⟨t, a1, b1⟩ := h2 F rfl X'
      refine ⟨t, step t ?_, b1⟩
      have e4 : T.heap.size = base + st.1 := by rw [hT]; exact hsz
      rw [e4]
      exact a1
    · cases h
  · cases h
theorem lpW_Obj (X : lp_Cx p R s m args meth c base K0 mo D dA sv b0 L0 xs r) (hd : decode (lp_b mo) pc = .ok (.invokespecial idx, 3)) (hw : lp_wd q = some (.methodLink (lp_cn (lp_ow mo)) idx Lib.objectInit)) (hnx : ∀ ls stk st, nx ls stk st = some r → lp_Wt p l e R s m args below meth c Q base K0 mo D dA sv L0 xs (pc + 3) ls stk st)
    (h : lp_xObj nx ls stk st = some r) : lp_Wt p l e R s m args below meth c Q base K0 mo D dA sv L0 xs pc ls stk st := by
  intro lm H locs I
  unfold lp_xObj at h
  split at h
  · next k =>
    exact W.objInit X.1 X.2.1 X.2.2.2.1 (X.2.2.2.2.1 _ (lp_gt_in hw rfl)) (X.2.2.2.2.1 _ (lp_gt_in (p := 26) rfl rfl)) (X.2.2.2.2.1 _ (lp_gt_in (p := 27) rfl rfl)) rfl (I.1.1.trans X.2.2.1.symm) (rest := []) rfl hd (by have := X.2.2.2.2.2.2.2.2.1; omega) (by have := X.2.2.2.2.2.2.2.1; show 2 * 0 + 0 + 12 ≤ _; omega) (hnx ls [] st h lm H locs I)
  · cases h
theorem lpW_Cpy (X : lp_Cx p R s m args meth c base K0 mo D dA sv b0 L0 xs r) (hd : decode (lp_b mo) pc = .ok (.invokestatic idx, 3)) (hw : lp_wd q = some (.methodLink (lp_cn (lp_ow mo)) idx arraycopyName)) (hnx : ∀ ls stk st, nx ls stk st = some r → lp_Wt p l e R s m args below meth c Q base K0 mo D dA sv L0 xs (pc + 3) ls stk st)
    (h : lp_xCpy nx ls stk st = some r) : lp_Wt p l e R s m args below meth c Q base K0 mo D dA sv L0 xs pc ls stk st := by
  intro lm H locs I
  unfold lp_xCpy at h
  split at h
  · next n dp d sp k =>
    split at h
    · next hk =>
      obtain ⟨hk, hdd⟩ := hk
      split at h
      · cases h
      · next ho =>
        have o1 : ¬ sp < 0 := fun q => ho (Or.inl (Or.inl q))
        have o2 : ¬ dp < 0 := fun q => ho (Or.inl (Or.inr (Or.inl q)))
        have o3 : ¬ n < 0 := fun q => ho (Or.inl (Or.inr (Or.inr q)))
        have o4 : sp.toNatClampNeg + n.toNatClampNeg ≤ (lp_sh k).2 := Nat.not_lt.mp fun q => ho (Or.inr (Or.inl q))
        have o5 : dp.toNatClampNeg + n.toNatClampNeg ≤ (lp_sh d).2 := Nat.not_lt.mp fun q => ho (Or.inr (Or.inr q))
        have h7 : nativeFrameWords "java/lang/System" "arraycopy" 5 + 11 ≤ 200 := by decide +kernel
        have h8 := X.2.2.2.2.2.2.2.1
        have h9 : (([] : List Value).map fun v => v.category).sum + (nativeFrameWords "java/lang/System" "arraycopy" 5 + 11) ≤ R.locals := by
          show 0 + (nativeFrameWords "java/lang/System" "arraycopy" 5 + 11) ≤ R.locals
          omega
        refine va_copyi X.1 X.2.1 (X.2.2.1.trans I.1.1.symm) X.2.2.2.1 (X.2.2.2.2.1 _ (lp_gt_in hw rfl)) (X.2.2.2.2.1 _ (lp_gt_in (p := 2013) rfl rfl)) (X.2.2.2.2.1 _ (lp_gt_in (p := 2012) rfl rfl)) (X.2.2.2.2.1 _ (lp_gt_in (p := 17) rfl rfl)) X.2.2.2.2.2.1.1 I.2.2.1 lp_ws_D I.2.2.2.1 k d 0 0 (ty := .int) (by rw [lp_ws_get hk.2, lp_el20 hk.1]) (by rw [lp_ws_get hdd.2, lp_el20 hdd.1]) rfl rfl rfl o1 o2 o3 o4 o5 (fun i _ => rfl) (by have := X.2.2.2.2.2.2.2.2.1; omega) (rest := []) h9 hd (fun H1 locs1 hP1 hD1 hS1 => ?_)
        have e1 : (lp_ws base dA st).set d (base + d, .inl (dA 0, (lp_sh d).2, .inl (va_cpy (st.2.2 k) (st.2.2 d) sp.toNatClampNeg dp.toNatClampNeg n.toNatClampNeg))) = lp_ws base dA (st.1, st.2.1, lp_u st.2.2 d (va_cpy (st.2.2 k) (st.2.2 d) sp.toNatClampNeg dp.toNatClampNeg n.toNatClampNeg)) := by
          have e2 : lp_el base dA (st.1, st.2.1, lp_u st.2.2 d (va_cpy (st.2.2 k) (st.2.2 d) sp.toNatClampNeg dp.toNatClampNeg n.toNatClampNeg)) d = .inl (dA 0, (lp_sh d).2, .inl (va_cpy (st.2.2 k) (st.2.2 d) sp.toNatClampNeg dp.toNatClampNeg n.toNatClampNeg)) := by
            rw [lp_el20 hdd.1]
            exact congrArg (fun f => (Sum.inl (dA 0, (lp_sh d).2, Sum.inl f) : va_E)) (lp_u_eq _ _ _)
          rw [← e2]
          exact lp_ws_set (st' := (st.1, st.2.1, lp_u st.2.2 d (va_cpy (st.2.2 k) (st.2.2 d) sp.toNatClampNeg dp.toNatClampNeg n.toNatClampNeg))) hdd.2 rfl (fun q hq => lp_el_w hq)
        rw [e1] at hP1
        exact hnx ls [] _ h lm H1 locs1 ⟨I.1, trivial, hP1, hS1, lp_Scr_w I.2.2.2.2.1 hdd.2 _, I.2.2.2.2.2⟩
    · cases h
  · cases h
theorem lp_shK : ∀ k, k < 369 → (lp_sh k).1 < 11 ∨ 20 ≤ (lp_sh k).1 := by decide +kernel
/-- behind a call -/
theorem lpW_after {H : Heap} {locs : List Loc} {lm : Array Slot} {rest st0 : List Value} {aa : Array Value} {x : Int32 × lp_S} {fl : Bool}
    (hrun : va_Run p l e R s m args below meth c H locs (st.1 - K0) (lp_sl st.1 - lp_sl K0) (x.2.1 - st.1) (lp_sl x.2.1 - lp_sl st.1) (F0 m pc lm st0) (rest.map (lp_rl base sv)) (lp_Qc base D dA L0 xs (lp_rt a) x aa) (lp_A base))
    (hx : st.1 ≤ x.2.1) (I : lp_Iv s (lp_mx mo) base K0 D dA sv L0 xs lm ls st H locs) (hq : fl = (lp_rt a).isSome)
    (hb : lp_Wt p l e R s m args below meth c Q base K0 mo D dA sv L0 xs (pc + 3) ls (bif fl then .int x.1 :: rest else rest) x.2) : W p l e R s m args below meth c H locs (st.1 - K0) (lp_sl st.1 - lp_sl K0) Q (F0 m pc lm st0) := by
  have hK0 := I.2.2.2.2.2
  have hm0 := lp_sl_mono hK0
  have hm1 := lp_sl_mono hx
  have e2 : st.1 - K0 + (x.2.1 - st.1) = x.2.1 - K0 := by omega
  have e3 : lp_sl st.1 - lp_sl K0 + (lp_sl x.2.1 - lp_sl st.1) = lp_sl x.2.1 - lp_sl K0 := by omega
  cases hrt : lp_rt a with
  | none =>
    rw [hrt] at hrun hq
    subst hq
    refine va_callv (a := aa) hrun I.2.2.2.1 (fun _ _ h => h) (fun _ h => h) (fun u t H1 locs1 ht hvm hw hB hz hk hS1 => ?_)
    have h2 := hb lm H1 locs1 ⟨I.1, trivial, by rw [← ht]; exact hB, hS1, hw, by omega⟩
    rw [e2, e3]
    exact h2
  | some ty =>
    rw [hrt] at hrun hq
    subst hq
    refine va_calli (a := aa) hrun I.2.2.2.1 (fun _ _ h => h) (fun _ h => h) (fun y u t H1 locs1 ht hvm hw hB hz hk hS1 => ?_)
    have h2 := hb lm H1 locs1 ⟨I.1, trivial, by rw [← ht]; exact hB, hS1, hw.2, by omega⟩
    rw [e2, e3, hw.1]
    exact h2
theorem lp_cat {stk : List Value} (hsv : ∀ k, (sv k).category = 1) (h : stk.all lp_good = true) : ((stk.map (lp_rl base sv)).map fun v => v.category).sum = stk.length := by
  induction stk with
  | nil => rfl
  | cons v stk ih =>
    rw [List.all_cons, Bool.and_eq_true] at h
    rw [List.map_cons, List.map_cons, List.sum_cons, ih h.2, List.length_cons]
    have : (lp_rl base sv v).category = 1 := by
      cases v <;> first | rfl | exact hsv _ | (cases h.1)
    omega
theorem lp_all_drop {stk : List Value} (h : stk.all lp_good = true) (b : Nat) : (stk.drop b).all lp_good = true := by
  rw [List.all_eq_true] at h ⊢
  exact fun x hx => h x (List.mem_of_mem_drop hx)
theorem lp_nth_take {stk : List Value} {b : Nat} {v : Value} (hb : 1 ≤ b) (hl : b ≤ stk.length) (h : lp_nth stk (b - 1) = v) : stk.take b = stk.take (b - 1) ++ [v] := by
  induction stk generalizing b with
  | nil => simp at hl; omega
  | cons u stk ih =>
    cases b with
    | zero => omega
    | succ b =>
      cases b with
      | zero =>
        simp only [Nat.zero_add, Nat.sub_self] at h
        have h : u = v := h
        simp [h]
      | succ b =>
        have h : lp_nth stk b = v := h
        have hl' : b + 1 ≤ stk.length := by simp at hl; omega
        have h1 := ih (b := b + 1) (by omega) hl' h
        show u :: stk.take (b + 1) = u :: (stk.take (b + 1 - 1)) ++ [v]
        rw [h1]
        rfl
/-- a method's start, where it is called -/
theorem lp_Pc_at {as : List Value} {H : Heap} {locs : List Loc} {lm : Array Slot} (X : lp_Cx p R s m args meth c base K0 mo D dA sv b0 L0 xs r) (I : lp_Iv s (lp_mx mo) base K0 D dA sv L0 xs lm ls st H locs) (hsz : H.size = base + st.1) :
    FrameBlind (lp_Pc base D dA sv b0 L0 xs as st) ∧ ∀ U : State, U.heap = H → s.WarmedH U.vm → lp_Pc base D dA sv b0 L0 xs as st (as.map (lp_rl base sv)).toArray U := by
  refine ⟨fun a U g mk h => ?_, fun U hU hW => ?_⟩
  · obtain ⟨h1, h2, h3, h4, h5⟩ := h
    exact ⟨h1, h2, h3, h4.blind, h5⟩
  · exact ⟨rfl, by rw [hU]; exact hsz, by rw [hU]; exact I.2.2.1, X.2.2.2.2.2.1.call I.2.2.2.1 hU hW, I.2.2.2.2.1⟩
theorem lp_y_ok {a : Nat} (ha : a < 293) : ((lp_y a).cls ≠ "java/lang/invoke/MethodHandle" ∧ (lp_y a).cls ≠ "java/lang/invoke/VarHandle") ∧ lp_mx a < 40 := by
  have h := List.all_eq_true.mp lp_okA_ok a (List.mem_range.mpr ha)
  rw [Bool.and_eq_true] at h
  exact ⟨of_decide_eq_true h.1, Nat.le_of_ble_eq_true h.2⟩
theorem lp_nar_ok {a b o : Nat} (h : lp_nar a b o = true) : ∃ n, b = n + o ∧ (parseMethodDescriptor (lp_y a).desc).map (fun d => d.parameters.length) = some n := by
  have h := of_decide_eq_true h
  cases hq : parseMethodDescriptor (lp_nd a).2 with
  | none => rw [hq] at h; cases h
  | some s =>
    rw [hq] at h
    refine ⟨s.parameters.length, (Option.some.inj h).symm, ?_⟩
    show (parseMethodDescriptor (lp_nd a).2).map _ = _
    rw [hq]
    rfl
theorem lp_ow_lt : ∀ m, m < 294 → lp_ow m < 20 := by decide +kernel
theorem lp_cok_ok {stk : List Value} {b : Nat} (h : lp_cok stk b = true) : b ≤ stk.length ∧ stk.length - b ≤ 8 ∧ stk.all lp_good = true := by
  unfold lp_cok at h
  rw [Bool.and_eq_true, Bool.and_eq_true] at h
  exact ⟨Nat.le_of_ble_eq_true h.1, Nat.le_of_ble_eq_true h.2.1, h.2.2⟩
theorem lp_rest_ok {stk : List Value} {b : Nat} (X : lp_Cx p R s m args meth c base K0 mo D dA sv b0 L0 xs r) (h : lp_cok stk b = true) : (((stk.drop b).map (lp_rl base sv)).map fun v => v.category).sum ≤ 8 := by
  obtain ⟨h1, h2, h3⟩ := lp_cok_ok h
  rw [lp_cat X.2.2.2.2.2.1.2.2.1 (lp_all_drop h3 b), List.length_drop]
  exact h2
theorem lp_fitR {x : Int32 × lp_S} {H : Heap} {locs : List Loc} {lm : Array Slot} (X : lp_Cx p R s m args meth c base K0 mo D dA sv b0 L0 xs r) (I : lp_Iv s (lp_mx mo) base K0 D dA sv L0 xs lm ls st H locs) (h1 : st.1 ≤ x.2.1) (h2 : x.2.1 ≤ r.2.1) : st.1 - K0 + (x.2.1 - st.1) ≤ R.cells ∧ lp_sl st.1 - lp_sl K0 + (lp_sl x.2.1 - lp_sl st.1) ≤ R.slots := by
  have hK0 := I.2.2.2.2.2
  have hm0 := lp_sl_mono hK0
  have hm1 := lp_sl_mono h1
  have hm2 := lp_sl_mono h2
  have hR := X.2.2.2.2.2.2.2.2.2.1
  have hR2 := X.2.2.2.2.2.2.2.2.2.2.1
  omega
/-- a call, its receiver and arguments off the stack -/
theorem lpW_split {b n : Nat} {v : Value} (hb : b = n + 1) (hc : b ≤ stk.length) (hv : lp_nth stk (b - 1) = v) :
    (stk.take b).reverse = v :: (stk.take n).reverse ∧ stk.map (lp_rl base sv) = (((stk.take n).reverse.map (lp_rl base sv)).reverse ++ lp_rl base sv v :: (stk.drop b).map (lp_rl base sv)) ∧ ((stk.take n).reverse.map (lp_rl base sv)).length = n := by
  have h1 := lp_nth_take (by omega) hc hv
  have hb1 : b - 1 = n := by omega
  rw [hb1] at h1
  refine ⟨by rw [h1, List.reverse_append]; rfl, ?_, by simp; omega⟩
  have h2 : stk = stk.take b ++ stk.drop b := (List.take_append_drop b stk).symm
  rw [h1] at h2
  calc stk.map (lp_rl base sv) = ((stk.take n ++ [v]) ++ stk.drop b).map (lp_rl base sv) := by rw [← h2]
    _ = _ := by simp
theorem lpW_CalV {t d : Nat} {cl : Nat → List Value → lp_S → List Value → List Value → Bool → lp_O} (X : lp_Cx p R s m args meth c base K0 mo D dA sv b0 L0 xs r) (hd : decode (lp_b mo) pc = .ok (.invokevirtual idx, 3)) (ha : a < 293) (hkd : lp_kd a = 0 ∨ lp_kd a = 4)
    (hw : lp_wd q = some (.methodLink (lp_cn (lp_ow mo)) idx (lp_y a))) (ht : Nat.beq t 1 = (lp_rt a).isSome) (hn : lp_nar a b 1 = true) (hR : d + 3 ≤ R.frames ∧ 100 * d + 300 ≤ R.locals)
    (hcl : ∀ as st ls rest fl, cl a as st ls rest fl = some r → ∃ x : Int32 × lp_S, st.1 ≤ x.2.1 ∧ x.2.1 ≤ r.2.1 ∧ lp_Met l base D dA sv b0 L0 xs d a as st x ∧ lp_Wt p l e R s m args below meth c Q base K0 mo D dA sv L0 xs (pc + 3) ls (bif fl then .int x.1 :: rest else rest) x.2)
    (h : lp_xCalV a b t cl ls stk st = some r) : lp_Wt p l e R s m args below meth c Q base K0 mo D dA sv L0 xs pc ls stk st := by
  intro lm H locs I
  unfold lp_xCalV at h
  cases hc : lp_cok stk b with
  | false => rw [hc] at h; cases h
  | true =>
    rw [hc] at h
    simp only [cond_true] at h
    obtain ⟨n, hb, hd2⟩ := lp_nar_ok hn
    obtain ⟨hl, -, -⟩ := lp_cok_ok hc
    obtain ⟨hy, hmx⟩ := lp_y_ok ha
    have hinst : Cond.instanceMethod (lp_y a) ∈ lp_gt := by
      have h1 := lp_mth_ok a ha
      rw [if_neg (by rcases hkd with e | e <;> rw [e] <;> decide)] at h1
      exact lp_gt_in h1 rfl
    have core : ∀ (v : Value) (bb : Nat), lp_nth stk (b - 1) = v → lp_rl base sv v = .ref bb → (∃ cell : Cell, H[bb]? = some cell ∧ cell.vm.isStatics = false ∧ s.vm.findClass (lp_y a).cls = some cell.cls) → cl a (stk.take b).reverse st ls (stk.drop b) (Nat.beq t 1) = some r →
        W p l e R s m args below meth c H locs (st.1 - K0) (lp_sl st.1 - lp_sl K0) Q (F0 m pc lm (stk.map (lp_rl base sv))) := by
      intro v bb hv hrl hrecv h
      obtain ⟨x, hx1, hx2, hM, hW⟩ := hcl _ _ _ _ _ h
      obtain ⟨s1, s2, s3⟩ := lpW_split (base := base) (sv := sv) hb hl hv
      rw [hrl] at s2
      refine lp_sized X I (fun hsz => ?_)
      have hPc := lp_Pc_at (as := (stk.take b).reverse) X I hsz
      have e1 : ((stk.take b).reverse.map (lp_rl base sv)).toArray = (Value.ref bb :: (stk.take n).reverse.map (lp_rl base sv)).toArray := by rw [s1, List.map_cons, hrl]
      refine lpW_after (a := a) (aa := (Value.ref bb :: (stk.take n).reverse.map (lp_rl base sv)).toArray) (x := x) (rest := stk.drop b) ?_ hx1 I ht hW
      have hPre : PreV s H (lp_y a).cls bb (lp_Pc base D dA sv b0 L0 xs (stk.take b).reverse st) ((stk.take n).reverse.map (lp_rl base sv)) := ⟨hPc.1, hrecv, fun U hU hW => by rw [← e1]; exact hPc.2 U hU hW⟩
      exact va_runV (own := lp_cn (lp_ow mo)) (bytes := lp_b a) (maxL := lp_mx a) (ret := lp_rt a) (index := idx) (As := (stk.take n).reverse.map (lp_rl base sv)) (rest := (stk.drop b).map (lp_rl base sv)) ⟨X.1, X.2.1, X.2.2.1, X.2.2.2.1, X.2.2.2.2.1⟩ hM
        ⟨callB_of n X.2.2.2.2.1 (lp_GoodIn ha) rfl rfl rfl (X.2.2.2.2.1 _ (lp_ini_in (lp_ow_lt a (by omega)))) (X.2.2.2.2.1 _ (lp_gt_in hw rfl)) ⟨hy.1, hy.2, hd2⟩ ⟨by show d + 2 + 1 ≤ _; omega, by show 8 + (lp_mx a + 11) + (100 * d + 200) ≤ _; omega⟩, X.2.2.2.2.1 _ hinst, X.2.2.2.2.1 _ (lp_sel_in ha hkd)⟩
        hPre rfl s3 I.1.1 s2 (lv_room (lp_rest_ok X hc)) hd (lp_fitR X I hx1 hx2)
    split at h
    · next k hk =>
      split at h
      · next hsh =>
        refine core (.ref k) (base + k) hk rfl ?_ h
        have hlt : lp_ow a < 11 := by
          have h1 := lp_sh24 k (Nat.lt_of_lt_of_le hsh.2 I.2.2.2.2.1.1)
          have h2 := lp_ow_lt a (by omega)
          rcases Nat.lt_or_ge (lp_ow a) 11 with z | z
          · exact z
          · exfalso
            have h3 := lp_shK k (Nat.lt_of_lt_of_le hsh.2 I.2.2.2.2.1.1)
            omega
        exact va_recv (q0 := k) X.2.2.2.2.2.1.1 I.2.2.1 (lp_hcl (lp_ow a) hlt) (by rw [lp_ws_get hsh.2, lp_elO hsh.1 hlt])
      · cases h
    · next k hk =>
      split at h
      · next hsh =>
        obtain ⟨adK, adV, hS, hv⟩ := X.2.2.2.2.2.1.2.2.2.1
        refine core (.retAddr k) (adK k) hk (hv k hsh.2).1 ?_ h
        obtain ⟨cell, c1, c2, c3⟩ := vk_recv hS hsh.2 I.2.2.2.1
        refine ⟨cell, c1, c2, ?_⟩
        show s.vm.findClass (lp_cn (lp_ow a)) = _
        rw [hsh.1]
        exact c3
      · cases h
    · cases h
theorem lpW_Max (X : lp_Cx p R s m args meth c base K0 mo D dA sv b0 L0 xs r) (hd : decode (lp_b mo) pc = .ok (.invokestatic idx, 3)) (hw : lp_wd q = some (.methodLink (lp_cn (lp_ow mo)) idx Lib.Math.max.name)) (hK : ∀ ls stk st, nx ls stk st = some r → st.1 ≤ r.2.1) (hnx : ∀ ls stk st, nx ls stk st = some r → lp_Wt p l e R s m args below meth c Q base K0 mo D dA sv L0 xs (pc + 3) ls stk st)
    (h : lp_xMax nx ls stk st = some r) : lp_Wt p l e R s m args below meth c Q base K0 mo D dA sv L0 xs pc ls stk st := by
  intro lm H locs I
  unfold lp_xMax at h
  cases hc : lp_cok stk 2 <;> simp only [hc, cond_true, cond_false] at h
  · cases h
  · unfold lp_x2 at h
    split at h
    · next y x rr =>
      have h8 := X.2.2.2.2.2.2.2.1
      have hrest := lp_rest_ok X hc
      have hrest : ((rr.map (lp_rl base sv)).map fun v => v.category).sum ≤ 8 := hrest
      have hle := hK _ _ _ h
      have hm1 := lp_sl_mono hle
      have hm0 := lp_sl_mono I.2.2.2.2.2
      have hR1 := X.2.2.2.2.2.2.2.2.2.1
      have hR2 := X.2.2.2.2.2.2.2.2.2.2.1
      have hK0 := I.2.2.2.2.2
      exact va_mmax X.1 X.2.1 (X.2.2.1.trans I.1.1.symm) X.2.2.2.1 (X.2.2.2.2.1 _ (lp_gt_in hw rfl)) (X.2.2.2.2.1 _ (lp_gt_in (p := 1041) rfl rfl)) (X.2.2.2.2.1 _ (lp_gt_in (p := 11) rfl rfl)) (X.2.2.2.2.1 _ (lp_gt_in (p := 1042) rfl rfl)) (by have := X.2.2.2.2.2.2.2.2.1; omega) (by omega) (by omega) (by omega) hd (hnx ls _ st h lm H locs I)
    · cases h
theorem lpW_Min (X : lp_Cx p R s m args meth c base K0 mo D dA sv b0 L0 xs r) (hd : decode (lp_b mo) pc = .ok (.invokestatic idx, 3)) (hw : lp_wd q = some (.methodLink (lp_cn (lp_ow mo)) idx Lib.Math.min.name)) (hK : ∀ ls stk st, nx ls stk st = some r → st.1 ≤ r.2.1) (hnx : ∀ ls stk st, nx ls stk st = some r → lp_Wt p l e R s m args below meth c Q base K0 mo D dA sv L0 xs (pc + 3) ls stk st)
    (h : lp_xMin nx ls stk st = some r) : lp_Wt p l e R s m args below meth c Q base K0 mo D dA sv L0 xs pc ls stk st := by
  intro lm H locs I
  unfold lp_xMin at h
  cases hc : lp_cok stk 2 <;> simp only [hc, cond_true, cond_false] at h
  · cases h
  · unfold lp_x2 at h
    split at h
    · next y x rr =>
      have h8 := X.2.2.2.2.2.2.2.1
      have hrest := lp_rest_ok X hc
      have hrest : ((rr.map (lp_rl base sv)).map fun v => v.category).sum ≤ 8 := hrest
      have hle := hK _ _ _ h
      have hm1 := lp_sl_mono hle
      have hm0 := lp_sl_mono I.2.2.2.2.2
      have hR1 := X.2.2.2.2.2.2.2.2.2.1
      have hR2 := X.2.2.2.2.2.2.2.2.2.2.1
      have hK0 := I.2.2.2.2.2
      exact va_mmin X.1 X.2.1 (X.2.2.1.trans I.1.1.symm) X.2.2.2.1 (X.2.2.2.2.1 _ (lp_gt_in hw rfl)) (X.2.2.2.2.1 _ (lp_gt_in (p := 2045) rfl rfl)) (X.2.2.2.2.1 _ (lp_gt_in (p := 11) rfl rfl)) (X.2.2.2.2.1 _ (lp_gt_in (p := 2046) rfl rfl)) (by have := X.2.2.2.2.2.2.2.2.1; omega) (by omega) (by omega) (by omega) hd (hnx ls _ st h lm H locs I)
    · cases h
end lpW
end
section
/-! ===== static calls, constructors, ends; then a whole body, and a run ===== -/
section lpW
variable {p : Program} {l : Launch} {e : Env} {R : Room} {s : State} {m : MethodId} {args : Array Value} {below : List Frame} {meth : Method} {c : Code} {Q : State → Prop}
variable {base K0 mo : Nat} {D : va_G} {dA : Nat → ClassId} {sv : Nat → Value} {b0 L0 : Nat} {xs : Nat → Int32} {r : Int32 × lp_S}
variable {nx : lp_K} {jp : Nat → lp_K} {pc pc' a b idx q : Nat} {ls stk : List Value} {st : lp_S} {cv : Int32}
theorem lpW_CalS {t d : Nat} {cl : Nat → List Value → lp_S → List Value → List Value → Bool → lp_O} (X : lp_Cx p R s m args meth c base K0 mo D dA sv b0 L0 xs r) (hd : decode (lp_b mo) pc = .ok (.invokestatic idx, 3)) (ha : a < 293) (hkd : lp_kd a = 1)
    (hw : lp_wd q = some (.methodLink (lp_cn (lp_ow mo)) idx (lp_y a)) ∨ lp_wd q = some (.methodLinkNest (lp_cn (lp_ow mo)) idx (lp_y a) "LampPresses")) (ht : Nat.beq t 1 = (lp_rt a).isSome) (hn : lp_nar a b 0 = true) (hR : d + 3 ≤ R.frames ∧ 100 * d + 300 ≤ R.locals)
    (hcl : ∀ as st ls rest fl, cl a as st ls rest fl = some r → ∃ x : Int32 × lp_S, st.1 ≤ x.2.1 ∧ x.2.1 ≤ r.2.1 ∧ lp_Met l base D dA sv b0 L0 xs d a as st x ∧ lp_Wt p l e R s m args below meth c Q base K0 mo D dA sv L0 xs (pc + 3) ls (bif fl then .int x.1 :: rest else rest) x.2)
    (h : lp_xCal a b t cl ls stk st = some r) : lp_Wt p l e R s m args below meth c Q base K0 mo D dA sv L0 xs pc ls stk st := by
  intro lm H locs I
  unfold lp_xCal at h
  cases hc : lp_cok stk b with
  | false => rw [hc] at h; cases h
  | true =>
    rw [hc] at h
    simp only [cond_true] at h
    obtain ⟨n, hb, hd2⟩ := lp_nar_ok hn
    rw [Nat.add_zero] at hb
    subst hb
    obtain ⟨hl, -, -⟩ := lp_cok_ok hc
    obtain ⟨hy, hmx⟩ := lp_y_ok ha
    have hstat : Cond.static (lp_y a) ∈ lp_gt := by
      have h1 := lp_mth_ok a ha
      rw [if_pos hkd] at h1
      exact lp_gt_in h1 rfl
    obtain ⟨x, hx1, hx2, hM, hW⟩ := hcl _ _ _ _ _ h
    refine lp_sized X I (fun hsz => ?_)
    have hPc := lp_Pc_at (as := (stk.take b).reverse) X I hsz
    have s2 : stk.map (lp_rl base sv) = ((stk.take b).reverse.map (lp_rl base sv)).reverse ++ (stk.drop b).map (lp_rl base sv) := by
      rw [← List.map_reverse, List.reverse_reverse, ← List.map_append, List.take_append_drop]
    have s3 : ((stk.take b).reverse.map (lp_rl base sv)).length = b := by simp; omega
    refine lpW_after (a := a) (aa := ((stk.take b).reverse.map (lp_rl base sv)).toArray) (x := x) (rest := stk.drop b) ?_ hx1 I ht hW
    rcases hw with hw | hw
    · exact va_runS (own := lp_cn (lp_ow mo)) (bytes := lp_b a) (maxL := lp_mx a) (ret := lp_rt a) (index := idx) (As := (stk.take b).reverse.map (lp_rl base sv)) (rest := (stk.drop b).map (lp_rl base sv)) ⟨X.1, X.2.1, X.2.2.1, X.2.2.2.1, X.2.2.2.2.1⟩ hM
        ⟨callB_of b X.2.2.2.2.1 (lp_GoodIn ha) rfl rfl rfl (X.2.2.2.2.1 _ (lp_ini_in (lp_ow_lt a (by omega)))) (X.2.2.2.2.1 _ (lp_gt_in hw rfl)) ⟨hy.1, hy.2, hd2⟩ ⟨by show d + 2 + 1 ≤ _; omega, by show 8 + (lp_mx a + 11) + (100 * d + 200) ≤ _; omega⟩, X.2.2.2.2.1 _ hstat⟩
        hPc rfl s3 I.1.1 s2 (lv_room (lp_rest_ok X hc)) hd (lp_fitR X I hx1 hx2)
    · exact va_runSN (own := lp_cn (lp_ow mo)) (bytes := lp_b a) (maxL := lp_mx a) (ret := lp_rt a) (index := idx) (host := "LampPresses") (As := (stk.take b).reverse.map (lp_rl base sv)) (rest := (stk.drop b).map (lp_rl base sv)) ⟨X.1, X.2.1, X.2.2.1, X.2.2.2.1, X.2.2.2.2.1⟩ hM
        ⟨va_cnB b X.2.2.2.2.1 (lp_GoodIn ha) rfl rfl rfl (X.2.2.2.2.2.1.2.2.2.2.2.2.2.1 _ _ _ _ _ hw) (X.2.2.2.2.1 _ (lp_ini_in (lp_ow_lt a (by omega)))) ⟨hy.1, hy.2, hd2⟩ ⟨by show d + 2 + 1 ≤ _; omega, by show 8 + (lp_mx a + 11) + (100 * d + 200) ≤ _; omega⟩, X.2.2.2.2.1 _ hstat, trivial⟩
        hPc rfl s3 I.1.1 s2 (lv_room (lp_rest_ok X hc)) hd (lp_fitR X I hx1 hx2)
theorem lp_kd2 : ∀ m, m < 293 → lp_kd m = 2 → (lp_nd m).1 = "<init>" ∧ lp_rt m = none := by decide +kernel
theorem lpW_CalI {t d : Nat} {cl : Nat → List Value → lp_S → List Value → List Value → Bool → lp_O} (X : lp_Cx p R s m args meth c base K0 mo D dA sv b0 L0 xs r) (hd : decode (lp_b mo) pc = .ok (.invokespecial idx, 3)) (ha : a < 293) (hkd : lp_kd a = 2)
    (hw : lp_wd q = some (.methodLink (lp_cn (lp_ow mo)) idx (lp_y a)) ∨ lp_wd q = some (.methodLinkNest (lp_cn (lp_ow mo)) idx (lp_y a) "LampPresses")) (ht : t = 0) (hn : lp_nar a b 1 = true) (hR : d + 3 ≤ R.frames ∧ 100 * d + 300 ≤ R.locals)
    (hcl : ∀ as st ls rest fl, cl a as st ls rest fl = some r → ∃ x : Int32 × lp_S, st.1 ≤ x.2.1 ∧ x.2.1 ≤ r.2.1 ∧ lp_Met l base D dA sv b0 L0 xs d a as st x ∧ lp_Wt p l e R s m args below meth c Q base K0 mo D dA sv L0 xs (pc + 3) ls (bif fl then .int x.1 :: rest else rest) x.2)
    (h : lp_xCalI a b t cl ls stk st = some r) : lp_Wt p l e R s m args below meth c Q base K0 mo D dA sv L0 xs pc ls stk st := by
  intro lm H locs I
  unfold lp_xCalI at h
  cases hc : lp_cok stk b with
  | false => rw [hc] at h; cases h
  | true =>
    rw [hc] at h
    simp only [cond_true] at h
    obtain ⟨n, hb, hd2⟩ := lp_nar_ok hn
    obtain ⟨hl, -, -⟩ := lp_cok_ok hc
    obtain ⟨hy, hmx⟩ := lp_y_ok ha
    obtain ⟨hin, hrt⟩ := lp_kd2 a ha hkd
    have hinst : Cond.instanceMethod (lp_y a) ∈ lp_gt := by
      have h1 := lp_mth_ok a ha
      rw [if_neg (by rw [hkd]; decide)] at h1
      exact lp_gt_in h1 rfl
    split at h
    · next k hk =>
      obtain ⟨x, hx1, hx2, hM, hW⟩ := hcl _ _ _ _ _ h
      obtain ⟨s1, s2, s3⟩ := lpW_split (base := base) (sv := sv) hb hl hk
      refine lp_sized X I (fun hsz => ?_)
      have hPc := lp_Pc_at (as := (stk.take b).reverse) X I hsz
      have e1 : ((stk.take b).reverse.map (lp_rl base sv)).toArray = (Value.ref (base + k) :: (stk.take n).reverse.map (lp_rl base sv)).toArray := by rw [s1]; rfl
      have hfl : Nat.beq t 1 = (lp_rt a).isSome := by rw [ht, hrt]; rfl
      refine lpW_after (a := a) (aa := (Value.ref (base + k) :: (stk.take n).reverse.map (lp_rl base sv)).toArray) (x := x) (rest := stk.drop b) ?_ hx1 I hfl hW
      have hPre : PreS s H (lp_Pc base D dA sv b0 L0 xs (stk.take b).reverse st) (.ref (base + k) :: (stk.take n).reverse.map (lp_rl base sv)) := ⟨hPc.1, fun U hU hW => by rw [← e1]; exact hPc.2 U hU hW⟩
      have hws : lp_wsm a = Cond.code (lp_y a) (lp_b a) (lp_mx a) none :: lp_gt := by unfold lp_wsm; rw [hrt]
      rcases hw with hw | hw
      · exact va_runI (own := lp_cn (lp_ow mo)) (bytes := lp_b a) (maxL := lp_mx a) (index := idx) (As := (stk.take n).reverse.map (lp_rl base sv)) (rest := (stk.drop b).map (lp_rl base sv)) ⟨X.1, X.2.1, X.2.2.1, X.2.2.2.1, X.2.2.2.2.1⟩ hM
          ⟨callB_of n X.2.2.2.2.1 (lp_GoodIn ha) hws rfl rfl (X.2.2.2.2.1 _ (lp_ini_in (lp_ow_lt a (by omega)))) (X.2.2.2.2.1 _ (lp_gt_in hw rfl)) ⟨hy.1, hy.2, hd2⟩ ⟨by show d + 2 + 1 ≤ _; omega, by show 8 + (lp_mx a + 11) + (100 * d + 200) ≤ _; omega⟩, hin, X.2.2.2.2.1 _ hinst⟩
          hPre rfl s3 I.1.1 s2 (lv_room (lp_rest_ok X hc)) hd (lp_fitR X I hx1 hx2)
      · exact va_runIN (own := lp_cn (lp_ow mo)) (bytes := lp_b a) (maxL := lp_mx a) (index := idx) (host := "LampPresses") (As := (stk.take n).reverse.map (lp_rl base sv)) (rest := (stk.drop b).map (lp_rl base sv)) ⟨X.1, X.2.1, X.2.2.1, X.2.2.2.1, X.2.2.2.2.1⟩ hM
          ⟨va_cnB n X.2.2.2.2.1 (lp_GoodIn ha) hws rfl rfl (X.2.2.2.2.2.1.2.2.2.2.2.2.2.1 _ _ _ _ _ hw) (X.2.2.2.2.1 _ (lp_ini_in (lp_ow_lt a (by omega)))) ⟨hy.1, hy.2, hd2⟩ ⟨by show d + 2 + 1 ≤ _; omega, by show 8 + (lp_mx a + 11) + (100 * d + 200) ≤ _; omega⟩, hin, X.2.2.2.2.1 _ hinst⟩
          hPre rfl s3 I.1.1 s2 (lv_room (lp_rest_ok X hc)) hd (lp_fitR X I hx1 hx2)
    · cases h
/-- ldc_w of a String constant -/
theorem lp_ldcwS {cc : ByteArray} {H : Heap} {locs : List Loc} {cells slots : Nat} {lm : Array Slot} {rest : List Value} (hexec : p.tables.exec = Jvm.exec) (hb : c.code = cc) {own tx : String} {index q : Nat} (hown : s.vm.findClass own = some m.cls) (hZ : vk_R own index tx q s) (hdg : decode cc pc = .ok (.ldc_w index, 3))
    (k : W p l e R s m args below meth c H locs cells slots Q (F0 m (pc + 3) lm (.ref q :: rest))) : W p l e R s m args below meth c H locs cells slots Q (F0 m pc lm rest) := by
  intro T hT X
  obtain ⟨t, a1, b1⟩ := k T hT X
  refine ⟨t, ?_, b1⟩
  obtain ⟨k, cf, i, a', hk, hcf, hcp, -, hr, hev'⟩ := Cond.stringRef_spec hown hZ.1
  cases hZ.2.symm.trans hev'
  obtain ⟨k', hk', he⟩ := X.warmed.alike.2.2 _ _ hk
  have hr' : k'.resolved[index]? = some (some (.string q)) := by
    rcases X.warmed.entry hk hk' index with h | ⟨h, -⟩
    · rw [h]; exact hr
    · rw [hr] at h; cases h
  subst hb
  jvm_step X.here [hexec, hdg, ldc_w.wp_string (e := e) (s := T) (f := F0 m pc lm rest) X.here.top hk' (by rw [he]; exact hcf) hcp hr']
  exact a1
/-- a method's end with a number -/
theorem lpW_retI {ty : FieldType} {v : Int32} (X : lp_Cx p R s m args meth c base K0 mo D dA sv b0 L0 xs (v, st)) (hr : meth.sig.returnType = lp_rt mo) (hlocks : meth.locks = false) (hd : decode (lp_b mo) pc = .ok (.ireturn, 1)) (hty : lp_rt mo = some ty) (hn : narrow ty (.int v) = .int v) :
    lp_Wt p l e R s m args below meth c (MQ below (lp_Qc base D dA L0 xs (lp_rt mo) (v, st)) args s (st.1 - K0) (lp_sl st.1 - lp_sl K0) (lp_A base)) base K0 mo D dA sv L0 xs pc ls [.int v] st := by
  intro lm H locs I
  refine W.zret (ty := ty) X.1 X.2.1 (hr.trans hty) hn (fun t ht hW => ?_) (fun q hq => I.2.2.2.1.2.2 q hq) hd hlocks
  rw [hty]
  exact ⟨⟨v, (), rfl, ⟨rfl, I.2.2.2.2.1⟩, by show va_P _ _ _ t.heap; rw [ht]; exact I.2.2.1⟩, I.2.2.2.1.F ht⟩
theorem lpW_retV {v : Int32} (X : lp_Cx p R s m args meth c base K0 mo D dA sv b0 L0 xs (v, st)) (hr : meth.sig.returnType = lp_rt mo) (hlocks : meth.locks = false) (hd : decode (lp_b mo) pc = .ok (.return_, 1)) (hty : lp_rt mo = none) :
    lp_Wt p l e R s m args below meth c (MQ below (lp_Qc base D dA L0 xs (lp_rt mo) (v, st)) args s (st.1 - K0) (lp_sl st.1 - lp_sl K0) (lp_A base)) base K0 mo D dA sv L0 xs pc ls [] st := by
  intro lm H locs I
  refine W.vret X.1 X.2.1 (hr.trans hty) (fun t ht hW => ?_) (fun q hq => I.2.2.2.1.2.2 q hq) hd hlocks
  rw [hty]
  exact ⟨⟨(), rfl, I.2.2.2.2.1, by show va_P _ _ _ t.heap; rw [ht]; exact I.2.2.1⟩, I.2.2.2.1.F ht⟩
end lpW
theorem lp_f1_ok : ∀ (l : List lp_E) {pc : Nat} {e : lp_E}, lp_f1 l pc = some e → e ∈ l ∧ e.1 = pc
  | [], _, _, h => by cases h
  | x :: r, pc, e, h => by
    unfold lp_f1 at h
    cases hq : Nat.beq x.1 pc with
    | true =>
      rw [hq] at h
      have h : x = e := Option.some.inj h
      subst h
      exact ⟨List.mem_cons_self, Nat.eq_of_beq_eq_true hq⟩
    | false =>
      rw [hq] at h
      obtain ⟨h1, h2⟩ := lp_f1_ok r h
      exact ⟨List.mem_cons_of_mem _ h1, h2⟩
theorem lp_f2_ok : ∀ (C : List (Nat × List lp_E)) {pc : Nat} {e : lp_E}, lp_f2 C pc = some e → (∃ q ∈ C, e ∈ q.2) ∧ e.1 = pc
  | [], _, _, h => by cases h
  | x :: r, pc, e, h => by
    unfold lp_f2 at h
    cases hq : Nat.ble x.1 pc with
    | true =>
      rw [hq] at h
      obtain ⟨⟨q, h1, h2⟩, h3⟩ := lp_f2_ok r h
      exact ⟨⟨q, List.mem_cons_of_mem _ h1, h2⟩, h3⟩
    | false =>
      rw [hq] at h
      obtain ⟨h1, h2⟩ := lp_f1_ok x.2 h
      exact ⟨⟨x, List.mem_cons_self, h1⟩, h2⟩
/-- what an entry of the code table says is the program's -/
theorem lp_entry {mo pc a b fl len : Nat} {z : Nat} {ins : Instr} {c : Int32} {t : List Nat} (hm : mo < 294) (h : lp_f2 (lp_cd mo) pc = some (z, (ins, len), a, b, c, t, fl)) : decode (lp_b mo) pc = .ok (ins, len) ∧ lp_okc (lp_ow mo) mo pc ins len a b c t = true := by
  obtain ⟨⟨q, h1, h2⟩, h3⟩ := lp_f2_ok _ h
  have h3 : z = pc := h3
  subst h3
  have h4 := List.all_eq_true.mp (List.all_eq_true.mp (lp_ok_all mo hm) q h1) _ h2
  unfold lp_okE at h4
  rw [Bool.and_eq_true] at h4
  exact ⟨of_decide_eq_true h4.1, h4.2⟩
end
section
/-! ===== a body, a run (printed by wip/whole/mkseg.py) ===== -/
def lp_oK : lp_Out → Nat
  | .inl x => x.2.2.1
  | .inr (.inl x) => x.2.2.2.1
  | .inr (.inr (.inl x)) => x.2.2.1.1
  | .inr (.inr (.inr x)) => x.2.1
theorem lp_kC {c : Int32} {ls stk : List Value} {st : lp_S} {o : lp_Out} (h : lp_xC c (fun ls stk st => some (Sum.inl (ls, stk, st)) : lp_Q lp_Out) ls stk st = some o) : st.1 ≤ lp_oK o := by
  unfold lp_xC at h
  (repeat' split at h)
  all_goals first | (cases h; done) | (cases h; exact Nat.le_refl _) | (cases h; exact Nat.le_add_right _ _)
theorem lp_kS {a : Nat} {ls stk : List Value} {st : lp_S} {o : lp_Out} (h : lp_xS a (fun ls stk st => some (Sum.inl (ls, stk, st)) : lp_Q lp_Out) ls stk st = some o) : st.1 ≤ lp_oK o := by
  unfold lp_xS at h
  (repeat' split at h)
  all_goals first | (cases h; done) | (cases h; exact Nat.le_refl _) | (cases h; exact Nat.le_add_right _ _)
theorem lp_kIl {a : Nat} {ls stk : List Value} {st : lp_S} {o : lp_Out} (h : lp_xIl a (fun ls stk st => some (Sum.inl (ls, stk, st)) : lp_Q lp_Out) ls stk st = some o) : st.1 ≤ lp_oK o := by
  unfold lp_xIl at h
  (repeat' split at h)
  all_goals first | (cases h; done) | (cases h; exact Nat.le_refl _) | (cases h; exact Nat.le_add_right _ _)
theorem lp_kAl {a : Nat} {ls stk : List Value} {st : lp_S} {o : lp_Out} (h : lp_xAl a (fun ls stk st => some (Sum.inl (ls, stk, st)) : lp_Q lp_Out) ls stk st = some o) : st.1 ≤ lp_oK o := by
  unfold lp_xAl at h
  (repeat' split at h)
  all_goals first | (cases h; done) | (cases h; exact Nat.le_refl _) | (cases h; exact Nat.le_add_right _ _)
theorem lp_kIs {a : Nat} {ls stk : List Value} {st : lp_S} {o : lp_Out} (h : lp_xIs a (fun ls stk st => some (Sum.inl (ls, stk, st)) : lp_Q lp_Out) ls stk st = some o) : st.1 ≤ lp_oK o := by
  unfold lp_xIs at h
  (repeat' split at h)
  all_goals first | (cases h; done) | (cases h; exact Nat.le_refl _) | (cases h; exact Nat.le_add_right _ _)
theorem lp_kAs {a : Nat} {ls stk : List Value} {st : lp_S} {o : lp_Out} (h : lp_xAs a (fun ls stk st => some (Sum.inl (ls, stk, st)) : lp_Q lp_Out) ls stk st = some o) : st.1 ≤ lp_oK o := by
  unfold lp_xAs at h
  (repeat' split at h)
  all_goals first | (cases h; done) | (cases h; exact Nat.le_refl _) | (cases h; exact Nat.le_add_right _ _)
theorem lp_kInc {a : Nat} {c : Int32} {ls stk : List Value} {st : lp_S} {o : lp_Out} (h : lp_xInc a c (fun ls stk st => some (Sum.inl (ls, stk, st)) : lp_Q lp_Out) ls stk st = some o) : st.1 ≤ lp_oK o := by
  unfold lp_xInc at h
  (repeat' split at h)
  all_goals first | (cases h; done) | (cases h; exact Nat.le_refl _) | (cases h; exact Nat.le_add_right _ _)
theorem lp_k1 {f : Int32 → Int32} {ls stk : List Value} {st : lp_S} {o : lp_Out} (h : lp_x1 f (fun ls stk st => some (Sum.inl (ls, stk, st)) : lp_Q lp_Out) ls stk st = some o) : st.1 ≤ lp_oK o := by
  unfold lp_x1 at h
  (repeat' split at h)
  all_goals first | (cases h; done) | (cases h; exact Nat.le_refl _) | (cases h; exact Nat.le_add_right _ _)
theorem lp_k2 {f : Int32 → Int32 → Int32} {ls stk : List Value} {st : lp_S} {o : lp_Out} (h : lp_x2 f (fun ls stk st => some (Sum.inl (ls, stk, st)) : lp_Q lp_Out) ls stk st = some o) : st.1 ≤ lp_oK o := by
  unfold lp_x2 at h
  (repeat' split at h)
  all_goals first | (cases h; done) | (cases h; exact Nat.le_refl _) | (cases h; exact Nat.le_add_right _ _)
theorem lp_k2d {f : Int32 → Int32 → Int32} {ls stk : List Value} {st : lp_S} {o : lp_Out} (h : lp_x2d f (fun ls stk st => some (Sum.inl (ls, stk, st)) : lp_Q lp_Out) ls stk st = some o) : st.1 ≤ lp_oK o := by
  unfold lp_x2d at h
  (repeat' split at h)
  all_goals first | (cases h; done) | (cases h; exact Nat.le_refl _) | (cases h; exact Nat.le_add_right _ _)
theorem lp_kDup  {ls stk : List Value} {st : lp_S} {o : lp_Out} (h : lp_xDup (fun ls stk st => some (Sum.inl (ls, stk, st)) : lp_Q lp_Out) ls stk st = some o) : st.1 ≤ lp_oK o := by
  unfold lp_xDup at h
  (repeat' split at h)
  all_goals first | (cases h; done) | (cases h; exact Nat.le_refl _) | (cases h; exact Nat.le_add_right _ _)
theorem lp_kDup2  {ls stk : List Value} {st : lp_S} {o : lp_Out} (h : lp_xDup2 (fun ls stk st => some (Sum.inl (ls, stk, st)) : lp_Q lp_Out) ls stk st = some o) : st.1 ≤ lp_oK o := by
  unfold lp_xDup2 at h
  (repeat' split at h)
  all_goals first | (cases h; done) | (cases h; exact Nat.le_refl _) | (cases h; exact Nat.le_add_right _ _)
theorem lp_kPop  {ls stk : List Value} {st : lp_S} {o : lp_Out} (h : lp_xPop (fun ls stk st => some (Sum.inl (ls, stk, st)) : lp_Q lp_Out) ls stk st = some o) : st.1 ≤ lp_oK o := by
  unfold lp_xPop at h
  (repeat' split at h)
  all_goals first | (cases h; done) | (cases h; exact Nat.le_refl _) | (cases h; exact Nat.le_add_right _ _)
theorem lp_kIf {cd : Jvm.ClassFile.Cond} {a : Nat} {ls stk : List Value} {st : lp_S} {o : lp_Out} (h : lp_xIf cd a (fun ls stk st => some (Sum.inl (ls, stk, st)) : lp_Q lp_Out) (fun z ls stk st => some (Sum.inr (Sum.inl (z, ls, stk, st))) : Nat → lp_Q lp_Out) ls stk st = some o) : st.1 ≤ lp_oK o := by
  unfold lp_xIf at h
  (repeat' split at h)
  all_goals first | (cases h; done) | (cases h; exact Nat.le_refl _) | (cases h; exact Nat.le_add_right _ _)
theorem lp_kCmp {cd : Jvm.ClassFile.Cond} {a : Nat} {ls stk : List Value} {st : lp_S} {o : lp_Out} (h : lp_xCmp cd a (fun ls stk st => some (Sum.inl (ls, stk, st)) : lp_Q lp_Out) (fun z ls stk st => some (Sum.inr (Sum.inl (z, ls, stk, st))) : Nat → lp_Q lp_Out) ls stk st = some o) : st.1 ≤ lp_oK o := by
  unfold lp_xCmp at h
  (repeat' split at h)
  all_goals first | (cases h; done) | (cases h; exact Nat.le_refl _) | (cases h; exact Nat.le_add_right _ _)
theorem lp_kSw {a b : Nat} {t : List Nat} {ls stk : List Value} {st : lp_S} {o : lp_Out} (h : lp_xSw a b t (fun z ls stk st => some (Sum.inr (Sum.inl (z, ls, stk, st))) : Nat → lp_Q lp_Out) ls stk st = some o) : st.1 ≤ lp_oK o := by
  unfold lp_xSw at h
  (repeat' split at h)
  all_goals first | (cases h; done) | (cases h; exact Nat.le_refl _) | (cases h; exact Nat.le_add_right _ _)
theorem lp_kGI {a b : Nat} {ls stk : List Value} {st : lp_S} {o : lp_Out} (h : lp_xGI a b (fun ls stk st => some (Sum.inl (ls, stk, st)) : lp_Q lp_Out) ls stk st = some o) : st.1 ≤ lp_oK o := by
  unfold lp_xGI at h
  (repeat' split at h)
  all_goals first | (cases h; done) | (cases h; exact Nat.le_refl _) | (cases h; exact Nat.le_add_right _ _)
theorem lp_kGR {a b : Nat} {ls stk : List Value} {st : lp_S} {o : lp_Out} (h : lp_xGR a b (fun ls stk st => some (Sum.inl (ls, stk, st)) : lp_Q lp_Out) ls stk st = some o) : st.1 ≤ lp_oK o := by
  unfold lp_xGR at h
  unfold lp_pR at h
  (repeat' split at h)
  all_goals first | (cases h; done) | (cases h; exact Nat.le_refl _) | (cases h; exact Nat.le_add_right _ _)
theorem lp_kGV  {ls stk : List Value} {st : lp_S} {o : lp_Out} (h : lp_xGV (fun ls stk st => some (Sum.inl (ls, stk, st)) : lp_Q lp_Out) ls stk st = some o) : st.1 ≤ lp_oK o := by
  unfold lp_xGV at h
  (repeat' split at h)
  all_goals first | (cases h; done) | (cases h; exact Nat.le_refl _) | (cases h; exact Nat.le_add_right _ _)
theorem lp_kGC  {ls stk : List Value} {st : lp_S} {o : lp_Out} (h : lp_xGC (fun ls stk st => some (Sum.inl (ls, stk, st)) : lp_Q lp_Out) ls stk st = some o) : st.1 ≤ lp_oK o := by
  unfold lp_xGC at h
  (repeat' split at h)
  all_goals first | (cases h; done) | (cases h; exact Nat.le_refl _) | (cases h; exact Nat.le_add_right _ _)
theorem lp_kPI {a b : Nat} {ls stk : List Value} {st : lp_S} {o : lp_Out} (h : lp_xPI a b (fun ls stk st => some (Sum.inl (ls, stk, st)) : lp_Q lp_Out) ls stk st = some o) : st.1 ≤ lp_oK o := by
  unfold lp_xPI at h
  (repeat' split at h)
  all_goals first | (cases h; done) | (cases h; exact Nat.le_refl _) | (cases h; exact Nat.le_add_right _ _)
theorem lp_kPZ {a b : Nat} {ls stk : List Value} {st : lp_S} {o : lp_Out} (h : lp_xPZ a b (fun ls stk st => some (Sum.inl (ls, stk, st)) : lp_Q lp_Out) ls stk st = some o) : st.1 ≤ lp_oK o := by
  unfold lp_xPZ at h
  (repeat' split at h)
  all_goals first | (cases h; done) | (cases h; exact Nat.le_refl _) | (cases h; exact Nat.le_add_right _ _)
theorem lp_kPR {a b : Nat} {ls stk : List Value} {st : lp_S} {o : lp_Out} (h : lp_xPR a b (fun ls stk st => some (Sum.inl (ls, stk, st)) : lp_Q lp_Out) ls stk st = some o) : st.1 ≤ lp_oK o := by
  unfold lp_xPR at h
  (repeat' split at h)
  all_goals first | (cases h; done) | (cases h; exact Nat.le_refl _) | (cases h; exact Nat.le_add_right _ _)
theorem lp_kIal {a : Nat} {ls stk : List Value} {st : lp_S} {o : lp_Out} (h : lp_xIal a (fun ls stk st => some (Sum.inl (ls, stk, st)) : lp_Q lp_Out) ls stk st = some o) : st.1 ≤ lp_oK o := by
  unfold lp_xIal at h
  (repeat' split at h)
  all_goals first | (cases h; done) | (cases h; exact Nat.le_refl _) | (cases h; exact Nat.le_add_right _ _)
theorem lp_kScr  {ls stk : List Value} {st : lp_S} {o : lp_Out} (h : lp_xScr (fun ls stk st => some (Sum.inl (ls, stk, st)) : lp_Q lp_Out) ls stk st = some o) : st.1 ≤ lp_oK o := by
  unfold lp_xScr at h
  (repeat' split at h)
  all_goals first | (cases h; done) | (cases h; exact Nat.le_refl _) | (cases h; exact Nat.le_add_right _ _)
theorem lp_kStr  {ls stk : List Value} {st : lp_S} {o : lp_Out} (h : lp_xStr (fun ls stk st => some (Sum.inl (ls, stk, st)) : lp_Q lp_Out) ls stk st = some o) : st.1 ≤ lp_oK o := by
  unfold lp_xStr at h
  (repeat' split at h)
  all_goals first | (cases h; done) | (cases h; exact Nat.le_refl _) | (cases h; exact Nat.le_add_right _ _)
theorem lp_kAal {a : Nat} {ls stk : List Value} {st : lp_S} {o : lp_Out} (h : lp_xAal a (fun ls stk st => some (Sum.inl (ls, stk, st)) : lp_Q lp_Out) ls stk st = some o) : st.1 ≤ lp_oK o := by
  unfold lp_xAal at h
  unfold lp_pR at h
  (repeat' split at h)
  all_goals first | (cases h; done) | (cases h; exact Nat.le_refl _) | (cases h; exact Nat.le_add_right _ _)
theorem lp_kIas {a : Nat} {f : Int32 → Int32} {ls stk : List Value} {st : lp_S} {o : lp_Out} (h : lp_xIas a f (fun ls stk st => some (Sum.inl (ls, stk, st)) : lp_Q lp_Out) ls stk st = some o) : st.1 ≤ lp_oK o := by
  unfold lp_xIas at h
  (repeat' split at h)
  all_goals first | (cases h; done) | (cases h; exact Nat.le_refl _) | (cases h; exact Nat.le_add_right _ _)
theorem lp_kAas {a : Nat} {ls stk : List Value} {st : lp_S} {o : lp_Out} (h : lp_xAas a (fun ls stk st => some (Sum.inl (ls, stk, st)) : lp_Q lp_Out) ls stk st = some o) : st.1 ≤ lp_oK o := by
  unfold lp_xAas at h
  (repeat' split at h)
  all_goals first | (cases h; done) | (cases h; exact Nat.le_refl _) | (cases h; exact Nat.le_add_right _ _)
theorem lp_kLen {a : Nat} {ls stk : List Value} {st : lp_S} {o : lp_Out} (h : lp_xLen a (fun ls stk st => some (Sum.inl (ls, stk, st)) : lp_Q lp_Out) ls stk st = some o) : st.1 ≤ lp_oK o := by
  unfold lp_xLen at h
  (repeat' split at h)
  all_goals first | (cases h; done) | (cases h; exact Nat.le_refl _) | (cases h; exact Nat.le_add_right _ _)
theorem lp_kNew {a b : Nat} {ls stk : List Value} {st : lp_S} {o : lp_Out} (h : lp_xNew a b (fun ls stk st => some (Sum.inl (ls, stk, st)) : lp_Q lp_Out) ls stk st = some o) : st.1 ≤ lp_oK o := by
  unfold lp_xNew at h
  (repeat' split at h)
  all_goals first | (cases h; done) | (cases h; exact Nat.le_refl _) | (cases h; exact Nat.le_add_right _ _)
theorem lp_kNa {a : Nat} {ls stk : List Value} {st : lp_S} {o : lp_Out} (h : lp_xNa a (fun ls stk st => some (Sum.inl (ls, stk, st)) : lp_Q lp_Out) ls stk st = some o) : st.1 ≤ lp_oK o := by
  unfold lp_xNa at h
  (repeat' split at h)
  all_goals first | (cases h; done) | (cases h; exact Nat.le_refl _) | (cases h; exact Nat.le_add_right _ _)
theorem lp_kMna  {ls stk : List Value} {st : lp_S} {o : lp_Out} (h : lp_xMna (fun ls stk st => some (Sum.inl (ls, stk, st)) : lp_Q lp_Out) ls stk st = some o) : st.1 ≤ lp_oK o := by
  unfold lp_xMna at h
  (repeat' split at h)
  all_goals first | (cases h; done) | (cases h; exact Nat.le_refl _) | (cases h; exact Nat.le_add_right _ _)
theorem lp_kObj  {ls stk : List Value} {st : lp_S} {o : lp_Out} (h : lp_xObj (fun ls stk st => some (Sum.inl (ls, stk, st)) : lp_Q lp_Out) ls stk st = some o) : st.1 ≤ lp_oK o := by
  unfold lp_xObj at h
  (repeat' split at h)
  all_goals first | (cases h; done) | (cases h; exact Nat.le_refl _) | (cases h; exact Nat.le_add_right _ _)
theorem lp_kCpy  {ls stk : List Value} {st : lp_S} {o : lp_Out} (h : lp_xCpy (fun ls stk st => some (Sum.inl (ls, stk, st)) : lp_Q lp_Out) ls stk st = some o) : st.1 ≤ lp_oK o := by
  unfold lp_xCpy at h
  (repeat' split at h)
  all_goals first | (cases h; done) | (cases h; exact Nat.le_refl _) | (cases h; exact Nat.le_add_right _ _)
theorem lp_kRet {a : Nat} {ls stk : List Value} {st : lp_S} {o : lp_Out} (h : lp_xRet a (fun r st => some (Sum.inr (Sum.inr (Sum.inr (r, st)))) : Int32 → lp_S → Option lp_Out) ls stk st = some o) : st.1 ≤ lp_oK o := by
  unfold lp_xRet at h
  (repeat' split at h)
  all_goals first | (cases h; done) | (cases h; exact Nat.le_refl _) | (cases h; exact Nat.le_add_right _ _)
theorem lp_kVret  {ls stk : List Value} {st : lp_S} {o : lp_Out} (h : lp_xVret (fun r st => some (Sum.inr (Sum.inr (Sum.inr (r, st)))) : Int32 → lp_S → Option lp_Out) ls stk st = some o) : st.1 ≤ lp_oK o := by
  unfold lp_xVret at h
  (repeat' split at h)
  all_goals first | (cases h; done) | (cases h; exact Nat.le_refl _) | (cases h; exact Nat.le_add_right _ _)
theorem lp_kMax {ls stk : List Value} {st : lp_S} {o : lp_Out} (h : lp_xMax (fun ls stk st => some (Sum.inl (ls, stk, st)) : lp_Q lp_Out) ls stk st = some o) : st.1 ≤ lp_oK o := by
  unfold lp_xMax at h
  cases hc : lp_cok stk 2 <;> simp only [hc, cond_true, cond_false] at h
  · cases h
  · exact lp_k2 h
theorem lp_kMin {ls stk : List Value} {st : lp_S} {o : lp_Out} (h : lp_xMin (fun ls stk st => some (Sum.inl (ls, stk, st)) : lp_Q lp_Out) ls stk st = some o) : st.1 ≤ lp_oK o := by
  unfold lp_xMin at h
  cases hc : lp_cok stk 2 <;> simp only [hc, cond_true, cond_false] at h
  · cases h
  · exact lp_k2 h
theorem lp_kCal {a b t : Nat} {ls stk : List Value} {st : lp_S} {o : lp_Out} (h : lp_xCal a b t (fun m as st ls rest q => some (Sum.inr (Sum.inr (Sum.inl (m, as, st, ls, rest, q)))) : Nat → List Value → lp_S → List Value → List Value → Bool → Option lp_Out) ls stk st = some o) : st.1 ≤ lp_oK o := by
  unfold lp_xCal at h
  cases hc : lp_cok stk b <;> simp only [hc, cond_true, cond_false] at h
  · cases h
  (repeat' split at h)
  all_goals first | (cases h; done) | (cases h; exact Nat.le_refl _) | (cases h; exact Nat.le_add_right _ _)
theorem lp_kCalV {a b t : Nat} {ls stk : List Value} {st : lp_S} {o : lp_Out} (h : lp_xCalV a b t (fun m as st ls rest q => some (Sum.inr (Sum.inr (Sum.inl (m, as, st, ls, rest, q)))) : Nat → List Value → lp_S → List Value → List Value → Bool → Option lp_Out) ls stk st = some o) : st.1 ≤ lp_oK o := by
  unfold lp_xCalV at h
  cases hc : lp_cok stk b <;> simp only [hc, cond_true, cond_false] at h
  · cases h
  (repeat' split at h)
  all_goals first | (cases h; done) | (cases h; exact Nat.le_refl _) | (cases h; exact Nat.le_add_right _ _)
theorem lp_kCalI {a b t : Nat} {ls stk : List Value} {st : lp_S} {o : lp_Out} (h : lp_xCalI a b t (fun m as st ls rest q => some (Sum.inr (Sum.inr (Sum.inl (m, as, st, ls, rest, q)))) : Nat → List Value → lp_S → List Value → List Value → Bool → Option lp_Out) ls stk st = some o) : st.1 ≤ lp_oK o := by
  unfold lp_xCalI at h
  cases hc : lp_cok stk b <;> simp only [hc, cond_true, cond_false] at h
  · cases h
  (repeat' split at h)
  all_goals first | (cases h; done) | (cases h; exact Nat.le_refl _) | (cases h; exact Nat.le_add_right _ _)
set_option maxHeartbeats 4000000 in
theorem lp_st_K {ins : Instr} {a b : Nat} {c : Int32} {t : List Nat} {ls stk : List Value} {st : lp_S} {o : lp_Out} (h : lp_st ins a b c t ls stk st = some o) : st.1 ≤ lp_oK o := by
  unfold lp_st at h
  cases ins
  all_goals first
    | (exact absurd (show (none : Option lp_Out) = some o from h) (by simp))
    | exact lp_kC h
    | exact lp_kIl h
    | exact lp_kAl h
    | exact lp_kIs h
    | exact lp_kAs h
    | exact lp_kInc h
    | exact lp_k1 h
    | exact lp_k2 h
    | exact lp_k2d h
    | exact lp_kDup h
    | exact lp_kDup2 h
    | exact lp_kPop h
    | exact lp_kIf h
    | exact lp_kCmp h
    | exact lp_kSw h
    | exact lp_kIas h
    | exact lp_kAas h
    | exact lp_kLen h
    | exact lp_kNew h
    | exact lp_kNa h
    | exact lp_kMna h
    | exact lp_kCalV h
    | exact lp_kRet h
    | exact lp_kVret h
    | (cases h; exact Nat.le_refl _)
    | skip
  all_goals simp only [lp_i] at h
  all_goals first
    | exact lp_kRet h
    | exact lp_kVret h
    | (cases hz : Nat.beq a 300 <;> simp only [hz, cond_true, cond_false] at h <;> first | exact lp_kScr h | exact lp_kIal h)
    | (cases hz : Nat.beq a 100 <;> simp only [hz, cond_true, cond_false] at h <;> first | exact lp_kStr h | (cases hz2 : Nat.beq a 21 <;> simp only [hz2, cond_true, cond_false] at h <;> exact lp_kIal h))
    | (cases hz : Nat.beq a 23 <;> simp only [hz, cond_true, cond_false] at h <;> exact lp_kAal h)
    | (cases hz : Nat.beq a 21 <;> simp only [hz, cond_true, cond_false] at h <;> exact lp_kIas h)
    | (cases hz : Nat.beq (t.getD 0 0) 0 <;> simp only [hz, cond_true, cond_false] at h <;> first | exact lp_kC h | exact lp_kS h)
    | skip
  all_goals generalize t.getD 0 0 = z at h
  all_goals rcases z with _ | _ | _ | _ | _ | _ | _ | _ | _ | _ | z
  all_goals first
    | (exact absurd (show (none : Option lp_Out) = some o from h) (by simp))
    | exact lp_kGI h
    | exact lp_kGR h
    | exact lp_kGV h
    | exact lp_kGC h
    | exact lp_kPI h
    | exact lp_kPR h
    | exact lp_kPZ h
    | exact lp_kCpy h
    | exact lp_kMax h
    | exact lp_kMin h
    | exact lp_kObj h
    | exact lp_kCal h
    | exact lp_kCalI h
theorem lp_seg_K {call : Nat → List Value → lp_S → lp_O} {back : Nat → lp_K} (hc : ∀ m as st x, call m as st = some x → st.1 ≤ x.2.1) (hb : ∀ pc ls stk st x, back pc ls stk st = some x → st.1 ≤ x.2.1) (C : List (Nat × List lp_E)) : ∀ k pc ls stk st x, lp_seg call back C k pc ls stk st = some x → st.1 ≤ x.2.1
  | 0 => fun _ _ _ _ _ h => by cases h
  | k + 1 => by
    intro pc ls stk st r h
    simp only [lp_seg] at h
    cases hq : lp_f2 C pc with
    | none => rw [hq] at h; cases h
    | some x =>
      obtain ⟨_, ⟨ins, len⟩, a, b, cv, t, fl⟩ := x
      rw [hq] at h
      simp only at h
      rw [lp_i_nat] at h
      cases ho : lp_st ins a b cv t ls stk st with
      | none => rw [ho] at h; cases h
      | some o =>
        rw [ho] at h
        have h0 := lp_st_K ho
        simp only [Option.bind_some] at h
        match o, h, h0 with
        | .inl x, h, h0 =>
          simp only [lp_go] at h
          refine Nat.le_trans h0 ?_
          cases hf : Nat.beq (fl % 2) 1 <;> rw [hf] at h <;> simp only [cond_true, cond_false] at h
          · exact lp_seg_K hc hb C k _ _ _ _ _ h
          · exact hb _ _ _ _ _ h
        | .inr (.inl x), h, h0 =>
          simp only [lp_go] at h
          refine Nat.le_trans h0 ?_
          cases hf : Nat.ble 2 fl <;> rw [hf] at h <;> simp only [cond_true, cond_false] at h
          · exact lp_seg_K hc hb C k _ _ _ _ _ h
          · exact hb _ _ _ _ _ h
        | .inr (.inr (.inl x)), h, h0 =>
          simp only [lp_go] at h
          refine Nat.le_trans h0 ?_
          cases hm : call x.1 x.2.1 x.2.2.1 with
          | none => rw [hm] at h; cases h
          | some y =>
            rw [hm] at h
            exact Nat.le_trans (hc _ _ _ _ hm) (hb _ _ _ _ _ h)
        | .inr (.inr (.inr x)), h, h0 =>
          cases h
          exact h0
theorem lp_bk_K {call : Nat → List Value → lp_S → lp_O} (hc : ∀ m as st x, call m as st = some x → st.1 ≤ x.2.1) (C : List (Nat × List lp_E)) : ∀ n pc ls stk st x, lp_bk call C n pc ls stk st = some x → st.1 ≤ x.2.1
  | 0 => fun _ _ _ _ _ h => by cases h
  | n + 1 => fun pc ls stk st x h => lp_seg_K hc (lp_bk_K hc C n) C 1200 pc ls stk st x h
theorem lp_run_K : ∀ d n m as st x, lp_run d n m as st = some x → st.1 ≤ x.2.1
  | 0 => fun _ _ _ _ _ h => by cases h
  | d + 1 => fun n m as st x h => by
    simp only [lp_run] at h
    cases hc : (Nat.ble as.length (lp_mx m) && (as.all lp_good && !Nat.beq (lp_ow m) 12)) <;> simp only [hc, cond_true, cond_false] at h
    · cases h
    · exact lp_bk_K (lp_run_K d n) (lp_cd m) n _ _ _ _ _ h
end
section
/-! ===== a body ===== -/
theorem lp_and {a b : Bool} (h : (a && b) = true) : a = true ∧ b = true := by simpa using h
section lpW
variable {p : Program} {l : Launch} {e : Env} {R : Room} {s : State} {m : MethodId} {args : Array Value} {below : List Frame} {meth : Method} {c : Code} {Q : State → Prop}
variable {base K0 mo : Nat} {D : va_G} {dA : Nat → ClassId} {sv : Nat → Value} {b0 L0 : Nat} {xs : Nat → Int32} {r : Int32 × lp_S}
set_option maxHeartbeats 8000000 in
theorem lp_segW {d : Nat} (X : lp_Cx p R s m args meth c base K0 mo D dA sv b0 L0 xs r) (hmo : mo < 294) {call : Nat → List Value → lp_S → lp_O} {back : Nat → lp_K} (hR : d + 3 ≤ R.frames ∧ 100 * d + 300 ≤ R.locals)
    (hcall : ∀ a as st x, a < 293 → call a as st = some x → lp_Met l base D dA sv b0 L0 xs d a as st x) (hcK : ∀ m as st x, call m as st = some x → st.1 ≤ x.2.1) (hbK : ∀ pc ls stk st x, back pc ls stk st = some x → st.1 ≤ x.2.1)
    (hback : ∀ pc ls stk st, back pc ls stk st = some r → lp_Wt p l e R s m args below meth c Q base K0 mo D dA sv L0 xs pc ls stk st)
    (hretI : ∀ pc ls v st ty, decode (lp_b mo) pc = .ok (.ireturn, 1) → lp_rt mo = some ty → narrow ty (.int v) = .int v → (v, st) = r → lp_Wt p l e R s m args below meth c Q base K0 mo D dA sv L0 xs pc ls [.int v] st)
    (hretV : ∀ pc ls st, decode (lp_b mo) pc = .ok (.return_, 1) → lp_rt mo = none → ((0 : Int32), st) = r → lp_Wt p l e R s m args below meth c Q base K0 mo D dA sv L0 xs pc ls [] st) :
    ∀ k pc ls stk st, lp_seg call back (lp_cd mo) k pc ls stk st = some r → lp_Wt p l e R s m args below meth c Q base K0 mo D dA sv L0 xs pc ls stk st
  | 0 => fun _ _ _ _ h => by cases h
  | k + 1 => by
    intro pc ls stk st h
    have ih := lp_segW X hmo hR hcall hcK hbK hback hretI hretV k
    have ihK := lp_seg_K hcK hbK (lp_cd mo) k
    simp only [lp_seg] at h
    cases hq : lp_f2 (lp_cd mo) pc with
    | none => rw [hq] at h; cases h
    | some x =>
      obtain ⟨z, ⟨ins, len⟩, a, b, cv, t, fl⟩ := x
      rw [hq] at h
      simp only at h
      obtain ⟨hd, hok⟩ := lp_entry hmo hq
      have hnx : ∀ ls stk st, (bif Nat.beq (fl % 2) 1 then back (pc + len) else lp_seg call back (lp_cd mo) k (pc + len)) ls stk st = some r → lp_Wt p l e R s m args below meth c Q base K0 mo D dA sv L0 xs (pc + len) ls stk st := by
        intro ls stk st h
        cases hf : Nat.beq (fl % 2) 1 <;> rw [hf] at h <;> simp only [cond_true, cond_false] at h
        · exact ih _ _ _ _ h
        · exact hback _ _ _ _ h
      have hnK : ∀ ls stk st, (bif Nat.beq (fl % 2) 1 then back (pc + len) else lp_seg call back (lp_cd mo) k (pc + len)) ls stk st = some r → st.1 ≤ r.2.1 := by
        intro ls stk st h
        cases hf : Nat.beq (fl % 2) 1 <;> rw [hf] at h <;> simp only [cond_true, cond_false] at h
        · exact ihK _ _ _ _ _ h
        · exact hbK _ _ _ _ _ h
      have hjp : ∀ z ls stk st, (fun z => bif Nat.ble 2 fl then back z else lp_seg call back (lp_cd mo) k z) z ls stk st = some r → lp_Wt p l e R s m args below meth c Q base K0 mo D dA sv L0 xs z ls stk st := by
        intro z ls stk st h
        cases hf : Nat.ble 2 fl <;> simp only [hf, cond_true, cond_false] at h
        · exact ih _ _ _ _ h
        · exact hback _ _ _ _ h
      have hcl : ∀ a, a < 293 → ∀ as st ls rest fl, (fun m as st ls rest q => (call m as st).bind fun x => back (pc + len) ls (bif q then .int x.1 :: rest else rest) x.2) a as st ls rest fl = some r → ∃ x : Int32 × lp_S, st.1 ≤ x.2.1 ∧ x.2.1 ≤ r.2.1 ∧ lp_Met l base D dA sv b0 L0 xs d a as st x ∧ lp_Wt p l e R s m args below meth c Q base K0 mo D dA sv L0 xs (pc + len) ls (bif fl then .int x.1 :: rest else rest) x.2 := by
        intro a ha as st ls rest fl h
        simp only at h
        cases hm : call a as st with
        | none => rw [hm] at h; cases h
        | some y =>
          rw [hm] at h
          exact ⟨y, hcK _ _ _ _ hm, hbK _ _ _ _ _ h, hcall _ _ _ _ ha hm, hback _ _ _ _ h⟩
      generalize (bif Nat.beq (fl % 2) 1 then back (pc + len) else lp_seg call back (lp_cd mo) k (pc + len)) = nx at h hnx hnK
      generalize (fun z => bif Nat.ble 2 fl then back z else lp_seg call back (lp_cd mo) k z) = jp at h hjp
      generalize (fun m as st ls rest q => (call m as st).bind fun x => back (pc + len) ls (bif q then .int x.1 :: rest else rest) x.2) = cl at h hcl
      clear ih ihK hq
      cases ins
      case aload i =>
        obtain ⟨e1, e2⟩ := lp_and hok
        have e1 := Nat.eq_of_beq_eq_true e1
        have e2 := Nat.eq_of_beq_eq_true e2
        subst e1
        subst e2
        exact lpW_Al X hnx (fun lm H locs ce sl rest x hx k => lv_aload X.1 X.2.1 hd hx k) h
      case aload_n i =>
        obtain ⟨e1, e2⟩ := lp_and hok
        have e1 := Nat.eq_of_beq_eq_true e1
        have e2 := Nat.eq_of_beq_eq_true e2
        subst e1
        subst e2
        exact lpW_Al X hnx (fun lm H locs ce sl rest x hx k => lv_aload_n X.1 X.2.1 hd rfl hx k) h
      case iload i =>
        obtain ⟨e1, e2⟩ := lp_and hok
        have e1 := Nat.eq_of_beq_eq_true e1
        have e2 := Nat.eq_of_beq_eq_true e2
        subst e1
        subst e2
        exact lpW_Il hnx (fun lm H locs ce sl rest x hx k => lv_iload X.1 X.2.1 hd hx k) h
      case iload_n i =>
        obtain ⟨e1, e2⟩ := lp_and hok
        have e1 := Nat.eq_of_beq_eq_true e1
        have e2 := Nat.eq_of_beq_eq_true e2
        subst e1
        subst e2
        exact lpW_Il hnx (fun lm H locs ce sl rest x hx k => lv_iload_n X.1 X.2.1 hd rfl hx k) h
      case astore i =>
        obtain ⟨e0, e3⟩ := lp_and hok
        obtain ⟨e1, e2⟩ := lp_and e0
        have e1 := Nat.eq_of_beq_eq_true e1
        have e2 := Nat.eq_of_beq_eq_true e2
        have e3 : a < lp_mx mo := Nat.le_of_ble_eq_true e3
        subst e1
        subst e2
        exact lpW_As X hnx (fun lm H locs ce sl rest x lv lv' h1 h2 k => lv_astore X.1 X.2.1 hd h1 e3 h2 k) h
      case astore_n i =>
        obtain ⟨e0, e3⟩ := lp_and hok
        obtain ⟨e1, e2⟩ := lp_and e0
        have e1 := Nat.eq_of_beq_eq_true e1
        have e2 := Nat.eq_of_beq_eq_true e2
        have e3 : a < lp_mx mo := Nat.le_of_ble_eq_true e3
        subst e1
        subst e2
        exact lpW_As X hnx (fun lm H locs ce sl rest x lv lv' h1 h2 k => lv_astore_n X.1 X.2.1 hd rfl h1 e3 h2 k) h
      case istore i =>
        obtain ⟨e0, e3⟩ := lp_and hok
        obtain ⟨e1, e2⟩ := lp_and e0
        have e1 := Nat.eq_of_beq_eq_true e1
        have e2 := Nat.eq_of_beq_eq_true e2
        have e3 : a < lp_mx mo := Nat.le_of_ble_eq_true e3
        subst e1
        subst e2
        exact lpW_Is X hnx (fun lm H locs ce sl rest x lv lv' h1 h2 k => lv_istore X.1 X.2.1 hd h1 e3 h2 k) h
      case istore_n i =>
        obtain ⟨e0, e3⟩ := lp_and hok
        obtain ⟨e1, e2⟩ := lp_and e0
        have e1 := Nat.eq_of_beq_eq_true e1
        have e2 := Nat.eq_of_beq_eq_true e2
        have e3 : a < lp_mx mo := Nat.le_of_ble_eq_true e3
        subst e1
        subst e2
        exact lpW_Is X hnx (fun lm H locs ce sl rest x lv lv' h1 h2 k => lv_istore_n X.1 X.2.1 hd rfl h1 e3 h2 k) h
      case iinc i n =>
        obtain ⟨e0, e4⟩ := lp_and hok
        obtain ⟨e0, e3⟩ := lp_and e0
        obtain ⟨e1, e2⟩ := lp_and e0
        have e1 := Nat.eq_of_beq_eq_true e1
        have e2 := of_decide_eq_true e2
        have e3 := Nat.eq_of_beq_eq_true e3
        have e4 : a < lp_mx mo := Nat.le_of_ble_eq_true e4
        subst e1
        subst e3
        exact lpW_Inc X e4 hnx (fun lm H locs ce sl rest x k lv lv' h1 h2 h3 kk => lv_iinc X.1 X.2.1 hd h1 h2 (by rw [e2]) e4 h3 kk) h
      case iconst n =>
        obtain ⟨e1, e2⟩ := lp_and hok
        have e1 := of_decide_eq_true e1
        have e2 := Nat.eq_of_beq_eq_true e2
        subst e2
        exact lpW_C hnx (fun lm H locs ce sl rest k => lv_iconst X.1 X.2.1 hd e1 k) h
      case bipush n =>
        obtain ⟨e1, e2⟩ := lp_and hok
        have e1 := of_decide_eq_true e1
        have e2 := Nat.eq_of_beq_eq_true e2
        subst e2
        exact lpW_C hnx (fun lm H locs ce sl rest k => lv_bipush X.1 X.2.1 hd e1 k) h
      case sipush n =>
        obtain ⟨e1, e2⟩ := lp_and hok
        have e1 := of_decide_eq_true e1
        have e2 := Nat.eq_of_beq_eq_true e2
        subst e2
        exact lpW_C hnx (fun lm H locs ce sl rest k => lv_sipush X.1 X.2.1 hd e1 k) h
      case ldc i =>
        obtain ⟨e1, e2⟩ := lp_and hok
        have e1 := Nat.eq_of_beq_eq_true e1
        subst e1
        simp only [lp_i] at h
        cases hz : Nat.beq (t.getD 0 0) 0 <;> simp only [hz, cond_true, cond_false] at h e2
        · obtain ⟨e2, e3⟩ := lp_and e2
          have e2 := of_decide_eq_true e2
          have e3 : a < 18 := Nat.le_of_ble_eq_true e3
          obtain ⟨adK, adV, hS, hv⟩ := X.2.2.2.2.2.1.2.2.2.1
          have h5 := (hv a e3).2.2
          have f1 : (lp_so a).1 = lp_ow mo := congrArg Prod.fst e2
          have f2 : (lp_so a).2.1 = i := congrArg (fun x => x.2.1) e2
          rw [f1, f2] at h5
          refine lpW_S hnx (fun lm H locs ce sl rest _ k => va_ldcS X.1 X.2.1 X.2.2.2.1 h5 hd ?_) h
          rw [(hv a e3).1] at k
          exact k
        · have e2 := of_decide_eq_true e2
          exact lpW_C hnx (fun lm H locs ce sl rest k => lv_ldc X.1 X.2.1 X.2.2.2.1 (X.2.2.2.2.1 _ (lp_gt_in e2 rfl)) hd k) h
      case ldc_w i =>
        obtain ⟨e1, e2⟩ := lp_and hok
        have e1 := Nat.eq_of_beq_eq_true e1
        subst e1
        simp only [lp_i] at h
        cases hz : Nat.beq (t.getD 0 0) 0 <;> simp only [hz, cond_true, cond_false] at h e2
        · obtain ⟨e2, e3⟩ := lp_and e2
          have e2 := of_decide_eq_true e2
          have e3 : a < 18 := Nat.le_of_ble_eq_true e3
          obtain ⟨adK, adV, hS, hv⟩ := X.2.2.2.2.2.1.2.2.2.1
          have h5 := (hv a e3).2.2
          have f1 : (lp_so a).1 = lp_ow mo := congrArg Prod.fst e2
          have f2 : (lp_so a).2.1 = i := congrArg (fun x => x.2.1) e2
          rw [f1, f2] at h5
          refine lpW_S hnx (fun lm H locs ce sl rest _ k => lp_ldcwS X.1 X.2.1 X.2.2.2.1 h5 hd ?_) h
          rw [(hv a e3).1] at k
          exact k
        · have e2 := of_decide_eq_true e2
          exact lpW_C hnx (fun lm H locs ce sl rest k => lv_ldcw X.1 X.2.1 X.2.2.2.1 (X.2.2.2.2.1 _ (lp_gt_in e2 rfl)) hd k) h
      case iadd =>
        have e1 := Nat.eq_of_beq_eq_true hok
        subst e1
        exact lpW_2 hnx (fun lm H locs ce sl rest x y k => lv_iadd X.1 X.2.1 hd k) h
      case isub =>
        have e1 := Nat.eq_of_beq_eq_true hok
        subst e1
        exact lpW_2 hnx (fun lm H locs ce sl rest x y k => lv_isub X.1 X.2.1 hd k) h
      case imul =>
        have e1 := Nat.eq_of_beq_eq_true hok
        subst e1
        exact lpW_2 hnx (fun lm H locs ce sl rest x y k => lv_imul X.1 X.2.1 hd k) h
      case iand =>
        have e1 := Nat.eq_of_beq_eq_true hok
        subst e1
        exact lpW_2 hnx (fun lm H locs ce sl rest x y k => lv_iand X.1 X.2.1 hd k) h
      case ior =>
        have e1 := Nat.eq_of_beq_eq_true hok
        subst e1
        exact lpW_2 hnx (fun lm H locs ce sl rest x y k => lv_ior X.1 X.2.1 hd k) h
      case ixor =>
        have e1 := Nat.eq_of_beq_eq_true hok
        subst e1
        exact lpW_2 hnx (fun lm H locs ce sl rest x y k => lv_ixor X.1 X.2.1 hd k) h
      case ishl =>
        have e1 := Nat.eq_of_beq_eq_true hok
        subst e1
        exact lpW_2 hnx (fun lm H locs ce sl rest x y k => lv_ishl X.1 X.2.1 hd k) h
      case ishr =>
        have e1 := Nat.eq_of_beq_eq_true hok
        subst e1
        exact lpW_2 hnx (fun lm H locs ce sl rest x y k => lv_ishr X.1 X.2.1 hd k) h
      case idiv =>
        have e1 := Nat.eq_of_beq_eq_true hok
        subst e1
        exact lpW_2d hnx (fun lm H locs ce sl rest x y hy k => lv_idiv X.1 X.2.1 hd hy k) h
      case irem =>
        have e1 := Nat.eq_of_beq_eq_true hok
        subst e1
        exact lpW_2d hnx (fun lm H locs ce sl rest x y hy k => lv_irem X.1 X.2.1 hd hy k) h
      case iushr =>
        have e1 := Nat.eq_of_beq_eq_true hok
        subst e1
        exact lpW_2 hnx (fun lm H locs ce sl rest x y k => lv_iushr X.1 X.2.1 hd rfl k) h
      case i2b =>
        have e1 := Nat.eq_of_beq_eq_true hok
        subst e1
        exact lpW_1 hnx (fun lm H locs ce sl rest x k => lv_i2b X.1 X.2.1 hd rfl k) h
      case i2c =>
        have e1 := Nat.eq_of_beq_eq_true hok
        subst e1
        exact lpW_1 hnx (fun lm H locs ce sl rest x k => lv_i2c X.1 X.2.1 hd rfl k) h
      case dup =>
        have e1 := Nat.eq_of_beq_eq_true hok
        subst e1
        exact lpW_Dup hnx (fun lm H locs ce sl rest v hv k => lv_dup X.1 X.2.1 hd hv k) h
      case dup2 =>
        have e1 := Nat.eq_of_beq_eq_true hok
        subst e1
        exact lpW_Dup2 hnx (fun lm H locs ce sl rest v u hv hu k => lv_dup2_11 X.1 X.2.1 hd hv hu k) h
      case pop =>
        have e1 := Nat.eq_of_beq_eq_true hok
        subst e1
        exact lpW_Pop hnx (fun lm H locs ce sl rest v hv k => lv_pop X.1 X.2.1 hd hv k) h
      case goto of =>
        obtain ⟨e1, e2⟩ := lp_and hok
        have e1 := of_decide_eq_true e1
        have e2 := Nat.eq_of_beq_eq_true e2
        subst e2
        exact lpW_Goto X hd e1 hjp h
      case ifCond cd of =>
        obtain ⟨e1, e2⟩ := lp_and hok
        have e1 := of_decide_eq_true e1
        have e2 := Nat.eq_of_beq_eq_true e2
        subst e2
        exact lpW_If X hd e1 hnx hjp h
      case if_icmp cd of =>
        obtain ⟨e1, e2⟩ := lp_and hok
        have e1 := of_decide_eq_true e1
        have e2 := Nat.eq_of_beq_eq_true e2
        subst e2
        exact lpW_Cmp X hd e1 hnx hjp h
      case tableswitch df lo hi offs =>
        obtain ⟨e0, e5⟩ := lp_and hok
        obtain ⟨e0, e4⟩ := lp_and e0
        obtain ⟨e0, e3⟩ := lp_and e0
        obtain ⟨e1, e2⟩ := lp_and e0
        exact lpW_Sw X hd (of_decide_eq_true e1) (of_decide_eq_true e2) (of_decide_eq_true e3) (of_decide_eq_true e5) hjp h
      case getfield i =>
        obtain ⟨e1, e2⟩ := lp_and hok
        have e1 := Nat.eq_of_beq_eq_true e1
        subst e1
        simp only [lp_i] at h
        generalize t.getD 0 0 = z at h e2
        rcases z with _ | _ | _ | z
        · obtain ⟨e2, e6⟩ := lp_and e2
          obtain ⟨e2, e5⟩ := lp_and e2
          obtain ⟨e3, e4⟩ := lp_and e2
          exact lpW_GI X hd (Nat.le_of_ble_eq_true e3) (Nat.le_of_ble_eq_true e4) (of_decide_eq_true e6) (by simpa using e5) hnx h
        · obtain ⟨e2, e6⟩ := lp_and e2
          obtain ⟨e2, e5⟩ := lp_and e2
          obtain ⟨e3, e4⟩ := lp_and e2
          exact lpW_GR X hd (Nat.le_of_ble_eq_true e3) (Nat.le_of_ble_eq_true e4) (of_decide_eq_true e6) e5 hnx h
        · exact lpW_GV X hd (of_decide_eq_true e2) hnx h
        · exact lpW_GC X hd (of_decide_eq_true e2) hnx h
      case putfield i =>
        obtain ⟨e0, e6⟩ := lp_and hok
        obtain ⟨e0, e5⟩ := lp_and e0
        obtain ⟨e0, e4⟩ := lp_and e0
        obtain ⟨e0, e3⟩ := lp_and e0
        obtain ⟨e1, e2⟩ := lp_and e0
        have e1 := Nat.eq_of_beq_eq_true e1
        subst e1
        have hf : (lp_T a b).2.2.2 = true → (lp_nd mo).1 = "<init>" ∧ lp_ow mo = a := by
          intro hf
          rw [hf] at e5
          obtain ⟨e7, e8⟩ := lp_and e5
          exact ⟨of_decide_eq_true e7, Nat.eq_of_beq_eq_true e8⟩
        simp only [lp_i] at h
        generalize t.getD 0 0 = z at h e6
        rcases z with _ | _ | z
        · obtain ⟨e6, e7⟩ := lp_and e6
          exact lpW_PI X hd (Nat.le_of_ble_eq_true e2) (Nat.le_of_ble_eq_true e3) (of_decide_eq_true e4) hf (by simpa using e6) (of_decide_eq_true e7) hnx h
        · exact lpW_PR X hd (Nat.le_of_ble_eq_true e2) (Nat.le_of_ble_eq_true e3) (of_decide_eq_true e4) hf e6 hnx h
        · obtain ⟨e6, e7⟩ := lp_and e6
          exact lpW_PZ X hd (Nat.le_of_ble_eq_true e2) (Nat.le_of_ble_eq_true e3) (of_decide_eq_true e4) hf (by simpa using e6) (of_decide_eq_true e7) hnx h
      case getstatic i =>
        obtain ⟨e1, e2⟩ := lp_and hok
        have e1 := Nat.eq_of_beq_eq_true e1
        subst e1
        simp only [lp_i] at h
        cases hz : Nat.beq (t.getD 0 0) 0 <;> simp only [hz, cond_true, cond_false] at h e2
        · exact lpW_S hnx (fun lm H locs ce sl rest hS k => va_gets X.1 X.2.1 X.2.2.2.2.2.1.2.2.2.2.2.1 hS X.2.2.2.1 (X.2.2.2.2.1 _ (lp_gt_in (of_decide_eq_true e2) rfl)) (fun x hx => hx) hd k) h
        · exact lpW_C1 hnx (fun lm H locs ce sl rest hS k => va_gets X.1 X.2.1 X.2.2.2.2.2.1.2.2.2.2.1 hS X.2.2.2.1 (X.2.2.2.2.1 _ (lp_gt_in (of_decide_eq_true e2) rfl)) (fun x hx => hx) hd k) h
      case iaload =>
        have e1 := Nat.eq_of_beq_eq_true hok
        subst e1
        simp only [lp_i] at h
        cases hz : Nat.beq a 300 <;> simp only [hz, cond_true, cond_false] at h
        · exact lpW_Ial20 X hd hnx h
        · exact lpW_Scr X hd hnx h
      case baload =>
        have e1 := Nat.eq_of_beq_eq_true hok
        subst e1
        simp only [lp_i] at h
        cases hz : Nat.beq a 100 <;> simp only [hz, cond_true, cond_false] at h
        · cases hz2 : Nat.beq a 21 <;> simp only [hz2, cond_true, cond_false] at h
          · exact lpW_Ial22 X hd hnx h
          · exact lpW_Ial21 X hd hnx h
        · exact lpW_Str X hd hnx h
      case aaload =>
        have e1 := Nat.eq_of_beq_eq_true hok
        subst e1
        simp only [lp_i] at h
        cases hz : Nat.beq a 23 <;> simp only [hz, cond_true, cond_false] at h
        · exact lpW_Aal24 X hd hnx h
        · exact lpW_Aal23 X hd hnx h
      case iastore =>
        have e1 := Nat.eq_of_beq_eq_true hok
        subst e1
        exact lpW_Ias20 X hd hnx h
      case bastore =>
        have e1 := Nat.eq_of_beq_eq_true hok
        subst e1
        simp only [lp_i] at h
        cases hz : Nat.beq a 21 <;> simp only [hz, cond_true, cond_false] at h
        · exact lpW_Ias22 X hd hnx h
        · exact lpW_Ias21 X hd hnx h
      case aastore =>
        have e1 := Nat.eq_of_beq_eq_true hok
        subst e1
        exact lpW_Aas24 X hd hnx h
      case arraylength =>
        obtain ⟨e1, e2⟩ := lp_and hok
        have e1 := Nat.eq_of_beq_eq_true e1
        subst e1
        exact lpW_Len X hd (Nat.le_of_ble_eq_true e2) hnx h
      case new i =>
        obtain ⟨e0, e4⟩ := lp_and hok
        obtain ⟨e0, e3⟩ := lp_and e0
        obtain ⟨e1, e2⟩ := lp_and e0
        have e1 := Nat.eq_of_beq_eq_true e1
        subst e1
        exact lpW_New X hd (Nat.le_of_ble_eq_true e2) (Nat.eq_of_beq_eq_true e3) (of_decide_eq_true e4) hnK hnx h
      case newarray y =>
        obtain ⟨e1, e2⟩ := lp_and hok
        have e1 := Nat.eq_of_beq_eq_true e1
        subst e1
        cases y <;> first | (cases e2; done) | skip
        · have e2 := Nat.eq_of_beq_eq_true e2
          subst e2
          exact lpW_Na22 X hd hnK hnx h
        · have e2 := Nat.eq_of_beq_eq_true e2
          subst e2
          exact lpW_Na21 X hd hnK hnx h
        · have e2 := Nat.eq_of_beq_eq_true e2
          subst e2
          exact lpW_Na20 X hd hnK hnx h
      case anewarray i =>
        obtain ⟨e0, e3⟩ := lp_and hok
        obtain ⟨e1, e2⟩ := lp_and e0
        have e1 := Nat.eq_of_beq_eq_true e1
        have e2 := Nat.eq_of_beq_eq_true e2
        subst e1
        subst e2
        exact lpW_Na24 X hd (of_decide_eq_true e3) hnK hnx h
      case multianewarray i n =>
        obtain ⟨e0, e3⟩ := lp_and hok
        obtain ⟨e1, e2⟩ := lp_and e0
        have e1 := Nat.eq_of_beq_eq_true e1
        have e2 := Nat.eq_of_beq_eq_true e2
        subst e1
        subst e2
        exact lpW_Mna X hd (of_decide_eq_true e3) hnK hnx h
      case invokevirtual i =>
        obtain ⟨e0, e6⟩ := lp_and hok
        obtain ⟨e0, e5⟩ := lp_and e0
        obtain ⟨e0, e4⟩ := lp_and e0
        obtain ⟨e0, e3⟩ := lp_and e0
        obtain ⟨e1, e2⟩ := lp_and e0
        have e1 := Nat.eq_of_beq_eq_true e1
        subst e1
        have e2 : a < 293 := Nat.le_of_ble_eq_true e2
        have e3 : lp_kd a = 0 ∨ lp_kd a = 4 := by
          rw [Bool.or_eq_true] at e3
          exact e3.imp Nat.eq_of_beq_eq_true Nat.eq_of_beq_eq_true
        have e5 := Nat.eq_of_beq_eq_true e5
        exact lpW_CalV X hd e2 e3 (of_decide_eq_true e4) (by rw [e5]; cases (lp_rt a).isSome <;> rfl) e6 hR (hcl a e2) h
      case invokestatic i =>
        obtain ⟨e1, e2⟩ := lp_and hok
        have e1 := Nat.eq_of_beq_eq_true e1
        subst e1
        simp only [lp_i] at h
        generalize t.getD 0 0 = z at h e2
        have fin : ∀ qq, (qq = some (Cond.methodLink (lp_cn (lp_ow mo)) i (lp_y a)) ∨ qq = some (Cond.methodLinkNest (lp_cn (lp_ow mo)) i (lp_y a) "LampPresses")) → qq = lp_wd (t.getD 2 0) → a < 293 → lp_kd a = 1 → t.getD 1 0 = (bif (lp_rt a).isSome then 1 else 0) → lp_nar a b 0 = true → lp_xCal a b (t.getD 1 0) cl ls stk st = some r → lp_Wt p l e R s m args below meth c Q base K0 mo D dA sv L0 xs pc ls stk st := by
          intro qq hw hqq h2 h3 h5 h6 h
          rw [hqq] at hw
          exact lpW_CalS X hd h2 h3 hw (by rw [h5]; cases (lp_rt a).isSome <;> rfl) h6 hR (hcl a h2) h
        by_cases z6 : z = 6
        · subst z6
          exact lpW_Cpy X hd (of_decide_eq_true e2) hnx h
        by_cases z7 : z = 7
        · subst z7
          exact lpW_Max X hd (of_decide_eq_true e2) hnK hnx h
        by_cases z8 : z = 8
        · subst z8
          exact lpW_Min X hd (of_decide_eq_true e2) hnK hnx h
        by_cases z9 : z = 9
        · subst z9
          exact absurd (show (none : lp_O) = some r from h) (by simp)
        by_cases z3 : z = 3
        · subst z3
          obtain ⟨e0, e6⟩ := lp_and e2
          obtain ⟨e0, e5⟩ := lp_and e0
          obtain ⟨e0, e4⟩ := lp_and e0
          obtain ⟨e2, e3⟩ := lp_and e0
          exact fin _ (Or.inr (of_decide_eq_true e4)) rfl (Nat.le_of_ble_eq_true e2) (Nat.eq_of_beq_eq_true e3) (Nat.eq_of_beq_eq_true e5) e6 h
        · have e2 : (Nat.blt a 293 && Nat.beq (lp_kd a) 1 && decide (lp_wd (t.getD 2 0) = some (.methodLink (lp_cn (lp_ow mo)) i (lp_y a))) && Nat.beq (t.getD 1 0) (bif (lp_rt a).isSome then 1 else 0) && lp_nar a b 0) = true := by
            revert e2
            split <;> first | (intro e; exact e) | (intro e; omega)
          have h : lp_xCal a b (t.getD 1 0) cl ls stk st = some r := by
            revert h
            split <;> first | (intro e; exact e) | (intro e; omega)
          obtain ⟨e0, e6⟩ := lp_and e2
          obtain ⟨e0, e5⟩ := lp_and e0
          obtain ⟨e0, e4⟩ := lp_and e0
          obtain ⟨e2, e3⟩ := lp_and e0
          exact fin _ (Or.inl (of_decide_eq_true e4)) rfl (Nat.le_of_ble_eq_true e2) (Nat.eq_of_beq_eq_true e3) (Nat.eq_of_beq_eq_true e5) e6 h
      case invokespecial i =>
        obtain ⟨e1, e2⟩ := lp_and hok
        have e1 := Nat.eq_of_beq_eq_true e1
        subst e1
        simp only [lp_i] at h
        generalize t.getD 0 0 = z at h e2
        have fin : ∀ qq, (qq = some (Cond.methodLink (lp_cn (lp_ow mo)) i (lp_y a)) ∨ qq = some (Cond.methodLinkNest (lp_cn (lp_ow mo)) i (lp_y a) "LampPresses")) → qq = lp_wd (t.getD 2 0) → a < 293 → lp_kd a = 2 → t.getD 1 0 = 0 → lp_nar a b 1 = true → lp_xCalI a b (t.getD 1 0) cl ls stk st = some r → lp_Wt p l e R s m args below meth c Q base K0 mo D dA sv L0 xs pc ls stk st := by
          intro qq hw hqq h2 h3 h5 h6 h
          rw [hqq] at hw
          exact lpW_CalI X hd h2 h3 hw h5 h6 hR (hcl a h2) h
        by_cases z5 : z = 5
        · subst z5
          exact lpW_Obj X hd (of_decide_eq_true e2) hnx h
        by_cases z4 : z = 4
        · subst z4
          obtain ⟨e0, e6⟩ := lp_and e2
          obtain ⟨e0, e5⟩ := lp_and e0
          obtain ⟨e0, e4⟩ := lp_and e0
          obtain ⟨e2, e3⟩ := lp_and e0
          exact fin _ (Or.inr (of_decide_eq_true e4)) rfl (Nat.le_of_ble_eq_true e2) (Nat.eq_of_beq_eq_true e3) (Nat.eq_of_beq_eq_true e5) e6 h
        · have e2 : (Nat.blt a 293 && Nat.beq (lp_kd a) 2 && decide (lp_wd (t.getD 2 0) = some (.methodLink (lp_cn (lp_ow mo)) i (lp_y a))) && Nat.beq (t.getD 1 0) 0 && lp_nar a b 1) = true := by
            revert e2
            split <;> first | (intro e; exact e) | (intro e; omega)
          have h : lp_xCalI a b (t.getD 1 0) cl ls stk st = some r := by
            revert h
            split <;> first | (intro e; exact e) | (intro e; omega)
          obtain ⟨e0, e6⟩ := lp_and e2
          obtain ⟨e0, e5⟩ := lp_and e0
          obtain ⟨e0, e4⟩ := lp_and e0
          obtain ⟨e2, e3⟩ := lp_and e0
          exact fin _ (Or.inl (of_decide_eq_true e4)) rfl (Nat.le_of_ble_eq_true e2) (Nat.eq_of_beq_eq_true e3) (Nat.eq_of_beq_eq_true e5) e6 h
      case ireturn =>
        obtain ⟨e1, e2⟩ := lp_and hok
        have e1 := Nat.eq_of_beq_eq_true e1
        subst e1
        simp only [lp_i, lp_xRet] at h
        split at h
        · next v =>
          rcases a with _ | _ | _ | _ | a
          · exact hretI pc ls v st .int hd (of_decide_eq_true e2) rfl (Option.some.inj h)
          · simp only at h
            split at h
            · next hv => exact hretI pc ls v st .boolean hd (of_decide_eq_true e2) (by rcases hv with e | e <;> rw [e] <;> rfl) (Option.some.inj h)
            · cases h
          · simp only at h
            split at h
            · next hv => exact hretI pc ls v st .char hd (of_decide_eq_true e2) (by rw [← hv]; exact sc_nar v) (Option.some.inj h)
            · cases h
          · simp only at h
            split at h
            · next hv => exact hretI pc ls v st .byte hd (of_decide_eq_true e2) (by rw [← hv]; exact pk_nb v) (Option.some.inj h)
            · cases h
          · simp only at h
            split at h
            · next hv => exact hretI pc ls v st .char hd (of_decide_eq_true e2) (by rw [← hv]; exact sc_nar v) (Option.some.inj h)
            · cases h
        · cases h
      case return_ =>
        obtain ⟨e1, e2⟩ := lp_and hok
        have e1 := Nat.eq_of_beq_eq_true e1
        subst e1
        simp only [lp_i, lp_xVret] at h
        split at h
        · exact hretV pc ls st hd (of_decide_eq_true e2) (Option.some.inj h)
        · cases h
      all_goals exact absurd (show (none : lp_O) = some r from h) (by simp)
end lpW
end
section
/-! ===== a run of the small machine is a contract of the machine ===== -/
theorem lp_rl_cat {base : Nat} {sv : Nat → Value} (hsv : ∀ k, (sv k).category = 1) {v : Value} (h : lp_good v = true) : (lp_rl base sv v).category = 1 := by
  cases v <;> first | rfl | exact hsv _ | cases h
theorem lp_sl_len {base : Nat} {sv : Nat → Value} (hsv : ∀ k, (sv k).category = 1) : ∀ (as : List Value), as.all lp_good = true → (lg_sl (as.map (lp_rl base sv))).length = as.length
  | [], _ => rfl
  | v :: as, h => by
    rw [List.all_cons, Bool.and_eq_true] at h
    have h1 := lp_rl_cat (base := base) hsv h.1
    have h2 := lp_sl_len (base := base) hsv as h.2
    show ((if (lp_rl base sv v).category = 2 then [Slot.val _, Slot.second] else [Slot.val _]) ++ lg_sl (as.map (lp_rl base sv))).length = _
    rw [if_neg (by rw [h1]; decide), List.length_append, h2, List.length_cons]
    simp [Nat.add_comm]
theorem lp_args_mem {base : Nat} {sv : Nat → Value} (hsv : ∀ k, (sv k).category = 1) : ∀ (as : List Value) (k i : Nat), as.all lp_good = true → i < as.length → (k + i, lp_rl base sv (lp_nth as i)) ∈ lv_args k (as.map (lp_rl base sv))
  | [], _, _, _, h => by simp at h
  | v :: as, k, i, h, hi => by
    rw [List.all_cons, Bool.and_eq_true] at h
    have h1 := lp_rl_cat (base := base) hsv h.1
    show _ ∈ (k, lp_rl base sv v) :: lv_args (if (lp_rl base sv v).category = 2 then k + 2 else k + 1) (as.map (lp_rl base sv))
    rw [if_neg (by rw [h1]; decide)]
    cases i with
    | zero => exact List.mem_cons_self
    | succ i =>
      have h2 := lp_args_mem (base := base) hsv as (k + 1) i h.2 (by simpa using hi)
      rw [show k + 1 + i = k + (i + 1) by omega] at h2
      exact List.mem_cons_of_mem _ h2
theorem lp_nth_app : ∀ (as bs : List Value) (i : Nat), lp_nth (as ++ bs) i = if i < as.length then lp_nth as i else lp_nth bs (i - as.length)
  | [], bs, i => by simp
  | v :: as, bs, 0 => by simp [lp_nth]
  | v :: as, bs, i + 1 => by
    show lp_nth (as ++ bs) i = _
    rw [lp_nth_app as bs i]
    by_cases h : i < as.length
    · rw [if_pos h, if_pos (by simpa using h)]; rfl
    · rw [if_neg h, if_neg (by simpa using h)]
      simp
theorem lp_nth_rep : ∀ (n i : Nat), lp_nth (List.replicate n (.long 0)) i = .long 0
  | 0, _ => rfl
  | _ + 1, 0 => rfl
  | n + 1, i + 1 => lp_nth_rep n i
theorem lp_L_entry {base : Nat} {sv : Nat → Value} (hsv : ∀ k, (sv k).category = 1) {m : Nat} {as : List Value} (h : as.all lp_good = true) (hl : as.length ≤ lp_mx m) :
    lp_L base sv ((lg_sl (as.map (lp_rl base sv)) ++ List.replicate (lp_mx m - (lg_sl (as.map (lp_rl base sv))).length) Slot.unset).toArray) (lp_mx m) (lp_ini m as) := by
  have h1 := lv_entry (as.map (lp_rl base sv)) (n := lp_mx m) (by rw [lp_sl_len hsv as h]; exact hl)
  refine ⟨h1.1, h1.2.1, fun i hi => ?_⟩
  unfold lp_ini at hi ⊢
  rw [lp_nth_app] at hi ⊢
  by_cases hlt : i < as.length
  · rw [if_pos hlt]
    have h2 := h1.2.2 _ (lp_args_mem hsv as 0 i h hlt)
    rw [Nat.zero_add] at h2
    exact h2
  · rw [if_neg hlt, lp_nth_rep] at hi
    cases hi
theorem lp_plainC (c : Nat) (hc : c < 20) (hc2 : c ≠ 12) : plainName (lp_cn c) = true := by
  have h : c = 0 ∨ c = 1 ∨ c = 2 ∨ c = 3 ∨ c = 4 ∨ c = 5 ∨ c = 6 ∨ c = 7 ∨ c = 8 ∨ c = 9 ∨ c = 10 ∨ c = 11 ∨ c = 13 ∨ c = 14 ∨ c = 15 ∨ c = 16 ∨ c = 17 ∨ c = 18 ∨ c = 19 := by omega
  rcases h with rfl | rfl | rfl | rfl | rfl | rfl | rfl | rfl | rfl | rfl | rfl | rfl | rfl | rfl | rfl | rfl | rfl | rfl | rfl <;> decide
theorem lp_plain (m : Nat) (hm : m < 293) (h2 : lp_ow m ≠ 12) : plainName (lp_y m).cls = true := lp_plainC _ (lp_ow_lt m (by omega)) h2
theorem lp_bkW {p : Program} {l : Launch} {e : Env} {R : Room} {s : State} {m : MethodId} {args : Array Value} {below : List Frame} {meth : Method} {c : Code} {Q : State → Prop} {base K0 mo : Nat} {D : va_G} {dA : Nat → ClassId} {sv : Nat → Value} {b0 L0 : Nat} {xs : Nat → Int32} {r : Int32 × lp_S} {d : Nat}
    (X : lp_Cx p R s m args meth c base K0 mo D dA sv b0 L0 xs r) (hmo : mo < 294) {call : Nat → List Value → lp_S → lp_O} (hR : d + 3 ≤ R.frames ∧ 100 * d + 300 ≤ R.locals)
    (hcall : ∀ a as st x, a < 293 → call a as st = some x → lp_Met l base D dA sv b0 L0 xs d a as st x) (hcK : ∀ m as st x, call m as st = some x → st.1 ≤ x.2.1)
    (hretI : ∀ pc ls v st ty, decode (lp_b mo) pc = .ok (.ireturn, 1) → lp_rt mo = some ty → narrow ty (.int v) = .int v → (v, st) = r → lp_Wt p l e R s m args below meth c Q base K0 mo D dA sv L0 xs pc ls [.int v] st)
    (hretV : ∀ pc ls st, decode (lp_b mo) pc = .ok (.return_, 1) → lp_rt mo = none → ((0 : Int32), st) = r → lp_Wt p l e R s m args below meth c Q base K0 mo D dA sv L0 xs pc ls [] st) :
    ∀ n pc ls stk st, lp_bk call (lp_cd mo) n pc ls stk st = some r → lp_Wt p l e R s m args below meth c Q base K0 mo D dA sv L0 xs pc ls stk st
  | 0 => fun _ _ _ _ h => by cases h
  | n + 1 => fun pc ls stk st h => lp_segW X hmo hR hcall hcK (lp_bk_K hcK (lp_cd mo) n) (lp_bkW X hmo hR hcall hcK hretI hretV n) hretI hretV 1200 pc ls stk st h
theorem lp_runMet (l : Launch) (base : Nat) (D : va_G) (dA : Nat → ClassId) (sv : Nat → Value) (b0 L0 : Nat) (xs : Nat → Int32) : ∀ (d n m : Nat) (as : List Value) (st : lp_S) (x : Int32 × lp_S), m < 293 → lp_run (d + 1) n m as st = some x → lp_Met l base D dA sv b0 L0 xs (d + 1) m as st x := by
  have key : ∀ (d n : Nat), (∀ (m : Nat) (as : List Value) (st : lp_S) (x : Int32 × lp_S), m < 293 → lp_run d n m as st = some x → lp_Met l base D dA sv b0 L0 xs d m as st x) → ∀ (m : Nat) (as : List Value) (st : lp_S) (x : Int32 × lp_S), m < 293 → lp_run (d + 1) n m as st = some x → lp_Met l base D dA sv b0 L0 xs (d + 1) m as st x := by
    intro d n ih m as st x hm h
    have hK := lp_run_K _ _ _ _ _ _ h
    simp only [lp_run] at h
    cases hc : (Nat.ble as.length (lp_mx m) && (as.all lp_good && !Nat.beq (lp_ow m) 12)) <;> simp only [hc, cond_true, cond_false] at h
    · cases h
    · obtain ⟨hl, hg⟩ := lp_and hc
      obtain ⟨hg, hnm⟩ := lp_and hg
      have hnm : lp_ow m ≠ 12 := fun e => by rw [e] at hnm; cases hnm
      have hl : as.length ≤ lp_mx m := Nat.le_of_ble_eq_true hl
      unfold lp_Met
      refine Met.ofW (cc := lp_b m) (maxL := lp_mx m) (ret := lp_rt m) (lp_plain m hm hnm) rfl ?_
      intro p e s mi args below meth c s₁ B hml hv
      obtain ⟨hargs, hsz, hP, hE, hScr⟩ := hv
      have hts := atoms_spec (ws := lp_wsm m) B.pre
      have X : lp_Cx p (headSpec (lp_wsm m) (lp_rm (d + 1) (x.2.1 - st.1) (lp_sl x.2.1 - lp_sl st.1))).room s mi args meth c base st.1 m D dA sv b0 L0 xs x :=
        ⟨B.exec, B.bytes, hml, findClass_of_methodNamed B.named, fun w hw => hts w (List.mem_cons_of_mem _ hw), hE, fun hi => (name_of_methodNamed B.named B.method).1.trans hi, by show 200 ≤ 100 * (d + 1) + 200; omega, by show 2 ≤ d + 1 + 2; omega, Nat.le_refl _, Nat.le_refl _, hsz.symm⟩
      have hret : meth.sig.returnType = lp_rt m := B.returns
      have hbody := lp_bkW (l := l) (e := e) (below := below) (Q := MQ below (lp_Qc base D dA L0 xs (lp_rt m) x) args s (x.2.1 - st.1) (lp_sl x.2.1 - lp_sl st.1) (lp_A base)) X (by omega) (d := d) ⟨by show d + 3 ≤ d + 1 + 2; omega, by show 100 * d + 300 ≤ 100 * (d + 1) + 200; omega⟩ (fun a as st x ha h => ih a as st x ha h) (lp_run_K d n)
        (fun pc ls v st' ty hd hty hn e => by subst e; exact lpW_retI X hret B.notSynchronized hd hty hn) (fun pc ls st' hd hty e => by subst e; exact lpW_retV X hret B.notSynchronized hd hty) n 0 (lp_ini m as) [] st h
      subst hargs
      rw [lg_entry_eq]
      have hI : lp_Iv s (lp_mx m) base st.1 D dA sv L0 xs ((lg_sl (as.map (lp_rl base sv)) ++ List.replicate (lp_mx m - (lg_sl (as.map (lp_rl base sv))).length) Slot.unset).toArray) (lp_ini m as) st s.heap [] := ⟨lp_L_entry hE.2.2.1 hg hl, trivial, hP, va_S.rf, hScr, Nat.le_refl _⟩
      have h3 := hbody _ _ _ hI
      rw [Nat.sub_self, Nat.sub_self] at h3
      exact h3
  intro d n
  induction d with
  | zero => exact key 0 n (fun _ _ _ _ _ h => by cases h)
  | succ d ih => exact key (d + 1) n ih
end
section
/-! ===== the cells behind the constructors; the law out of a run (printed by wip/whole/gen_start.py) ===== -/
/-- where the references of a cell lead -/
def lp_tg (k j : Nat) : Nat := bif Nat.beq (lp_sh k).1 23 then k + 1 + j else bif Nat.beq (lp_sh k).1 24 then k + 1 + 17 * j else (bif Nat.beq (lp_sh k).1 8 then k + ([0, 1] : List Nat).getD j 0 else (bif Nat.beq (lp_sh k).1 7 then k + ([0, 0, 0, 0, 0, 1, 12, 23, 24, 25, 26] : List Nat).getD j 0 else (bif Nat.beq (lp_sh k).1 6 then k + ([0, 0, 1, 2, 0] : List Nat).getD j 0 else (bif Nat.beq (lp_sh k).1 4 then k + ([0, 0, 1] : List Nat).getD j 0 else (bif Nat.beq (lp_sh k).1 3 then k + ([0, 0, 0, 1, 2, 3, 14] : List Nat).getD j 0 else (bif Nat.beq (lp_sh k).1 2 then k + ([0, 0, 1] : List Nat).getD j 0 else (bif Nat.beq (lp_sh k).1 1 then k + ([0, 0, 0, 1, 2, 3, 0, 0, 4, 5, 6] : List Nat).getD j 0 else (bif Nat.beq (lp_sh k).1 0 then k + ([0, 1, 2] : List Nat).getD j 0 else (bif Nat.beq (lp_sh k).1 10 then ([0, 344, 345, 346, 347, 0, 348, 349, 350, 351, 352, 353, 354, 355, 356, 357, 0, 358, 359, 360, 0, 361, 362, 363, 364, 0, 365, 366, 0, 367, 0, 368, 0, 0, 0, 0, 0] : List Nat).getD j 0 else (bif Nat.beq (lp_sh k).1 9 then ([1, 18, 224, 226, 244, 281, 318, 321, 324, 327, 336, 338, 340, 341, 342, 0, 0] : List Nat).getD j 0 else (bif Nat.beq (lp_sh k).1 5 then ([227, 224, 0, 0, 0] : List Nat).getD j 0 else 0)))))))))))
def lp_r0 : lp_R := fun k j => .ref (lp_tg k j)
abbrev lp_s0 (g : lp_M) : lp_S := (369, lp_r0, g)
def lp_blank : lp_S := (0, fun _ _ => .null, fun _ _ => 0)
def lp_Z1 : lp_S := ((lp_run 6 200 77 [.ref 0] (lp_grow 1 lp_blank)).getD (0, lp_blank)).2
def lp_Z2 : lp_S := ((lp_run 6 200 162 [.ref 343] (lp_grow 1 lp_Z1)).getD (0, lp_blank)).2
theorem lp_getD {x : lp_O} {S : lp_S} (h : x.map Prod.fst = some 0) : x = some (0, (x.getD (0, S)).2) := by
  cases x with
  | none => cases h
  | some x =>
    obtain ⟨a, b⟩ := x
    have : a = 0 := Option.some.inj h
    subst this
    rfl
set_option maxRecDepth 100000 in
theorem lp_Z1_run : lp_run 6 200 77 [.ref 0] (lp_grow 1 lp_blank) = some (0, lp_Z1) := by
  have h : (lp_run 6 200 77 [.ref 0] (lp_grow 1 lp_blank)).map Prod.fst = some 0 := by decide +kernel
  unfold lp_Z1
  exact lp_getD h
set_option maxRecDepth 100000 in
theorem lp_Z2_run : lp_run 6 200 162 [.ref 343] (lp_grow 1 lp_Z1) = some (0, lp_Z2) := by
  have h : (lp_run 6 200 162 [.ref 343] (lp_grow 1 lp_Z1)).map Prod.fst = some 0 := by decide +kernel
  unfold lp_Z2
  exact lp_getD h
def lp_chkR (S : lp_S) : Bool := (List.range 369).all fun k => (List.range (min 40 (lp_sh k).2)).all fun j => bif (Nat.blt (lp_sh k).1 11 && lp_isR (lp_sh k).1 j) || (Nat.beq (lp_sh k).1 23 || Nat.beq (lp_sh k).1 24) then decide (S.2.1 k j = .ref (lp_tg k j)) else true
/-- the numbers that the constructors leave: cell, place, number -/
def lp_n0 : List (Nat × Nat × Int32) := [(0, 15, 0), (0, 16, 0), (1, 0, 2), (1, 1, 0), (1, 2, 0), (15, 0, 0), (18, 0, 0), (18, 1, 0), (20, 0, 2), (20, 1, 0), (20, 2, 0), (34, 0, 0), (37, 0, 2), (37, 1, 0), (37, 2, 0), (51, 0, 0), (54, 0, 2), (54, 1, 0), (54, 2, 0), (68, 0, 0), (71, 0, 2), (71, 1, 0), (71, 2, 0), (85, 0, 0), (88, 0, 2), (88, 1, 0), (88, 2, 0), (102, 0, 0), (105, 0, 2), (105, 1, 0), (105, 2, 0), (119, 0, 0), (122, 0, 2), (122, 1, 0), (122, 2, 0), (136, 0, 0), (139, 0, 2), (139, 1, 0), (139, 2, 0), (153, 0, 0), (156, 0, 2), (156, 1, 0), (156, 2, 0), (170, 0, 0), (173, 0, 2), (173, 1, 0), (173, 2, 0), (187, 0, 0), (190, 0, 2), (190, 1, 0), (190, 2, 0), (204, 0, 0), (207, 0, 2), (207, 1, 0), (207, 2, 0), (221, 0, 0), (224, 0, 0), (226, 2, 0), (226, 3, 0), (226, 4, 0), (227, 0, 2), (227, 1, 0), (227, 2, 0), (241, 0, 0), (244, 0, 0), (244, 1, 0), (244, 2, 0), (244, 3, 0), (244, 4, 0), (281, 0, 0), (281, 1, 0), (281, 2, 0), (281, 3, 0), (281, 4, 0), (318, 0, 0), (318, 1, 0), (318, 4, 0), (321, 0, 0), (321, 1, 0), (321, 4, 1), (324, 0, 0), (324, 1, 0), (324, 4, 0), (327, 0, 0), (327, 1, 0), (327, 2, 0), (327, 6, 0), (327, 7, 0), (333, 0, 0), (333, 1, 0), (333, 4, 0), (336, 0, 0), (336, 1, 0), (338, 0, 0), (338, 1, 0), (343, 0, 0), (343, 5, 0), (343, 16, 0), (343, 20, 0), (343, 25, 0), (343, 28, 0), (343, 30, 0), (343, 32, 0), (343, 33, 0), (343, 34, 0), (343, 35, 0), (343, 36, 0), (344, 0, 2), (344, 1, 0), (344, 2, 0), (344, 3, 0), (344, 4, 0), (344, 5, 0), (344, 6, 0), (344, 7, 0), (344, 8, 0), (344, 9, 0), (344, 10, 0), (344, 11, 0), (344, 12, 0), (344, 13, 0), (344, 14, 0), (344, 15, 0), (344, 16, 0), (344, 17, 0), (344, 18, 0), (344, 19, 0), (344, 20, 0), (344, 21, 0), (344, 22, 0), (344, 23, 0), (344, 24, 0), (344, 25, 0), (344, 26, 0), (344, 27, 0), (344, 28, 0), (344, 29, 0), (344, 30, 0), (344, 31, 0), (344, 32, 0), (344, 33, 0), (344, 34, 0), (344, 35, 0), (344, 36, 0), (344, 37, 0), (344, 38, 0), (344, 39, 0), (344, 40, 0), (344, 41, 0), (344, 42, 0), (344, 43, 0), (344, 44, 0), (344, 45, 0), (344, 46, 0), (344, 47, 0), (344, 48, 0), (344, 49, 0), (344, 50, 0), (344, 51, 0), (344, 52, 0), (344, 53, 0), (344, 54, 0), (344, 55, 0), (344, 56, 0), (344, 57, 0), (344, 58, 0), (344, 59, 0), (344, 60, 0), (344, 61, 0), (344, 62, 0), (344, 63, 0), (344, 64, 0), (344, 65, 0), (344, 66, 0), (344, 67, 0), (344, 68, 0), (344, 69, 0), (344, 70, 0), (344, 71, 0), (344, 72, 0), (344, 73, 0), (344, 74, 0), (344, 75, 0), (344, 76, 0), (344, 77, 0), (344, 78, 0), (344, 79, 0), (344, 80, 0), (344, 81, 0), (344, 82, 0), (344, 83, 0), (344, 84, 0), (344, 85, 0), (344, 86, 0), (344, 87, 0), (344, 88, 0), (344, 89, 0), (344, 90, 0), (344, 91, 0), (344, 92, 0), (344, 93, 0), (344, 94, 0), (344, 95, 0), (344, 96, 0), (344, 97, 0), (344, 98, 0), (344, 99, 0), (344, 100, 0), (344, 101, 0), (344, 102, 0), (344, 103, 0), (344, 104, 0), (344, 105, 0), (344, 106, 0), (344, 107, 0), (344, 108, 0), (344, 109, 0), (344, 110, 0), (344, 111, 0), (344, 112, 0), (344, 113, 0), (344, 114, 0), (344, 115, 0), (344, 116, 0), (344, 117, 0), (344, 118, 0), (344, 119, 0), (344, 120, 0), (344, 121, 0), (344, 122, 0), (344, 123, 0), (344, 124, 0), (344, 125, 0), (344, 126, 0), (344, 127, 0), (344, 128, 0), (344, 129, 0), (344, 130, 0), (344, 131, 0), (344, 132, 0), (344, 133, 0), (344, 134, 0), (344, 135, 0), (344, 136, 0), (344, 137, 0), (344, 138, 0), (344, 139, 0), (344, 140, 0), (344, 141, 0), (344, 142, 0), (344, 143, 0), (344, 144, 0), (344, 145, 0), (344, 146, 0), (344, 147, 0), (344, 148, 0), (344, 149, 0), (344, 150, 0), (344, 151, 0), (344, 152, 0), (344, 153, 0), (344, 154, 0), (344, 155, 0), (344, 156, 0), (344, 157, 0), (344, 158, 0), (344, 159, 0), (344, 160, 0), (344, 161, 0), (344, 162, 0), (344, 163, 0), (344, 164, 0), (344, 165, 0), (344, 166, 0), (344, 167, 0), (344, 168, 0), (344, 169, 0), (344, 170, 0), (344, 171, 0), (344, 172, 0), (344, 173, 0), (368, 0, 115), (368, 1, 116), (368, 2, 97), (368, 3, 116), (368, 4, 101), (368, 5, 115), (368, 6, 0), (368, 7, 108), (368, 8, 97), (368, 9, 109), (368, 10, 112), (368, 11, 0), (368, 12, 111), (368, 13, 119), (368, 14, 110), (368, 15, 0), (368, 16, 103), (368, 17, 111), (368, 18, 97), (368, 19, 108), (368, 20, 0), (368, 21, 119), (368, 22, 105), (368, 23, 114), (368, 24, 101), (368, 25, 0), (368, 26, 98), (368, 27, 121), (368, 28, 0), (368, 29, 112), (368, 30, 114), (368, 31, 101), (368, 32, 115), (368, 33, 115), (368, 34, 0), (368, 35, 100), (368, 36, 111), (368, 37, 110), (368, 38, 101), (368, 39, 0), (368, 40, 110), (368, 41, 111), (368, 42, 110), (368, 43, 101), (368, 44, 0), (368, 45, 109), (368, 46, 97), (368, 47, 110), (368, 48, 121), (368, 49, 0)]
def lp_chkI (S : lp_S) : Bool := lp_n0.all fun q => decide (S.2.2 q.1 q.2.1 = q.2.2)
set_option maxRecDepth 100000 in
theorem lp_ctor : ∃ S1 S2 : lp_S, (lp_run 6 200 77 [.ref 0] (lp_grow 1 lp_blank) = some (0, S1) ∧ lp_run 6 200 162 [.ref 343] (lp_grow 1 S1) = some (0, S2)) ∧ S1.1 = 343 ∧ S2.1 = 369 ∧ lp_chkR S2 = true ∧ lp_chkI S2 = true :=
  ⟨lp_Z1, lp_Z2, ⟨lp_Z1_run, lp_Z2_run⟩, by decide +kernel, by decide +kernel, by decide +kernel, by decide +kernel⟩
noncomputable def lp_S1 : lp_S := Classical.choose lp_ctor
noncomputable def lp_S2 : lp_S := Classical.choose (Classical.choose_spec lp_ctor)
theorem lp_ctor2 : (lp_run 6 200 77 [.ref 0] (lp_grow 1 lp_blank) = some (0, lp_S1) ∧ lp_run 6 200 162 [.ref 343] (lp_grow 1 lp_S1) = some (0, lp_S2)) ∧ lp_S1.1 = 343 ∧ lp_S2.1 = 369 ∧ lp_chkR lp_S2 = true ∧ lp_chkI lp_S2 = true := Classical.choose_spec (Classical.choose_spec lp_ctor)
theorem lp_S1_run : lp_run 6 200 77 [.ref 0] (lp_grow 1 lp_blank) = some (0, lp_S1) := lp_ctor2.1.1
theorem lp_S2_run : lp_run 6 200 162 [.ref 343] (lp_grow 1 lp_S1) = some (0, lp_S2) := lp_ctor2.1.2
theorem lp_S1_K : lp_S1.1 = 343 := lp_ctor2.2.1
theorem lp_S2_K : lp_S2.1 = 369 := lp_ctor2.2.2.1
theorem lp_S2_R : lp_chkR lp_S2 = true := lp_ctor2.2.2.2.1
theorem lp_S2_I {k j : Nat} {v : Int32} (h : (k, j, v) ∈ lp_n0) : lp_S2.2.2 k j = v := of_decide_eq_true (List.all_eq_true.mp lp_ctor2.2.2.2.2 _ h)
end
section
/-! ===== the String constants ===== -/
def lp_tm (k : Nat) : Term := .string (lp_cn (lp_so k).1) (lp_so k).2.1
def lp_fl : List Cond := flatC (Jvm.Cond.and given_1 narrow_1)
set_option maxRecDepth 100000 in
theorem lp_tx1 : ∀ i, i < 18 → Cond.exactly (lp_tm i) "java/lang/String" ∈ lp_fl ∧ Cond.eq (.field (lp_tm i) "java/lang/String" "coder" "B") (.int 0) ∈ lp_fl ∧ Cond.arrayOf (.field (lp_tm i) "java/lang/String" "value" "[B") .byte ∈ lp_fl ∧ Cond.eq (.length (.field (lp_tm i) "java/lang/String" "value" "[B")) (.int (Int32.ofNat (lp_len.getD i 0))) ∈ lp_fl := by decide +kernel
set_option maxRecDepth 100000 in
theorem lp_tx2 : ∀ i, i < 18 → ∀ j, j < lp_len.getD i 0 → Cond.eq (.elem (.field (lp_tm i) "java/lang/String" "value" "[B") (.int (Int32.ofNat j))) (.int ((lp_sb.getD i []).getD j 0)) ∈ lp_fl := by decide +kernel
set_option maxRecDepth 100000 in
theorem lp_tx3_0 : ∀ j, j < 18 → 0 < j → Cond.not (Cond.eq (lp_tm 0) (lp_tm j)) ∈ lp_fl := by decide +kernel
set_option maxRecDepth 100000 in
theorem lp_tx3_1 : ∀ j, j < 18 → 1 < j → Cond.not (Cond.eq (lp_tm 1) (lp_tm j)) ∈ lp_fl := by decide +kernel
set_option maxRecDepth 100000 in
theorem lp_tx3_2 : ∀ j, j < 18 → 2 < j → Cond.not (Cond.eq (lp_tm 2) (lp_tm j)) ∈ lp_fl := by decide +kernel
set_option maxRecDepth 100000 in
theorem lp_tx3_3 : ∀ j, j < 18 → 3 < j → Cond.not (Cond.eq (lp_tm 3) (lp_tm j)) ∈ lp_fl := by decide +kernel
set_option maxRecDepth 100000 in
theorem lp_tx3_4 : ∀ j, j < 18 → 4 < j → Cond.not (Cond.eq (lp_tm 4) (lp_tm j)) ∈ lp_fl := by decide +kernel
set_option maxRecDepth 100000 in
theorem lp_tx3_5 : ∀ j, j < 18 → 5 < j → Cond.not (Cond.eq (lp_tm 5) (lp_tm j)) ∈ lp_fl := by decide +kernel
set_option maxRecDepth 100000 in
theorem lp_tx3_6 : ∀ j, j < 18 → 6 < j → Cond.not (Cond.eq (lp_tm 6) (lp_tm j)) ∈ lp_fl := by decide +kernel
set_option maxRecDepth 100000 in
theorem lp_tx3_7 : ∀ j, j < 18 → 7 < j → Cond.not (Cond.eq (lp_tm 7) (lp_tm j)) ∈ lp_fl := by decide +kernel
set_option maxRecDepth 100000 in
theorem lp_tx3_8 : ∀ j, j < 18 → 8 < j → Cond.not (Cond.eq (lp_tm 8) (lp_tm j)) ∈ lp_fl := by decide +kernel
set_option maxRecDepth 100000 in
theorem lp_tx3_9 : ∀ j, j < 18 → 9 < j → Cond.not (Cond.eq (lp_tm 9) (lp_tm j)) ∈ lp_fl := by decide +kernel
set_option maxRecDepth 100000 in
theorem lp_tx3_10 : ∀ j, j < 18 → 10 < j → Cond.not (Cond.eq (lp_tm 10) (lp_tm j)) ∈ lp_fl := by decide +kernel
set_option maxRecDepth 100000 in
theorem lp_tx3_11 : ∀ j, j < 18 → 11 < j → Cond.not (Cond.eq (lp_tm 11) (lp_tm j)) ∈ lp_fl := by decide +kernel
set_option maxRecDepth 100000 in
theorem lp_tx3_12 : ∀ j, j < 18 → 12 < j → Cond.not (Cond.eq (lp_tm 12) (lp_tm j)) ∈ lp_fl := by decide +kernel
set_option maxRecDepth 100000 in
theorem lp_tx3_13 : ∀ j, j < 18 → 13 < j → Cond.not (Cond.eq (lp_tm 13) (lp_tm j)) ∈ lp_fl := by decide +kernel
set_option maxRecDepth 100000 in
theorem lp_tx3_14 : ∀ j, j < 18 → 14 < j → Cond.not (Cond.eq (lp_tm 14) (lp_tm j)) ∈ lp_fl := by decide +kernel
set_option maxRecDepth 100000 in
theorem lp_tx3_15 : ∀ j, j < 18 → 15 < j → Cond.not (Cond.eq (lp_tm 15) (lp_tm j)) ∈ lp_fl := by decide +kernel
set_option maxRecDepth 100000 in
theorem lp_tx3_16 : ∀ j, j < 18 → 16 < j → Cond.not (Cond.eq (lp_tm 16) (lp_tm j)) ∈ lp_fl := by decide +kernel
set_option maxRecDepth 100000 in
theorem lp_tx3_17 : ∀ j, j < 18 → 17 < j → Cond.not (Cond.eq (lp_tm 17) (lp_tm j)) ∈ lp_fl := by decide +kernel
theorem lp_tx3a (i j : Nat) (hi : i < 18) (hj : j < 18) (h : i < j) : Cond.not (Cond.eq (lp_tm i) (lp_tm j)) ∈ lp_fl := by
  have hc : i = 0 ∨ i = 1 ∨ i = 2 ∨ i = 3 ∨ i = 4 ∨ i = 5 ∨ i = 6 ∨ i = 7 ∨ i = 8 ∨ i = 9 ∨ i = 10 ∨ i = 11 ∨ i = 12 ∨ i = 13 ∨ i = 14 ∨ i = 15 ∨ i = 16 ∨ i = 17 := by omega
  rcases hc with rfl | rfl | rfl | rfl | rfl | rfl | rfl | rfl | rfl | rfl | rfl | rfl | rfl | rfl | rfl | rfl | rfl | rfl
  · exact lp_tx3_0 j hj h
  · exact lp_tx3_1 j hj h
  · exact lp_tx3_2 j hj h
  · exact lp_tx3_3 j hj h
  · exact lp_tx3_4 j hj h
  · exact lp_tx3_5 j hj h
  · exact lp_tx3_6 j hj h
  · exact lp_tx3_7 j hj h
  · exact lp_tx3_8 j hj h
  · exact lp_tx3_9 j hj h
  · exact lp_tx3_10 j hj h
  · exact lp_tx3_11 j hj h
  · exact lp_tx3_12 j hj h
  · exact lp_tx3_13 j hj h
  · exact lp_tx3_14 j hj h
  · exact lp_tx3_15 j hj h
  · exact lp_tx3_16 j hj h
  · exact lp_tx3_17 j hj h
theorem lp_tx3 (i : Nat) (hi : i < 18) (j : Nat) (hj : j < 18) (h : i ≠ j) : Cond.not (Cond.eq (lp_tm i) (lp_tm j)) ∈ lp_fl ∨ Cond.not (Cond.eq (lp_tm j) (lp_tm i)) ∈ lp_fl := by
  rcases Nat.lt_or_ge i j with q | q
  · exact Or.inl (lp_tx3a i j hi hj q)
  · exact Or.inr (lp_tx3a j i hj hi (by omega))
theorem lp_tx4 : ∀ i, i < 18 → lp_len.getD i 0 < 2 ^ 31 := by decide +kernel
def lp_sq : List Nat := [1148, 1217, 1222, 1227, 1236, 2005, 4038, 4053, 4059, 4060, 4061, 4066, 4067, 4068, 4081, 4082, 4083, 4084]
theorem lp_tx5 : ∀ i, i < 18 → lp_wd (lp_sq.getD i 0) = some (.stringRef (lp_cn (lp_so i).1) (lp_so i).2.1 (lp_so i).2.2) := by decide +kernel
end
section
/-! THE CLAIM OUT OF ONE WALK OF THE LAW'S BODY. Your part is whole_start (and what it stands on); all else here is the same for every law, but numbers. -/
def R_law : String := "LampPressesLaw"
def lw_P (b : Addr) (xs : List Int32) (args : Array Value) (s : State) : Prop := args = #[.ref b] ∧ s.IntsAt b xs ∧ xs.length ≤ 3072 ∧ (Jvm.Cond.and given_1 narrow_1).before args s = true
def lw_Q (_ : Array Value) (s : State) (o : Outcome) (t : State) : Prop := o = .returned (some (.int 1)) ∧ Framed s o t [] 600000 7302250
def lw_Z (below : List Frame) (a : Array Value) (s : State) : State → Prop := fun t => ∃ o, t.status = .running ∧ Ended t below o ∧ lw_Q a s o t
/-- the law's own end, with 1 on the stack, nothing written that was there before, its room as the claim has it -/
theorem lw_ret {p : Program} {l : Launch} {e : Env} {s : State} {m : MethodId} {below : List Frame} {meth : Method} {c : Code} {b : Nat} (hx : p.tables.exec = Jvm.exec) (hb : c.code = code) (hr : meth.sig.returnType = ret) (hlocks : meth.locks = false) {pc : Nat} {H : Heap} {ls : Array Slot} (hdg : decode code pc = .ok (.ireturn, 1)) : W p l e room_1 s m #[Value.ref b] below meth c H [] 600000 7302250 (lw_Z below #[Value.ref b] s) (F0 m pc ls [.int 1]) := by
  intro T hT X
  obtain ⟨fs, hret, hrun, hended, hW, hframe⟩ := X.leave (v := some (.int 1)) (hlocks := hlocks) (fun h => by rw [hr] at h; cases h)
  have hmeth' : T.vm.method? m = some meth := X.method'
  refine ⟨T.setFrames fs, ?_, .returned (some (.int 1)), hrun, hended, rfl, ⟨_, rfl⟩, hW, hframe⟩
  jvm_step X.here [X.here.top, hx, hb, hdg, hmeth', hr, ret, narrow_b1]
  (try refine ⟨rfl, ?_⟩); (try refine ⟨rfl, ?_⟩)
  first | (intro acts; rw [hret _ acts rfl rfl rfl]) | rw [hret _ _ rfl rfl rfl]
  exact Steps.refl _
/-- what holds at the law's entry: the machine, the code, the tables' words (any of lw_tbl by 'hts w (by decide +kernel)'), the script of L ints xs at the cell b, what the Statement gives of the start (any of its parts by flat_of_before) -/
def lw_At (p : Program) (s : State) (m : MethodId) (meth : Method) (c : Code) (b L : Nat) (xs : Nat → Int32) : Prop :=
  p.tables.exec = Jvm.exec ∧ c.code = code ∧ meth.sig.returnType = ret ∧ c.maxLocals = 4 ∧ s.vm.findClass R_law = some m.cls ∧ (∀ w ∈ lw_tbl, w.before #[Value.ref b] s = true) ∧ va_X b L xs s s.heap ∧ b < s.heap.size ∧ meth.locks = false ∧ (Jvm.Cond.and given_1 narrow_1).before #[Value.ref b] s = true
/-! ===== the law's walk out of a run of the small machine ===== -/
/-- the memory at the law's loop -/
noncomputable def lp_g0 (L : Nat) (xs : Nat → Int32) : lp_M := fun k j => if k = 997 then 1 else if k = 998 then Int32.ofNat L else if k = 999 then xs j else lp_S2.2.2 k j
theorem lp_S2_ref {k j : Nat} (hk : k < 369) (hj : j < (lp_sh k).2) (hj2 : j < 40) (h : ((lp_sh k).1 < 11 ∧ lp_isR (lp_sh k).1 j = true) ∨ (lp_sh k).1 = 23 ∨ (lp_sh k).1 = 24) : lp_S2.2.1 k j = .ref (lp_tg k j) := by
  have h1 := List.all_eq_true.mp (List.all_eq_true.mp lp_S2_R k (List.mem_range.mpr hk)) j (List.mem_range.mpr (by omega))
  have h2 : ((Nat.blt (lp_sh k).1 11 && lp_isR (lp_sh k).1 j) || (Nat.beq (lp_sh k).1 23 || Nat.beq (lp_sh k).1 24)) = true := by
    rcases h with ⟨a, b⟩ | a | a
    · have : Nat.blt (lp_sh k).1 11 = true := Nat.ble_eq.mpr a
      rw [this, b]; rfl
    · rw [a]; simp
    · rw [a]; simp
  rw [h2] at h1
  exact of_decide_eq_true h1
theorem lp_nf40 : ∀ c, c < 11 → lp_nf c < 40 := by decide +kernel
theorem lp_shnf : ∀ k, k < 369 → (lp_sh k).1 < 11 → (lp_sh k).2 = lp_nf (lp_sh k).1 := by decide +kernel
theorem lp_sh2324 : ∀ k, k < 369 → (lp_sh k).1 = 23 ∨ (lp_sh k).1 = 24 → (lp_sh k).2 < 40 := by decide +kernel
/-- the cells as the constructors left them are the cells of the loop's memory -/
theorem lp_world0 {base : Nat} {D : va_G} {dA : Nat → ClassId} {H : Heap} {L : Nat} {xs : Nat → Int32} (hP : va_P D lp_cl (lp_ws base dA lp_S2) H) : va_P D lp_cl (lp_ws base dA (lp_s0 (lp_g0 L xs))) H := by
  intro k q hq
  obtain ⟨hk, rfl⟩ := lp_ws_some hq
  have hk : k < 369 := hk
  have h1 := hP k _ (lp_ws_get (by rw [lp_S2_K]; exact hk))
  have hg : (lp_s0 (lp_g0 L xs)).2.2 k = lp_S2.2.2 k := by
    funext j
    show lp_g0 L xs k j = _
    unfold lp_g0
    rw [if_neg (by omega), if_neg (by omega), if_neg (by omega)]
  have h24 := lp_sh24 k hk
  have hK := lp_shK k hk
  by_cases c20 : (lp_sh k).1 = 20
  · rw [lp_el20 c20] at h1 ⊢
    rw [hg]
    exact h1
  by_cases c21 : (lp_sh k).1 = 21
  · rw [lp_el21 c21] at h1 ⊢
    rw [hg]
    exact h1
  by_cases c22 : (lp_sh k).1 = 22
  · rw [lp_el22 c22] at h1 ⊢
    rw [hg]
    exact h1
  have arr : ∀ (cA : ClassId), ((lp_sh k).1 = 23 ∨ (lp_sh k).1 = 24) → H[base + k]? = some (vp_cell cA ((lp_sh k).2, .inr (.inr (.inr (.inr (fun j => lp_on base (lp_S2.2.1 k j))))))) → H[base + k]? = some (vp_cell cA ((lp_sh k).2, .inr (.inr (.inr (.inr (fun j => lp_on base ((lp_s0 (lp_g0 L xs)).2.1 k j))))))) := by
    intro cA hc h
    rw [h, vp_cell_q, vp_cell_q]
    refine congrArg some (lp_arrV_congr _ (fun j hj => ?_))
    have h40 := lp_sh2324 k hk hc
    rw [lp_S2_ref hk hj (by omega) (Or.inr hc)]
    rfl
  by_cases c23 : (lp_sh k).1 = 23
  · rw [lp_el23 c23] at h1 ⊢
    exact arr _ (Or.inl c23) h1
  by_cases c24 : (lp_sh k).1 = 24
  · rw [lp_el24 c24] at h1 ⊢
    exact arr _ (Or.inr c24) h1
  have hc : (lp_sh k).1 < 11 := by omega
  rw [lp_elO rfl hc] at h1 ⊢
  have e : lp_fs base (lp_sh k).1 (lp_s0 (lp_g0 L xs)) k = lp_fs base (lp_sh k).1 lp_S2 k := by
    unfold lp_fs
    refine List.map_congr_left (fun j hj => ?_)
    have hj := List.mem_range.mp hj
    rw [hg]
    by_cases hr : lp_isR (lp_sh k).1 j = true
    · rw [if_pos hr, if_pos hr, lp_S2_ref hk (by rw [lp_shnf k hk hc]; exact hj) (Nat.lt_trans hj (lp_nf40 _ hc)) (Or.inl ⟨hc, hr⟩)]
      rfl
    · rw [if_neg hr, if_neg hr]
  rw [e]
  exact h1
theorem lp_slots : lp_sl 369 ≤ 7302250 := by decide +kernel
/-- what stands outside the cells, at the law's entry -/
theorem lp_Env0 {s : State} {b L : Nat} {xs : Nat → Int32} (hL : L ≤ 3072) (hts : ∀ w ∈ lw_tbl, w.before #[Value.ref b] s = true) (hX : va_X b L xs s s.heap) (hbl : b < s.heap.size) (hgv : (Jvm.Cond.and given_1 narrow_1).before #[Value.ref b] s = true) :
    ∃ (D : va_G) (dA : Nat → ClassId) (sv : Nat → Value), lp_Env s.heap.size D dA sv b L xs s := by
  have hA : ∀ a : Nat, a < s.heap.size → ¬ lp_A s.heap.size a := fun a ha h => Nat.not_le.mpr ha h
  have hfl : ∀ w ∈ lp_fl, w.before #[Value.ref b] s = true := flat_of_before _ hgv
  have hw : ∀ {p : Nat} {w : Cond}, lp_wd p = some w → w.before #[Value.ref b] s = true := fun h => hts _ (lp_wd_tbl h)
  have h1 : ∀ c, ∃ q : ClassId × (Nat → Nat), c < 11 → u_Kn s (lp_cn c) (lp_T c) (lp_nf c) q.1 q.2 := by
    intro c
    by_cases hc : c < 11
    · obtain ⟨cC, iS, h⟩ := u_known (C := lp_cn c) (T := lp_T c) (N := lp_nf c) (n := lp_nf c) hts (lp_hin c hc) (hw (lp_new_ok c hc))
      exact ⟨(cC, iS), fun _ => h⟩
    · exact ⟨(0, fun _ => 0), fun h => absurd h hc⟩
  obtain ⟨f, hf⟩ := Classical.axiomOfChoice h1
  obtain ⟨c0, k0, m0, a0, b0, d0⟩ := Cond.arrayClass_spec (hw (p := 54) (w := .arrayClass .int) (by decide +kernel))
  obtain ⟨c1, k1, m1, a1, b1, d1⟩ := Cond.arrayClass_spec (hw (p := 129) (w := .arrayClass .byte) (by decide +kernel))
  obtain ⟨c2, k2, m2, a2, b2, d2⟩ := Cond.arrayClass_spec (hw (p := 4215) (w := .arrayClass .boolean) (by decide +kernel))
  have hAA : lp_AOA s := hw (p := 35) (w := .arrayOver (.array .int)) (by decide +kernel)
  obtain ⟨m3, c3, k3, -, -, b3, d3, a3⟩ := lp_AOA.spec hAA
  have hAN : va_AO "LampPresses$Net" s := va_AO.of (A := #[Value.ref b]) (hw (p := 100) (w := .arrayOver (.object "LampPresses$Net")) (by decide +kernel))
  obtain ⟨m4, c4, k4, e4, -, b4, d4, a4⟩ := Cond.arrayOver_spec hAN
  obtain ⟨adK, adV, hS, hev⟩ := vk_Sof (tm := lp_tm) (N := 18) (len := lp_len) (byt := lp_sb) (A := lp_A s.heap.size) lp_tx4 (fun i hi => hfl _ (lp_tx1 i hi).1) (fun i hi => hfl _ (lp_tx1 i hi).2.1) (fun i hi => hfl _ (lp_tx1 i hi).2.2.1) (fun i hi => hfl _ (lp_tx1 i hi).2.2.2) (fun i hi j hj => hfl _ (lp_tx2 i hi j hj)) (fun i j hi hj hn => (lp_tx3 i hi j hj hn).imp (hfl _) (hfl _)) hA
  have hZ := va_Zof (A := lp_A s.heap.size) (hw (p := 1162) (w := .laysStatic "java/lang/String" "COMPACT_STRINGS" "Z") (by decide +kernel)) (hw (p := 13) (w := .initialized "java/lang/String") (by decide +kernel)) (va_eqt (hfl (Cond.eq (.static "java/lang/String" "COMPACT_STRINGS" "Z") (.int 1)) (by decide +kernel))) hA
  have hF := va_Zqof (A := lp_A s.heap.size) (hw (p := 1178) (w := .laysStatic "jdk/internal/util/Preconditions" "SIOOBE_FORMATTER" "Ljava/util/function/BiFunction;") (by decide +kernel)) (hw (p := 15) (w := .initialized "jdk/internal/util/Preconditions") (by decide +kernel)) (hfl (Cond.isRef (.static "jdk/internal/util/Preconditions" "SIOOBE_FORMATTER" "Ljava/util/function/BiFunction;")) (by decide +kernel)) hA
  have hF2 : ∃ v : Value, v.category = 1 ∧ va_Z "jdk/internal/util/Preconditions" "SIOOBE_FORMATTER" "Ljava/util/function/BiFunction;" v (lp_A s.heap.size) s s.heap := by
    rcases hF with h | ⟨t, h⟩
    · exact ⟨_, rfl, h⟩
    · exact ⟨_, rfl, h⟩
  obtain ⟨fv, hfc, hfz⟩ := hF2
  refine ⟨(fun c => (f c).1, fun c => (f c).2), fun i => if i = 0 then c0 else if i = 1 then c1 else if i = 2 then c2 else if i = 3 then c3 else c4, fun k => if k < 18 then .ref (adK k) else if 100 ≤ k ∧ k < 118 then .ref (adV (k - 100)) else if k = 200 then fv else .ref b, ?_⟩
  refine ⟨⟨fun c q hq => ?_, fun k q hq => ?_⟩, Nat.le_refl _, fun k => ?_, ⟨adK, adV, hS, fun k hk => ⟨if_pos hk, ?_, ?_⟩⟩, hZ, hfz, ⟨rfl, hbl, by omega, hX⟩, fun p own i x h hw2 => va_Nw.of rfl (hw hw2), hAN, hAA⟩
  · have hc : c < 11 := (List.getElem?_eq_some_iff.mp hq).1
    rw [lp_hcl c hc] at hq
    cases hq
    exact hf c hc
  · have hk : k < 5 := (List.getElem?_eq_some_iff.mp hq).1
    have h5 : k = 0 ∨ k = 1 ∨ k = 2 ∨ k = 3 ∨ k = 4 := by omega
    rcases h5 with rfl | rfl | rfl | rfl | rfl <;> cases hq
    · exact ⟨fun N z => ⟨(fun k h => by cases h), k0, b0, m0, d0⟩, a0⟩
    · exact ⟨fun N z => ⟨(fun k h => by cases h), k1, b1, m1, d1⟩, a1⟩
    · exact ⟨fun N z => ⟨(fun k h => by cases h), k2, b2, m2, d2⟩, a2⟩
    · exact ⟨fun N z => ⟨(fun k h => by cases h), k3, b3, m3, d3⟩, a3⟩
    · exact ⟨fun N z => ⟨(fun k h => by cases h), k4, b4, m4, d4⟩, k4, m4, b4, d4, e4, a4⟩
  · show (if k < 18 then Value.ref (adK k) else if 100 ≤ k ∧ k < 118 then .ref (adV (k - 100)) else if k = 200 then fv else .ref b).category = 1
    split
    · rfl
    · split
      · rfl
      · split
        · exact hfc
        · rfl
  · show (if 100 + k < 18 then Value.ref (adK (100 + k)) else if 100 ≤ 100 + k ∧ 100 + k < 118 then .ref (adV (100 + k - 100)) else if 100 + k = 200 then fv else .ref b) = _
    rw [if_neg (by omega), if_pos (by omega), Nat.add_sub_cancel_left]
  · exact vk_R.of (A := #[Value.ref b]) (hw (lp_tx5 k hk)) (hev k hk)
/-- the law's walk, if the small machine comes to 1 -/
theorem lp_whole (pure : ∀ (L : Nat) (xs : Nat → Int32), L ≤ 3072 → ∃ g : lp_M, lp_fn 40 293 18 [.retAddr 300, .ref 0, .ref 343, .int 0] [] (lp_s0 (lp_g0 L xs)) = some (1, lp_s0 g)) {p : Program} {e : Env} {s : State} {m : MethodId} {below : List Frame} {meth : Method} {c : Code} (l : Launch) {b L : Nat} {xs : Nat → Int32} (hL : L ≤ 3072) (C0 : lw_At p s m meth c b L xs) :
    W p l e room_1 s m #[Value.ref b] below meth c s.heap [] 0 0 (lw_Z below #[Value.ref b] s) (entryFrame m ([Value.ref b] : List Value).toArray 4) := by
  obtain ⟨hx, hb, hr, hml, hown, hts, hX, hbl, hlocks, hgv⟩ := id C0
  obtain ⟨D, dA, sv, hE⟩ := lp_Env0 hL hts hX hbl hgv
  obtain ⟨g', hrun⟩ := pure L xs hL
  have hgt : ∀ w ∈ lp_gt, w.before #[Value.ref b] s = true := fun w hw => hts w (List.mem_filter.mp hw).1
  have X : lp_Cx p room_1 s m #[Value.ref b] meth c s.heap.size 0 293 D dA sv b L xs (1, lp_s0 g') :=
    ⟨hx, hb, hml, hown, hgt, hE, fun h => absurd h (by decide), Nat.le_of_ble_eq_true rfl, Nat.le_of_ble_eq_true rfl, Nat.le_of_ble_eq_true rfl, Nat.le_trans (Nat.sub_le _ _) lp_slots, rfl⟩
  have hretI : ∀ pc ls v st ty, decode (lp_b 293) pc = .ok (.ireturn, 1) → lp_rt 293 = some ty → narrow ty (.int v) = .int v → (v, st) = ((1 : Int32), lp_s0 g') → lp_Wt p l e room_1 s m #[Value.ref b] below meth c (lw_Z below #[Value.ref b] s) s.heap.size 0 293 D dA sv L xs pc ls [.int v] st := by
    intro pc ls v st ty hd _ _ e
    cases e
    intro lm H locs I
    refine va_forget (fun q hq => I.2.2.2.1.2.2 q hq) ?_
    refine W.widen (k := 600000) (n := 7302250) (Nat.le_of_ble_eq_true rfl) (Nat.le_trans (Nat.sub_le _ _) lp_slots) ?_
    exact lw_ret hx hb hr hlocks hd
  have hretV : ∀ pc ls st, decode (lp_b 293) pc = .ok (.return_, 1) → lp_rt 293 = none → ((0 : Int32), st) = ((1 : Int32), lp_s0 g') → lp_Wt p l e room_1 s m #[Value.ref b] below meth c (lw_Z below #[Value.ref b] s) s.heap.size 0 293 D dA sv L xs pc ls [] st := by
    intro pc ls st _ h
    cases h
  -- the loop
  obtain ⟨n, hn⟩ := lp_fn_iff.mp hrun
  have loop : lp_Wt p l e room_1 s m #[Value.ref b] below meth c (lw_Z below #[Value.ref b] s) s.heap.size 0 293 D dA sv L xs 18 [.retAddr 300, .ref 0, .ref 343, .int 0] [] (lp_s0 (lp_g0 L xs)) :=
    lp_bkW X (Nat.le_of_ble_eq_true rfl) (d := 40) ⟨Nat.le_of_ble_eq_true rfl, Nat.le_of_ble_eq_true rfl⟩ (fun a as st x ha h => lp_runMet l s.heap.size D dA sv b L xs 39 n a as st x ha h) (lp_run_K 40 n) hretI hretV n 18 _ [] _ hn
  -- up to it, back from its end
  have hcall : ∀ a as st x, a < 293 → lp_run 6 200 a as st = some x → lp_Met l s.heap.size D dA sv b L xs 6 a as st x := fun a as st x ha h => lp_runMet l s.heap.size D dA sv b L xs 5 200 a as st x ha h
  have seg : ∀ (pc : Nat) (ls stk : List Value) (st : lp_S) (pc' : Nat) (ls' stk' : List Value) (st' : lp_S), st'.1 ≤ 369 → lp_Wt p l e room_1 s m #[Value.ref b] below meth c (lw_Z below #[Value.ref b] s) s.heap.size 0 293 D dA sv L xs pc' ls' stk' st' →
      (∀ back : Nat → lp_K, back pc' ls' stk' st' = some (1, lp_s0 g') → lp_seg (lp_run 6 200) back (lp_cd 293) 1200 pc ls stk st = some (1, lp_s0 g')) → lp_Wt p l e room_1 s m #[Value.ref b] below meth c (lw_Z below #[Value.ref b] s) s.heap.size 0 293 D dA sv L xs pc ls stk st := by
    classical
    intro pc ls stk st pc' ls' stk' st' hle hW hs
    have hs := hs (fun a b c d => if a = pc' ∧ b = ls' ∧ c = stk' ∧ d = st' then some (1, lp_s0 g') else none) (if_pos ⟨rfl, rfl, rfl, rfl⟩)
    refine lp_segW X (Nat.le_of_ble_eq_true rfl) (d := 6) ⟨Nat.le_of_ble_eq_true rfl, Nat.le_of_ble_eq_true rfl⟩ hcall (lp_run_K 6 200) ?_ ?_ hretI hretV 1200 pc ls stk st hs
    · intro a b c d x h
      split at h
      · next hq =>
        cases h
        rw [hq.2.2.2]
        exact hle
      · cases h
    · intro a b c d h
      split at h
      · next hq =>
        obtain ⟨rfl, rfl, rfl, rfl⟩ := hq
        exact hW
      · cases h
  have s18 : lp_Wt p l e room_1 s m #[Value.ref b] below meth c (lw_Z below #[Value.ref b] s) s.heap.size 0 293 D dA sv L xs 18 [.retAddr 300, .ref 0, .ref 343, .int 0] [] lp_S2 := by
    intro lm H locs I
    have h := loop lm H locs ⟨I.1, trivial, lp_world0 I.2.2.1, I.2.2.2.1, ⟨Nat.le_refl _, fun _ => ⟨rfl, fun j _ => rfl⟩⟩, Nat.zero_le _⟩
    rw [lp_S2_K]
    exact h
  have s15 : lp_Wt p l e room_1 s m #[Value.ref b] below meth c (lw_Z below #[Value.ref b] s) s.heap.size 0 293 D dA sv L xs 15 [.retAddr 300, .ref 0, .long 0, .long 0] [.ref 343] lp_S2 :=
    seg _ _ _ _ _ _ _ _ (by rw [lp_S2_K]; exact Nat.le_refl _) s18 (fun back h => h)
  have s7 : lp_Wt p l e room_1 s m #[Value.ref b] below meth c (lw_Z below #[Value.ref b] s) s.heap.size 0 293 D dA sv L xs 7 [.retAddr 300, .long 0, .long 0, .long 0] [.ref 0] lp_S1 := by
    refine seg _ _ _ _ _ _ _ _ (by rw [lp_S2_K]; exact Nat.le_refl _) s15 (fun back h => ?_)
    have e1 : ∀ call : Nat → List Value → lp_S → lp_O, lp_seg call back (lp_cd 293) 1200 7 [.retAddr 300, .long 0, .long 0, .long 0] [.ref 0] lp_S1 = if lp_sh lp_S1.1 = (10, 37) then (call 162 [.ref lp_S1.1] (lp_grow 1 lp_S1)).bind (fun x => back 15 [.retAddr 300, .ref 0, .long 0, .long 0] [.ref lp_S1.1] x.2) else none := fun _ => rfl
    rw [e1, lp_S1_K, if_pos (show lp_sh 343 = (10, 37) from rfl), lp_S2_run]
    exact h
  have s0 : lp_Wt p l e room_1 s m #[Value.ref b] below meth c (lw_Z below #[Value.ref b] s) s.heap.size 0 293 D dA sv L xs 0 [.retAddr 300, .long 0, .long 0, .long 0] [] lp_blank := by
    refine seg _ _ _ _ _ _ _ _ (by rw [lp_S1_K]; exact Nat.le_of_ble_eq_true rfl) s7 (fun back h => ?_)
    have e1 : ∀ call : Nat → List Value → lp_S → lp_O, lp_seg call back (lp_cd 293) 1200 0 [.retAddr 300, .long 0, .long 0, .long 0] [] lp_blank = (call 77 [.ref 0] (lp_grow 1 lp_blank)).bind (fun x => back 7 [.retAddr 300, .long 0, .long 0, .long 0] [.ref 0] x.2) := fun _ => rfl
    rw [e1, lp_S1_run]
    exact h
  have hL0 := lp_L_entry (base := s.heap.size) (sv := sv) hE.2.2.1 (m := 293) (as := [.retAddr 300]) rfl (Nat.le_of_ble_eq_true rfl)
  have e300 : [Value.retAddr 300].map (lp_rl s.heap.size sv) = [Value.ref b] := by
    show [sv 300] = _
    rw [hE.2.2.2.2.2.2.1.1]
  rw [e300] at hL0
  rw [lg_entry_eq]
  have h := s0 _ s.heap [] ⟨hL0, trivial, fun k q hq => (by have := (lp_ws_some hq).1; exact absurd this (Nat.not_lt_zero _)), va_S.rf, ⟨Nat.zero_le _, fun h => absurd h (by decide)⟩, Nat.zero_le _⟩
  exact h
end
section
theorem lp_pure : ∀ (L : Nat) (xs : Nat → Int32), L ≤ 3072 → ∃ g : lp_M, lp_fn 40 293 18 [.retAddr 300, .ref 0, .ref 343, .int 0] [] (lp_s0 (lp_g0 L xs)) = some (1, lp_s0 g) := sorry
theorem whole_start {p : Program} {e : Env} {s : State} {m : MethodId} {below : List Frame} {meth : Method} {c : Code} (l : Launch) (hflags : l.flags = flags0) {b L : Nat} {xs : Nat → Int32} (hL : L ≤ 3072) (C0 : lw_At p s m meth c b L xs) : W p l e room_1 s m #[Value.ref b] below meth c s.heap [] 0 0 (lw_Z below #[Value.ref b] s) (entryFrame m ([Value.ref b] : List Value).toArray 4) := by
  exact lp_whole lp_pure l hL C0
set_option maxHeartbeats 4000000 in
theorem lw_walk (l : Launch) (hflags : l.flags = flags0) (b : Addr) (xs : List Int32) : MetFree l x (headSpec (Jvm.Cond.code x code maxLocals ret :: tables_1) room_1) (lw_P b xs) (fun _ _ _ _ _ => True) lw_Q := by
  refine MetFree.of_bodyS (code := code) (maxLocals := maxLocals) (ret := ret) (by decide) ?_ ?_
  · intro args s m h hn
    obtain ⟨meth, c, h1, h2, h3, h4, h5, h6, -, -⟩ := Cond.code_spec hn (atoms_spec (ws := Jvm.Cond.code x code maxLocals ret :: tables_1) h _ List.mem_cons_self)
    exact ⟨meth, c, h1, h2, h3, h4, h5, h6⟩
  · intro p e s m args below meth c s₁ B hml0 hP _
    obtain ⟨rfl, hx, hbd, hgv⟩ := hP
    obtain ⟨scr, harrAt, hlist, hof, hsmall⟩ := hx
    obtain ⟨hcb, hkn, -, -⟩ := State.arrayAt?_spec harrAt
    have hown : s.vm.findClass R_law = some m.cls := findClass_of_methodNamed B.named
    have hts0 : ∀ c ∈ (Jvm.Cond.code x code maxLocals ret :: tables_1), c.before #[Value.ref b] s = true := atoms_spec (ws := Jvm.Cond.code x code maxLocals ret :: tables_1) B.pre
    have hts : ∀ w ∈ lw_tbl, w.before #[Value.ref b] s = true := k2_hts_sels lw_privs (fun w hw => hts0 w (List.mem_cons_of_mem _ hw)) lw_privs_ok
    have hml : c.maxLocals = 4 := B.maxLocals_eq (hts0 _ List.mem_cons_self)
    have X₀ : Stand p l e room_1 s m #[Value.ref b] below meth c s₁ [] 0 0 := Stand.of_body B
    have hh0 : s₁.heap = s.heap := by rw [B.state]; rfl
    have hsz : scr.slots.size = xs.length := by rw [← Array.length_toList, hlist, List.length_map]
    have hval : ∀ j : Nat, j < xs.length → scr.slots[j]? = some (.int (xs.getD j 0)) := fun j hj => by
      rw [← Array.getElem?_toList, hlist]
      simp [hj]
    have hbl : b < s.heap.size := (Array.getElem?_eq_some_iff.mp hcb).1
    have hX : va_X b xs.length (fun j => xs.getD j 0) s s.heap := ⟨scr, hcb, hof, hkn, hsz, hval⟩
    have K : W p l e room_1 s m #[Value.ref b] below meth c s₁.heap [] 0 0 (lw_Z below #[Value.ref b] s) (entryFrame m ([Value.ref b] : List Value).toArray 4) := by
      rw [hh0]
      exact whole_start l hflags hbd ⟨B.exec, B.bytes, B.returns, hml, hown, hts, hX, hbl, B.notSynchronized, hgv⟩
    obtain ⟨t, a1, o, b1, b2, b3⟩ := K s₁ rfl X₀
    exact ⟨t, o, a1, b1, b2, b3⟩
theorem lw_pre_spec {args : Array Value} {s : State} (h : (Jvm.Cond.and given_1 narrow_1).before args s = true) (hr : rest_1_c.before args s = true) : ∃ (b : Addr) (xs : List Int32), lw_P b xs args s := by
  have hs := flat_of_before _ h
  have hq := flat_of_before _ hr
  have hc : (Cond.count 1).before args s = true := hs _ (by decide +kernel)
  have harr : (Cond.arrayOf (.arg 0) .int).before args s = true := hs _ (by decide +kernel)
  have hle : (Cond.le (.length (.arg 0)) (.int 3072)).before args s = true := hs _ (by decide +kernel)
  have hlen : (Cond.isInt (.length (.arg 0))).before args s = true := hq _ (by decide +kernel)
  have hall : (Cond.all (.arg 0) (.isInt (.elem (.arg 0) (.index 0)))).before args s = true := hq _ (by decide +kernel)
  obtain ⟨b, xs, hb, hx⟩ := State.ints_of_pre rfl harr hlen hall
  have hsm : xs.length < 2 ^ 31 := hx.choose_spec.2.2.2
  have hev : (Term.length (.arg 0)).eval args s none [] s = some (.int xs.length.toInt32) := hx.length_eval hb
  have hv := Cond.le_ints hev (show (Term.int 3072).eval args s none [] s = some (.int 3072) from rfl)
  have hd : xs.length.toInt32 ≤ 3072 := by
    simpa [Cond.before, Cond.holds, hv] using hle
  have hN : xs.length ≤ 3072 := (Int32.ofNat_le_ofNat hsm (by decide)).mp (show Int32.ofNat xs.length ≤ Int32.ofNat 3072 from hd)
  exact ⟨b, xs, Cond.one_arg hc (show args[0]? = some (.ref b) from hb), hx, hN, h⟩
theorem lw_comes (l : Launch) (hflags : l.flags = flags0) : Comes l x (Jvm.Cond.code x code maxLocals ret :: tables_1) room_1 (fun tb e args s => Calls_1 tb e args s ∧ rest_1 tb e args s ∧ Pre_1 tb e args s)
    (fun _ _ args s o t => lw_Q args s o t) := by
  intro p e ha hc hk s m args below hf hfit hheap happ hpre
  obtain ⟨b, xs, hP⟩ := lw_pre_spec hpre.2.2 hpre.2.1
  obtain ⟨k, o, h1, h2, h3, hQ⟩ := lw_walk l hflags b xs p e ha hc hk s m args below hf ((Spec.applies_iff_loose hf).mp happ).1 hP trivial
  exact ⟨k, o, h1, h2, h3, hQ⟩
theorem lw_frame {s t : State} {o : Outcome} {args : Array Value} (h : Framed s o t [] 600000 7302250) :
    Framed s o t (fieldLocs frame_1_writes args s ++ arrayLocs frame_1_arrays args s ++ staticLocs frame_1_statics s) 600000 7302250 := h
theorem lw_limb (L : Cond) (hL : ∀ (args : Array Value) (s t : State), L.after args s (.returned (some (.int 1))) t = true) :
    ArmFor flags0 classFile x code maxLocals ret World_1 tables_1 room_1 Calls_1 rest_1 Pre_1
      (fun tb e a s o t => postC L tb e a s o t ∧ Framed s o t (fieldLocs frame_1_writes a s ++ arrayLocs frame_1_arrays a s ++ staticLocs frame_1_statics s) 600000 7302250) := by
  intro l hflags _ _ p e ha hc hk s m args below hf hfit hheap happ hpre
  obtain ⟨k, o, h1, h2, h3, rfl, hF⟩ := lw_comes l hflags p e ha hc hk s m args below hf hfit hheap happ hpre
  exact ⟨k, _, h1, h2, h3, hL args s _, lw_frame hF⟩
theorem i_vc : Claimed_1_1 ∧ Claimed_1_2 := ⟨lw_limb limb_1_1 (fun args s t => by simp [limb_1_1, Cond.after, Cond.holds, Cond.value]), lw_limb limb_1_2 (fun args s t => Cond.after_iff.mpr (by
  first | (rw [show limb_1_2 = Cond.eq .result (.int 1) from rfl, Cond.eq_ints (x := 1) (y := 1) rfl rfl]; simp; done) | (simp [limb_1_2, Cond.value, Term.eval]; done)))⟩
end
