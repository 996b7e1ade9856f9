-- ===== PART A: goes FIRST, ahead of the names: the tables' words, and 'selects' of the private methods out of them =====
/-- a private method of a class that the tables say can be made, by its rows of tables_1 -/
def lw_okq (q : MethodName × Nat) : Prop := (q.1.cls ≠ "java/lang/invoke/MethodHandle" ∧ q.1.cls ≠ "java/lang/invoke/VarHandle") ∧ Cond.instantiable q.1.cls q.2 ∈ tables_1 ∧ Cond.privateMethod q.1 ∈ tables_1 ∧ Cond.instanceMethod q.1 ∈ tables_1
theorem lw_p0 : lw_okq (⟨"WayWeights$Ways", "nearest", "(LWayWeights$Net;I)I"⟩, 6) := ⟨⟨by decide +kernel, by decide +kernel⟩, List.mem_of_getElem? (i := 93) (by decide +kernel), List.mem_of_getElem? (i := 400) (by decide +kernel), List.mem_of_getElem? (i := 401) (by decide +kernel)⟩
theorem lw_p1 : lw_okq (⟨"WayWeights$Ways", "comeNearerBy", "(ILWayWeights$Net;[II)V"⟩, 6) := ⟨⟨by decide +kernel, by decide +kernel⟩, List.mem_of_getElem? (i := 93) (by decide +kernel), List.mem_of_getElem? (i := 404) (by decide +kernel), List.mem_of_getElem? (i := 405) (by decide +kernel)⟩
theorem lw_p2 : lw_okq (⟨"WayWeights$Ways", "findNext", "(LWayWeights$Net;[II)V"⟩, 6) := ⟨⟨by decide +kernel, by decide +kernel⟩, List.mem_of_getElem? (i := 93) (by decide +kernel), List.mem_of_getElem? (i := 408) (by decide +kernel), List.mem_of_getElem? (i := 409) (by decide +kernel)⟩
theorem lw_p3 : lw_okq (⟨"WayWeights$Flow", "pass", "(LWayWeights$Net;LWayWeights$Ways;)V"⟩, 2) := ⟨⟨by decide +kernel, by decide +kernel⟩, List.mem_of_getElem? (i := 134) (by decide +kernel), List.mem_of_getElem? (i := 430) (by decide +kernel), List.mem_of_getElem? (i := 431) (by decide +kernel)⟩
theorem lw_p4 : lw_okq (⟨"WayWeights$Flow", "divide", "(LWayWeights$Net;LWayWeights$Ways;IJ)V"⟩, 2) := ⟨⟨by decide +kernel, by decide +kernel⟩, List.mem_of_getElem? (i := 134) (by decide +kernel), List.mem_of_getElem? (i := 434) (by decide +kernel), List.mem_of_getElem? (i := 435) (by decide +kernel)⟩
theorem lw_p5 : lw_okq (⟨"WayWeights$Flow", "collect", "(LWayWeights$Net;[II)Z"⟩, 2) := ⟨⟨by decide +kernel, by decide +kernel⟩, List.mem_of_getElem? (i := 134) (by decide +kernel), List.mem_of_getElem? (i := 465) (by decide +kernel), List.mem_of_getElem? (i := 466) (by decide +kernel)⟩
theorem lw_p6 : lw_okq (⟨"WayWeights", "findPeak", "(I)V"⟩, 9) := ⟨⟨by decide +kernel, by decide +kernel⟩, List.mem_of_getElem? (i := 16) (by decide +kernel), List.mem_of_getElem? (i := 474) (by decide +kernel), List.mem_of_getElem? (i := 475) (by decide +kernel)⟩
theorem lw_p7 : lw_okq (⟨"WayWeights$Seeker", "chooseFree", "()V"⟩, 13) := ⟨⟨by decide +kernel, by decide +kernel⟩, List.mem_of_getElem? (i := 211) (by decide +kernel), List.mem_of_getElem? (i := 545) (by decide +kernel), List.mem_of_getElem? (i := 546) (by decide +kernel)⟩
theorem lw_p8 : lw_okq (⟨"WayWeights$Seeker", "countChoices", "()I"⟩, 13) := ⟨⟨by decide +kernel, by decide +kernel⟩, List.mem_of_getElem? (i := 211) (by decide +kernel), List.mem_of_getElem? (i := 554) (by decide +kernel), List.mem_of_getElem? (i := 555) (by decide +kernel)⟩
theorem lw_p9 : lw_okq (⟨"WayWeights$Seeker", "choicesOf", "(I)I"⟩, 13) := ⟨⟨by decide +kernel, by decide +kernel⟩, List.mem_of_getElem? (i := 211) (by decide +kernel), List.mem_of_getElem? (i := 558) (by decide +kernel), List.mem_of_getElem? (i := 559) (by decide +kernel)⟩
theorem lw_p10 : lw_okq (⟨"WayWeights$Seeker", "choose", "(I)I"⟩, 13) := ⟨⟨by decide +kernel, by decide +kernel⟩, List.mem_of_getElem? (i := 211) (by decide +kernel), List.mem_of_getElem? (i := 562) (by decide +kernel), List.mem_of_getElem? (i := 563) (by decide +kernel)⟩
theorem lw_p11 : lw_okq (⟨"WayWeights$Seeker", "isBetter", "(I)Z"⟩, 13) := ⟨⟨by decide +kernel, by decide +kernel⟩, List.mem_of_getElem? (i := 211) (by decide +kernel), List.mem_of_getElem? (i := 566) (by decide +kernel), List.mem_of_getElem? (i := 567) (by decide +kernel)⟩
theorem lw_p12 : lw_okq (⟨"WayWeights", "refusalOfNews", "(II)I"⟩, 9) := ⟨⟨by decide +kernel, by decide +kernel⟩, List.mem_of_getElem? (i := 16) (by decide +kernel), List.mem_of_getElem? (i := 593) (by decide +kernel), List.mem_of_getElem? (i := 594) (by decide +kernel)⟩
theorem lw_p13 : lw_okq (⟨"WayWeights$News", "learn", "(II)V"⟩, 5) := ⟨⟨by decide +kernel, by decide +kernel⟩, List.mem_of_getElem? (i := 263) (by decide +kernel), List.mem_of_getElem? (i := 601) (by decide +kernel), List.mem_of_getElem? (i := 602) (by decide +kernel)⟩
theorem lw_p14 : lw_okq (⟨"WayWeights$News", "learnSteps", "(IILWayWeights$Ways;)V"⟩, 5) := ⟨⟨by decide +kernel, by decide +kernel⟩, List.mem_of_getElem? (i := 263) (by decide +kernel), List.mem_of_getElem? (i := 607) (by decide +kernel), List.mem_of_getElem? (i := 608) (by decide +kernel)⟩
theorem lw_p15 : lw_okq (⟨"WayWeights$News", "leastRing", "(II)I"⟩, 5) := ⟨⟨by decide +kernel, by decide +kernel⟩, List.mem_of_getElem? (i := 263) (by decide +kernel), List.mem_of_getElem? (i := 614) (by decide +kernel), List.mem_of_getElem? (i := 615) (by decide +kernel)⟩
def lw_privs_1 : List (MethodName × Nat) := [(⟨"WayWeights$Ways", "nearest", "(LWayWeights$Net;I)I"⟩, 6), (⟨"WayWeights$Ways", "comeNearerBy", "(ILWayWeights$Net;[II)V"⟩, 6), (⟨"WayWeights$Ways", "findNext", "(LWayWeights$Net;[II)V"⟩, 6), (⟨"WayWeights$Flow", "pass", "(LWayWeights$Net;LWayWeights$Ways;)V"⟩, 2), (⟨"WayWeights$Flow", "divide", "(LWayWeights$Net;LWayWeights$Ways;IJ)V"⟩, 2), (⟨"WayWeights$Flow", "collect", "(LWayWeights$Net;[II)Z"⟩, 2), (⟨"WayWeights", "findPeak", "(I)V"⟩, 9), (⟨"WayWeights$Seeker", "chooseFree", "()V"⟩, 13), (⟨"WayWeights$Seeker", "countChoices", "()I"⟩, 13), (⟨"WayWeights$Seeker", "choicesOf", "(I)I"⟩, 13), (⟨"WayWeights$Seeker", "choose", "(I)I"⟩, 13), (⟨"WayWeights$Seeker", "isBetter", "(I)Z"⟩, 13), (⟨"WayWeights", "refusalOfNews", "(II)I"⟩, 9), (⟨"WayWeights$News", "learn", "(II)V"⟩, 5), (⟨"WayWeights$News", "learnSteps", "(IILWayWeights$Ways;)V"⟩, 5), (⟨"WayWeights$News", "leastRing", "(II)I"⟩, 5)]
theorem lw_r1 : ∀ q ∈ lw_privs_1, lw_okq q := List.forall_mem_cons.mpr ⟨lw_p0, List.forall_mem_cons.mpr ⟨lw_p1, List.forall_mem_cons.mpr ⟨lw_p2, List.forall_mem_cons.mpr ⟨lw_p3, List.forall_mem_cons.mpr ⟨lw_p4, List.forall_mem_cons.mpr ⟨lw_p5, List.forall_mem_cons.mpr ⟨lw_p6, List.forall_mem_cons.mpr ⟨lw_p7, List.forall_mem_cons.mpr ⟨lw_p8, List.forall_mem_cons.mpr ⟨lw_p9, List.forall_mem_cons.mpr ⟨lw_p10, List.forall_mem_cons.mpr ⟨lw_p11, List.forall_mem_cons.mpr ⟨lw_p12, List.forall_mem_cons.mpr ⟨lw_p13, List.forall_mem_cons.mpr ⟨lw_p14, List.forall_mem_cons.mpr ⟨lw_p15, fun _ h => absurd h List.not_mem_nil⟩⟩⟩⟩⟩⟩⟩⟩⟩⟩⟩⟩⟩⟩⟩⟩
theorem lw_p16 : lw_okq (⟨"WayWeights$News", "hasRing", "(III)Z"⟩, 5) := ⟨⟨by decide +kernel, by decide +kernel⟩, List.mem_of_getElem? (i := 263) (by decide +kernel), List.mem_of_getElem? (i := 618) (by decide +kernel), List.mem_of_getElem? (i := 619) (by decide +kernel)⟩
theorem lw_p17 : lw_okq (⟨"WayWeights$News", "measure", "(II)V"⟩, 5) := ⟨⟨by decide +kernel, by decide +kernel⟩, List.mem_of_getElem? (i := 263) (by decide +kernel), List.mem_of_getElem? (i := 630) (by decide +kernel), List.mem_of_getElem? (i := 631) (by decide +kernel)⟩
theorem lw_p18 : lw_okq (⟨"WayWeights$News", "meetFrom", "(I)V"⟩, 5) := ⟨⟨by decide +kernel, by decide +kernel⟩, List.mem_of_getElem? (i := 263) (by decide +kernel), List.mem_of_getElem? (i := 635) (by decide +kernel), List.mem_of_getElem? (i := 636) (by decide +kernel)⟩
theorem lw_p19 : lw_okq (⟨"WayWeights$News", "leastNearer", "(I)I"⟩, 5) := ⟨⟨by decide +kernel, by decide +kernel⟩, List.mem_of_getElem? (i := 263) (by decide +kernel), List.mem_of_getElem? (i := 647) (by decide +kernel), List.mem_of_getElem? (i := 648) (by decide +kernel)⟩
theorem lw_p20 : lw_okq (⟨"WayWeights", "growByHundredths", "(I)V"⟩, 9) := ⟨⟨by decide +kernel, by decide +kernel⟩, List.mem_of_getElem? (i := 16) (by decide +kernel), List.mem_of_getElem? (i := 665) (by decide +kernel), List.mem_of_getElem? (i := 666) (by decide +kernel)⟩
theorem lw_p21 : lw_okq (⟨"WayWeights", "sumOfLoads", "(I)I"⟩, 9) := ⟨⟨by decide +kernel, by decide +kernel⟩, List.mem_of_getElem? (i := 16) (by decide +kernel), List.mem_of_getElem? (i := 679) (by decide +kernel), List.mem_of_getElem? (i := 680) (by decide +kernel)⟩
theorem lw_p22 : lw_okq (⟨"WayWeightsModel", "isBox", "(I)Z"⟩, 33) := ⟨⟨by decide +kernel, by decide +kernel⟩, List.mem_of_getElem? (i := 683) (by decide +kernel), List.mem_of_getElem? (i := 803) (by decide +kernel), List.mem_of_getElem? (i := 804) (by decide +kernel)⟩
theorem lw_p23 : lw_okq (⟨"WayWeightsModel", "isLine", "(I)Z"⟩, 33) := ⟨⟨by decide +kernel, by decide +kernel⟩, List.mem_of_getElem? (i := 683) (by decide +kernel), List.mem_of_getElem? (i := 813) (by decide +kernel), List.mem_of_getElem? (i := 814) (by decide +kernel)⟩
theorem lw_p24 : lw_okq (⟨"WayWeightsModel", "loadOf", "(III)I"⟩, 33) := ⟨⟨by decide +kernel, by decide +kernel⟩, List.mem_of_getElem? (i := 683) (by decide +kernel), List.mem_of_getElem? (i := 833) (by decide +kernel), List.mem_of_getElem? (i := 834) (by decide +kernel)⟩
theorem lw_p25 : lw_okq (⟨"WayWeightsModel", "findFar", "(I)V"⟩, 33) := ⟨⟨by decide +kernel, by decide +kernel⟩, List.mem_of_getElem? (i := 683) (by decide +kernel), List.mem_of_getElem? (i := 841) (by decide +kernel), List.mem_of_getElem? (i := 842) (by decide +kernel)⟩
theorem lw_p26 : lw_okq (⟨"WayWeightsModel", "isThere", "(I)Z"⟩, 33) := ⟨⟨by decide +kernel, by decide +kernel⟩, List.mem_of_getElem? (i := 683) (by decide +kernel), List.mem_of_getElem? (i := 846) (by decide +kernel), List.mem_of_getElem? (i := 847) (by decide +kernel)⟩
theorem lw_p27 : lw_okq (⟨"WayWeightsModel", "nextOf", "(I)I"⟩, 33) := ⟨⟨by decide +kernel, by decide +kernel⟩, List.mem_of_getElem? (i := 683) (by decide +kernel), List.mem_of_getElem? (i := 854) (by decide +kernel), List.mem_of_getElem? (i := 855) (by decide +kernel)⟩
theorem lw_p28 : lw_okq (⟨"WayWeightsModel", "isNext", "(II)Z"⟩, 33) := ⟨⟨by decide +kernel, by decide +kernel⟩, List.mem_of_getElem? (i := 683) (by decide +kernel), List.mem_of_getElem? (i := 858) (by decide +kernel), List.mem_of_getElem? (i := 859) (by decide +kernel)⟩
theorem lw_p29 : lw_okq (⟨"WayWeightsModel", "goDown", "()V"⟩, 33) := ⟨⟨by decide +kernel, by decide +kernel⟩, List.mem_of_getElem? (i := 683) (by decide +kernel), List.mem_of_getElem? (i := 868) (by decide +kernel), List.mem_of_getElem? (i := 869) (by decide +kernel)⟩
theorem lw_p30 : lw_okq (⟨"WayWeightsModel", "parts", "(I)V"⟩, 33) := ⟨⟨by decide +kernel, by decide +kernel⟩, List.mem_of_getElem? (i := 683) (by decide +kernel), List.mem_of_getElem? (i := 875) (by decide +kernel), List.mem_of_getElem? (i := 876) (by decide +kernel)⟩
theorem lw_p31 : lw_okq (⟨"WayWeightsModel", "findOn", "(I)V"⟩, 33) := ⟨⟨by decide +kernel, by decide +kernel⟩, List.mem_of_getElem? (i := 683) (by decide +kernel), List.mem_of_getElem? (i := 889) (by decide +kernel), List.mem_of_getElem? (i := 890) (by decide +kernel)⟩
def lw_privs_2 : List (MethodName × Nat) := [(⟨"WayWeights$News", "hasRing", "(III)Z"⟩, 5), (⟨"WayWeights$News", "measure", "(II)V"⟩, 5), (⟨"WayWeights$News", "meetFrom", "(I)V"⟩, 5), (⟨"WayWeights$News", "leastNearer", "(I)I"⟩, 5), (⟨"WayWeights", "growByHundredths", "(I)V"⟩, 9), (⟨"WayWeights", "sumOfLoads", "(I)I"⟩, 9), (⟨"WayWeightsModel", "isBox", "(I)Z"⟩, 33), (⟨"WayWeightsModel", "isLine", "(I)Z"⟩, 33), (⟨"WayWeightsModel", "loadOf", "(III)I"⟩, 33), (⟨"WayWeightsModel", "findFar", "(I)V"⟩, 33), (⟨"WayWeightsModel", "isThere", "(I)Z"⟩, 33), (⟨"WayWeightsModel", "nextOf", "(I)I"⟩, 33), (⟨"WayWeightsModel", "isNext", "(II)Z"⟩, 33), (⟨"WayWeightsModel", "goDown", "()V"⟩, 33), (⟨"WayWeightsModel", "parts", "(I)V"⟩, 33), (⟨"WayWeightsModel", "findOn", "(I)V"⟩, 33)]
theorem lw_r2 : ∀ q ∈ lw_privs_2, lw_okq q := List.forall_mem_cons.mpr ⟨lw_p16, List.forall_mem_cons.mpr ⟨lw_p17, List.forall_mem_cons.mpr ⟨lw_p18, List.forall_mem_cons.mpr ⟨lw_p19, List.forall_mem_cons.mpr ⟨lw_p20, List.forall_mem_cons.mpr ⟨lw_p21, List.forall_mem_cons.mpr ⟨lw_p22, List.forall_mem_cons.mpr ⟨lw_p23, List.forall_mem_cons.mpr ⟨lw_p24, List.forall_mem_cons.mpr ⟨lw_p25, List.forall_mem_cons.mpr ⟨lw_p26, List.forall_mem_cons.mpr ⟨lw_p27, List.forall_mem_cons.mpr ⟨lw_p28, List.forall_mem_cons.mpr ⟨lw_p29, List.forall_mem_cons.mpr ⟨lw_p30, List.forall_mem_cons.mpr ⟨lw_p31, fun _ h => absurd h List.not_mem_nil⟩⟩⟩⟩⟩⟩⟩⟩⟩⟩⟩⟩⟩⟩⟩⟩
theorem lw_p32 : lw_okq (⟨"WayWeightsModel", "findWorst", "(I)V"⟩, 33) := ⟨⟨by decide +kernel, by decide +kernel⟩, List.mem_of_getElem? (i := 683) (by decide +kernel), List.mem_of_getElem? (i := 898) (by decide +kernel), List.mem_of_getElem? (i := 899) (by decide +kernel)⟩
theorem lw_p33 : lw_okq (⟨"WayWeightsModel", "findAll", "()V"⟩, 33) := ⟨⟨by decide +kernel, by decide +kernel⟩, List.mem_of_getElem? (i := 683) (by decide +kernel), List.mem_of_getElem? (i := 914) (by decide +kernel), List.mem_of_getElem? (i := 915) (by decide +kernel)⟩
theorem lw_p34 : lw_okq (⟨"WayWeightsModel", "changes", "()I"⟩, 33) := ⟨⟨by decide +kernel, by decide +kernel⟩, List.mem_of_getElem? (i := 683) (by decide +kernel), List.mem_of_getElem? (i := 932) (by decide +kernel), List.mem_of_getElem? (i := 933) (by decide +kernel)⟩
theorem lw_p35 : lw_okq (⟨"WayWeightsModel", "isLesserRow", "()Z"⟩, 33) := ⟨⟨by decide +kernel, by decide +kernel⟩, List.mem_of_getElem? (i := 683) (by decide +kernel), List.mem_of_getElem? (i := 936) (by decide +kernel), List.mem_of_getElem? (i := 937) (by decide +kernel)⟩
theorem lw_p36 : lw_okq (⟨"WayWeightsModel", "whyNot", "(II)I"⟩, 33) := ⟨⟨by decide +kernel, by decide +kernel⟩, List.mem_of_getElem? (i := 683) (by decide +kernel), List.mem_of_getElem? (i := 957) (by decide +kernel), List.mem_of_getElem? (i := 958) (by decide +kernel)⟩
theorem lw_p37 : lw_okq (⟨"WayWeightsModel", "ringOf", "(III)I"⟩, 33) := ⟨⟨by decide +kernel, by decide +kernel⟩, List.mem_of_getElem? (i := 683) (by decide +kernel), List.mem_of_getElem? (i := 961) (by decide +kernel), List.mem_of_getElem? (i := 962) (by decide +kernel)⟩
theorem lw_p38 : lw_okq (⟨"WayWeightsModel", "hasRing", "(IIII)Z"⟩, 33) := ⟨⟨by decide +kernel, by decide +kernel⟩, List.mem_of_getElem? (i := 683) (by decide +kernel), List.mem_of_getElem? (i := 965) (by decide +kernel), List.mem_of_getElem? (i := 966) (by decide +kernel)⟩
theorem lw_p39 : lw_okq (⟨"WayWeightsModel", "addGoes", "(III)V"⟩, 33) := ⟨⟨by decide +kernel, by decide +kernel⟩, List.mem_of_getElem? (i := 683) (by decide +kernel), List.mem_of_getElem? (i := 969) (by decide +kernel), List.mem_of_getElem? (i := 970) (by decide +kernel)⟩
theorem lw_p40 : lw_okq (⟨"WayWeightsModel", "findOff", "(II)V"⟩, 33) := ⟨⟨by decide +kernel, by decide +kernel⟩, List.mem_of_getElem? (i := 683) (by decide +kernel), List.mem_of_getElem? (i := 977) (by decide +kernel), List.mem_of_getElem? (i := 978) (by decide +kernel)⟩
def lw_privs_3 : List (MethodName × Nat) := [(⟨"WayWeightsModel", "findWorst", "(I)V"⟩, 33), (⟨"WayWeightsModel", "findAll", "()V"⟩, 33), (⟨"WayWeightsModel", "changes", "()I"⟩, 33), (⟨"WayWeightsModel", "isLesserRow", "()Z"⟩, 33), (⟨"WayWeightsModel", "whyNot", "(II)I"⟩, 33), (⟨"WayWeightsModel", "ringOf", "(III)I"⟩, 33), (⟨"WayWeightsModel", "hasRing", "(IIII)Z"⟩, 33), (⟨"WayWeightsModel", "addGoes", "(III)V"⟩, 33), (⟨"WayWeightsModel", "findOff", "(II)V"⟩, 33)]
theorem lw_r3 : ∀ q ∈ lw_privs_3, lw_okq q := List.forall_mem_cons.mpr ⟨lw_p32, List.forall_mem_cons.mpr ⟨lw_p33, List.forall_mem_cons.mpr ⟨lw_p34, List.forall_mem_cons.mpr ⟨lw_p35, List.forall_mem_cons.mpr ⟨lw_p36, List.forall_mem_cons.mpr ⟨lw_p37, List.forall_mem_cons.mpr ⟨lw_p38, List.forall_mem_cons.mpr ⟨lw_p39, List.forall_mem_cons.mpr ⟨lw_p40, fun _ h => absurd h List.not_mem_nil⟩⟩⟩⟩⟩⟩⟩⟩⟩
def lw_privs : List (MethodName × Nat) := lw_privs_1 ++ (lw_privs_2 ++ (lw_privs_3))
def lw_tbl : List Cond := k2_sels lw_privs ++ tables_1
theorem lw_privs_ok : ∀ q ∈ lw_privs, lw_okq q := by
  show ∀ q ∈ lw_privs_1 ++ (lw_privs_2 ++ (lw_privs_3)), lw_okq q
  exact List.forall_mem_append.mpr ⟨lw_r1, List.forall_mem_append.mpr ⟨lw_r2, lw_r3⟩⟩

def RX0 : String := "WayWeights$Flow"
def TX0 : u_T := fun k => match k with
  | 0 => ("WayWeights$Flow", "at", "[J", true)
  | _ => ("WayWeights$Flow", "over", "[J", true)
def tyX0 : Nat → FieldType := fun k => match k with
  | 0 => .array .long
  | _ => .array .long
theorem nmX0 : ∀ a, a < 2 → ∀ b, b < 2 → a ≠ b → (TX0 a).2.1 ≠ (TX0 b).2.1 := by decide +kernel
theorem tyX0_ok : ∀ k, k < 2 → parseFieldDescriptor (TX0 k).2.2.1 = some (tyX0 k) := by decide +kernel
def RX1 : String := "WayWeights$Net"
def TX1 : u_T := fun k => match k with
  | 0 => ("WayWeights$Net", "boxes", "I", false)
  | 1 => ("WayWeights$Net", "lines", "I", false)
  | 2 => ("WayWeights$Net", "first", "[I", true)
  | 3 => ("WayWeights$Net", "second", "[I", true)
  | 4 => ("WayWeights$Net", "room", "[I", true)
  | 5 => ("WayWeights$Net", "weight", "[I", true)
  | 6 => ("WayWeights$Net", "still", "I", false)
  | _ => ("WayWeights$Net", "away", "I", false)
def tyX1 : Nat → FieldType := fun k => match k with
  | 0 => .int
  | 1 => .int
  | 2 => .array .int
  | 3 => .array .int
  | 4 => .array .int
  | 5 => .array .int
  | 6 => .int
  | _ => .int
theorem nmX1 : ∀ a, a < 8 → ∀ b, b < 8 → a ≠ b → (TX1 a).2.1 ≠ (TX1 b).2.1 := by decide +kernel
theorem tyX1_ok : ∀ k, k < 8 → parseFieldDescriptor (TX1 k).2.2.1 = some (tyX1 k) := by decide +kernel
def RX2 : String := "WayWeights$News"
def TX2 : u_T := fun k => match k with
  | 0 => ("WayWeights$News", "net", "LWayWeights$Net;", true)
  | 1 => ("WayWeights$News", "routes", "LWayWeights$Routes;", true)
  | 2 => ("WayWeights$News", "trial", "[I", true)
  | 3 => ("WayWeights$News", "steps", "[I", true)
  | _ => ("WayWeights$News", "toGoal", "[I", true)
def tyX2 : Nat → FieldType := fun k => match k with
  | 0 => .object "WayWeights$Net"
  | 1 => .object "WayWeights$Routes"
  | 2 => .array .int
  | 3 => .array .int
  | _ => .array .int
theorem nmX2 : ∀ a, a < 5 → ∀ b, b < 5 → a ≠ b → (TX2 a).2.1 ≠ (TX2 b).2.1 := by decide +kernel
theorem tyX2_ok : ∀ k, k < 5 → parseFieldDescriptor (TX2 k).2.2.1 = some (tyX2 k) := by decide +kernel
def RX3 : String := "WayWeights$Peak"
def TX3 : u_T := fun k => match k with
  | 0 => ("WayWeights$Peak", "over", "J", false)
  | 1 => ("WayWeights$Peak", "room", "I", false)
  | 2 => ("WayWeights$Peak", "line", "I", false)
  | 3 => ("WayWeights$Peak", "way", "I", false)
  | 4 => ("WayWeights$Peak", "table", "I", false)
  | _ => ("WayWeights$Peak", "moreAway", "I", false)
def tyX3 : Nat → FieldType := fun k => match k with
  | 0 => .long
  | 1 => .int
  | 2 => .int
  | 3 => .int
  | 4 => .int
  | _ => .int
theorem nmX3 : ∀ a, a < 6 → ∀ b, b < 6 → a ≠ b → (TX3 a).2.1 ≠ (TX3 b).2.1 := by decide +kernel
theorem tyX3_ok : ∀ k, k < 6 → parseFieldDescriptor (TX3 k).2.2.1 = some (tyX3 k) := by decide +kernel
def RX4 : String := "WayWeights$Routes"
def TX4 : u_T := fun k => match k with
  | _ => ("WayWeights$Routes", "to", "[LWayWeights$Ways;", true)
def tyX4 : Nat → FieldType := fun k => match k with
  | _ => .array (.object "WayWeights$Ways")
theorem nmX4 : ∀ a, a < 1 → ∀ b, b < 1 → a ≠ b → (TX4 a).2.1 ≠ (TX4 b).2.1 := by decide +kernel
theorem tyX4_ok : ∀ k, k < 1 → parseFieldDescriptor (TX4 k).2.2.1 = some (tyX4 k) := by decide +kernel
def RX5 : String := "WayWeights$Seeker"
def TX5 : u_T := fun k => match k with
  | 0 => ("WayWeights$Seeker", "net", "LWayWeights$Net;", true)
  | 1 => ("WayWeights$Seeker", "survey", "LWayWeights$Survey;", true)
  | 2 => ("WayWeights$Seeker", "isDone", "Z", false)
  | 3 => ("WayWeights$Seeker", "changes", "I", false)
  | 4 => ("WayWeights$Seeker", "found", "[I", true)
  | 5 => ("WayWeights$Seeker", "best", "LWayWeights$Peak;", true)
  | 6 => ("WayWeights$Seeker", "span", "I", false)
  | 7 => ("WayWeights$Seeker", "count", "I", false)
  | 8 => ("WayWeights$Seeker", "free", "[I", true)
  | 9 => ("WayWeights$Seeker", "targets", "I", false)
  | 10 => ("WayWeights$Seeker", "hardest", "I", false)
  | 11 => ("WayWeights$Seeker", "trial", "[I", true)
  | _ => ("WayWeights$Seeker", "peak", "LWayWeights$Peak;", true)
def tyX5 : Nat → FieldType := fun k => match k with
  | 0 => .object "WayWeights$Net"
  | 1 => .object "WayWeights$Survey"
  | 2 => .boolean
  | 3 => .int
  | 4 => .array .int
  | 5 => .object "WayWeights$Peak"
  | 6 => .int
  | 7 => .int
  | 8 => .array .int
  | 9 => .int
  | 10 => .int
  | 11 => .array .int
  | _ => .object "WayWeights$Peak"
theorem nmX5 : ∀ a, a < 13 → ∀ b, b < 13 → a ≠ b → (TX5 a).2.1 ≠ (TX5 b).2.1 := by decide +kernel
theorem tyX5_ok : ∀ k, k < 13 → parseFieldDescriptor (TX5 k).2.2.1 = some (tyX5 k) := by decide +kernel
def RX6 : String := "WayWeights$Survey"
def TX6 : u_T := fun k => match k with
  | 0 => ("WayWeights$Survey", "net", "LWayWeights$Net;", true)
  | 1 => ("WayWeights$Survey", "loads", "[[I", true)
  | 2 => ("WayWeights$Survey", "guarded", "Z", false)
  | 3 => ("WayWeights$Survey", "routes", "LWayWeights$Routes;", true)
  | 4 => ("WayWeights$Survey", "flow", "LWayWeights$Flow;", true)
  | _ => ("WayWeights$Survey", "one", "LWayWeights$Peak;", true)
def tyX6 : Nat → FieldType := fun k => match k with
  | 0 => .object "WayWeights$Net"
  | 1 => .array (.array .int)
  | 2 => .boolean
  | 3 => .object "WayWeights$Routes"
  | 4 => .object "WayWeights$Flow"
  | _ => .object "WayWeights$Peak"
theorem nmX6 : ∀ a, a < 6 → ∀ b, b < 6 → a ≠ b → (TX6 a).2.1 ≠ (TX6 b).2.1 := by decide +kernel
theorem tyX6_ok : ∀ k, k < 6 → parseFieldDescriptor (TX6 k).2.2.1 = some (tyX6 k) := by decide +kernel
def RX7 : String := "WayWeights$Ways"
def TX7 : u_T := fun k => match k with
  | 0 => ("WayWeights$Ways", "far", "[I", true)
  | 1 => ("WayWeights$Ways", "order", "[I", true)
  | 2 => ("WayWeights$Ways", "reached", "I", false)
  | 3 => ("WayWeights$Ways", "parts", "[I", true)
  | 4 => ("WayWeights$Ways", "tail", "[I", true)
  | _ => ("WayWeights$Ways", "head", "[I", true)
def tyX7 : Nat → FieldType := fun k => match k with
  | 0 => .array .int
  | 1 => .array .int
  | 2 => .int
  | 3 => .array .int
  | 4 => .array .int
  | _ => .array .int
theorem nmX7 : ∀ a, a < 6 → ∀ b, b < 6 → a ≠ b → (TX7 a).2.1 ≠ (TX7 b).2.1 := by decide +kernel
theorem tyX7_ok : ∀ k, k < 6 → parseFieldDescriptor (TX7 k).2.2.1 = some (tyX7 k) := by decide +kernel
def RX8 : String := "WayWeights"
def TX8 : u_T := fun k => match k with
  | 0 => ("WayWeights", "net", "LWayWeights$Net;", true)
  | 1 => ("WayWeights", "loads", "[[I", true)
  | 2 => ("WayWeights", "routes", "LWayWeights$Routes;", true)
  | 3 => ("WayWeights", "flow", "LWayWeights$Flow;", true)
  | 4 => ("WayWeights", "peak", "LWayWeights$Peak;", true)
  | 5 => ("WayWeights", "survey", "LWayWeights$Survey;", true)
  | 6 => ("WayWeights", "seeker", "LWayWeights$Seeker;", true)
  | 7 => ("WayWeights", "news", "LWayWeights$News;", true)
  | _ => ("WayWeights", "grown", "[I", true)
def tyX8 : Nat → FieldType := fun k => match k with
  | 0 => .object "WayWeights$Net"
  | 1 => .array (.array .int)
  | 2 => .object "WayWeights$Routes"
  | 3 => .object "WayWeights$Flow"
  | 4 => .object "WayWeights$Peak"
  | 5 => .object "WayWeights$Survey"
  | 6 => .object "WayWeights$Seeker"
  | 7 => .object "WayWeights$News"
  | _ => .array .int
theorem nmX8 : ∀ a, a < 9 → ∀ b, b < 9 → a ≠ b → (TX8 a).2.1 ≠ (TX8 b).2.1 := by decide +kernel
theorem tyX8_ok : ∀ k, k < 9 → parseFieldDescriptor (TX8 k).2.2.1 = some (tyX8 k) := by decide +kernel
def RX9 : String := "WayWeightsModel"
def TX9 : u_T := fun k => match k with
  | 0 => ("WayWeightsModel", "boxes", "I", false)
  | 1 => ("WayWeightsModel", "first", "[I", true)
  | 2 => ("WayWeightsModel", "second", "[I", true)
  | 3 => ("WayWeightsModel", "room", "[I", true)
  | 4 => ("WayWeightsModel", "weight", "[I", true)
  | 5 => ("WayWeightsModel", "isStill", "[Z", true)
  | 6 => ("WayWeightsModel", "isAway", "[Z", true)
  | 7 => ("WayWeightsModel", "lines", "I", false)
  | 8 => ("WayWeightsModel", "loads", "[I", true)
  | 9 => ("WayWeightsModel", "isGuarded", "Z", false)
  | 10 => ("WayWeightsModel", "hasSought", "Z", false)
  | 11 => ("WayWeightsModel", "sought", "[I", true)
  | 12 => ("WayWeightsModel", "far", "[I", true)
  | 13 => ("WayWeightsModel", "more", "I", false)
  | 14 => ("WayWeightsModel", "letters", "[J", true)
  | 15 => ("WayWeightsModel", "flow", "[J", true)
  | 16 => ("WayWeightsModel", "flowLower", "J", false)
  | 17 => ("WayWeightsModel", "onUpper", "[J", true)
  | 18 => ("WayWeightsModel", "onLower", "[J", true)
  | 19 => ("WayWeightsModel", "worstUpper", "J", false)
  | 20 => ("WayWeightsModel", "worstLower", "J", false)
  | 21 => ("WayWeightsModel", "worstAt", "I", false)
  | 22 => ("WayWeightsModel", "allUpper", "J", false)
  | 23 => ("WayWeightsModel", "allLower", "J", false)
  | 24 => ("WayWeightsModel", "allTable", "I", false)
  | 25 => ("WayWeightsModel", "allLine", "I", false)
  | 26 => ("WayWeightsModel", "had", "[I", true)
  | 27 => ("WayWeightsModel", "may", "[I", true)
  | 28 => ("WayWeightsModel", "betterUpper", "J", false)
  | 29 => ("WayWeightsModel", "betterLower", "J", false)
  | 30 => ("WayWeightsModel", "goes", "[I", true)
  | 31 => ("WayWeightsModel", "off", "[I", true)
  | _ => ("WayWeightsModel", "kept", "[I", true)
def tyX9 : Nat → FieldType := fun k => match k with
  | 0 => .int
  | 1 => .array .int
  | 2 => .array .int
  | 3 => .array .int
  | 4 => .array .int
  | 5 => .array .boolean
  | 6 => .array .boolean
  | 7 => .int
  | 8 => .array .int
  | 9 => .boolean
  | 10 => .boolean
  | 11 => .array .int
  | 12 => .array .int
  | 13 => .int
  | 14 => .array .long
  | 15 => .array .long
  | 16 => .long
  | 17 => .array .long
  | 18 => .array .long
  | 19 => .long
  | 20 => .long
  | 21 => .int
  | 22 => .long
  | 23 => .long
  | 24 => .int
  | 25 => .int
  | 26 => .array .int
  | 27 => .array .int
  | 28 => .long
  | 29 => .long
  | 30 => .array .int
  | 31 => .array .int
  | _ => .array .int
theorem nmX9 : ∀ a, a < 33 → ∀ b, b < 33 → a ≠ b → (TX9 a).2.1 ≠ (TX9 b).2.1 := by decide +kernel
theorem tyX9_ok : ∀ k, k < 33 → parseFieldDescriptor (TX9 k).2.2.1 = some (tyX9 k) := by decide +kernel
def RJ13 : String := "java/lang/Long"
def RJ9 : String := "java/lang/Math"
def RJ10 : String := "java/lang/System"
def RJ7 : String := "java/util/Arrays"
abbrev vwCl : List vw_C := [(RX0, TX0, 2), (RX1, TX1, 8), (RX2, TX2, 5), (RX3, TX3, 6), (RX4, TX4, 1), (RX5, TX5, 13), (RX6, TX6, 6), (RX7, TX7, 6), (RX8, TX8, 9), (RX9, TX9, 33)]
set_option maxRecDepth 100000 in
theorem inX0 : ∀ w ∈ u_ws RX0 TX0 2, w ∈ lw_tbl := by
  have h : ∀ w ∈ u_ws RX0 TX0 2, w ∈ tables_1 := by decide +kernel
  exact fun w hw => List.mem_append_right _ (h w hw)
set_option maxRecDepth 100000 in
theorem inX1 : ∀ w ∈ u_ws RX1 TX1 8, w ∈ lw_tbl := by
  have h : ∀ w ∈ u_ws RX1 TX1 8, w ∈ tables_1 := by decide +kernel
  exact fun w hw => List.mem_append_right _ (h w hw)
set_option maxRecDepth 100000 in
theorem inX2 : ∀ w ∈ u_ws RX2 TX2 5, w ∈ lw_tbl := by
  have h : ∀ w ∈ u_ws RX2 TX2 5, w ∈ tables_1 := by decide +kernel
  exact fun w hw => List.mem_append_right _ (h w hw)
set_option maxRecDepth 100000 in
theorem inX3 : ∀ w ∈ u_ws RX3 TX3 6, w ∈ lw_tbl := by
  have h : ∀ w ∈ u_ws RX3 TX3 6, w ∈ tables_1 := by decide +kernel
  exact fun w hw => List.mem_append_right _ (h w hw)
set_option maxRecDepth 100000 in
theorem inX4 : ∀ w ∈ u_ws RX4 TX4 1, w ∈ lw_tbl := by
  have h : ∀ w ∈ u_ws RX4 TX4 1, w ∈ tables_1 := by decide +kernel
  exact fun w hw => List.mem_append_right _ (h w hw)
set_option maxRecDepth 100000 in
theorem inX5 : ∀ w ∈ u_ws RX5 TX5 13, w ∈ lw_tbl := by
  have h : ∀ w ∈ u_ws RX5 TX5 13, w ∈ tables_1 := by decide +kernel
  exact fun w hw => List.mem_append_right _ (h w hw)
set_option maxRecDepth 100000 in
theorem inX6 : ∀ w ∈ u_ws RX6 TX6 6, w ∈ lw_tbl := by
  have h : ∀ w ∈ u_ws RX6 TX6 6, w ∈ tables_1 := by decide +kernel
  exact fun w hw => List.mem_append_right _ (h w hw)
set_option maxRecDepth 100000 in
theorem inX7 : ∀ w ∈ u_ws RX7 TX7 6, w ∈ lw_tbl := by
  have h : ∀ w ∈ u_ws RX7 TX7 6, w ∈ tables_1 := by decide +kernel
  exact fun w hw => List.mem_append_right _ (h w hw)
set_option maxRecDepth 100000 in
theorem inX8 : ∀ w ∈ u_ws RX8 TX8 9, w ∈ lw_tbl := by
  have h : ∀ w ∈ u_ws RX8 TX8 9, w ∈ tables_1 := by decide +kernel
  exact fun w hw => List.mem_append_right _ (h w hw)
set_option maxRecDepth 100000 in
theorem inX9 : ∀ w ∈ u_ws RX9 TX9 33, w ∈ lw_tbl := by
  have h : ∀ w ∈ u_ws RX9 TX9 33, w ∈ tables_1 := by decide +kernel
  exact fun w hw => List.mem_append_right _ (h w hw)
