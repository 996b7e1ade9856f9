section
-- ===== PART A: goes FIRST, ahead of the names: the tables' words, and 'selects' of the private methods out of them =====
/-- a private method of a class that the tables say can be made, by its rows of tables_1 -/
def lw_okq (q : MethodName × Nat) : Prop := (q.1.cls ≠ "java/lang/invoke/MethodHandle" ∧ q.1.cls ≠ "java/lang/invoke/VarHandle") ∧ Cond.instantiable q.1.cls q.2 ∈ tables_1 ∧ Cond.privateMethod q.1 ∈ tables_1 ∧ Cond.instanceMethod q.1 ∈ tables_1
theorem lw_p0 : lw_okq (⟨"WayWeights$Ways", "nearest", "(LWayWeights$Net;I)I"⟩, 6) := ⟨⟨by decide +kernel, by decide +kernel⟩, List.mem_of_getElem? (i := 93) (by decide +kernel), List.mem_of_getElem? (i := 400) (by decide +kernel), List.mem_of_getElem? (i := 401) (by decide +kernel)⟩
theorem lw_p1 : lw_okq (⟨"WayWeights$Ways", "comeNearerBy", "(ILWayWeights$Net;[II)V"⟩, 6) := ⟨⟨by decide +kernel, by decide +kernel⟩, List.mem_of_getElem? (i := 93) (by decide +kernel), List.mem_of_getElem? (i := 404) (by decide +kernel), List.mem_of_getElem? (i := 405) (by decide +kernel)⟩
theorem lw_p2 : lw_okq (⟨"WayWeights$Ways", "findNext", "(LWayWeights$Net;[II)V"⟩, 6) := ⟨⟨by decide +kernel, by decide +kernel⟩, List.mem_of_getElem? (i := 93) (by decide +kernel), List.mem_of_getElem? (i := 408) (by decide +kernel), List.mem_of_getElem? (i := 409) (by decide +kernel)⟩
theorem lw_p3 : lw_okq (⟨"WayWeights$Flow", "pass", "(LWayWeights$Net;LWayWeights$Ways;)V"⟩, 2) := ⟨⟨by decide +kernel, by decide +kernel⟩, List.mem_of_getElem? (i := 134) (by decide +kernel), List.mem_of_getElem? (i := 430) (by decide +kernel), List.mem_of_getElem? (i := 431) (by decide +kernel)⟩
theorem lw_p4 : lw_okq (⟨"WayWeights$Flow", "divide", "(LWayWeights$Net;LWayWeights$Ways;IJ)V"⟩, 2) := ⟨⟨by decide +kernel, by decide +kernel⟩, List.mem_of_getElem? (i := 134) (by decide +kernel), List.mem_of_getElem? (i := 434) (by decide +kernel), List.mem_of_getElem? (i := 435) (by decide +kernel)⟩
theorem lw_p5 : lw_okq (⟨"WayWeights$Flow", "collect", "(LWayWeights$Net;[II)Z"⟩, 2) := ⟨⟨by decide +kernel, by decide +kernel⟩, List.mem_of_getElem? (i := 134) (by decide +kernel), List.mem_of_getElem? (i := 465) (by decide +kernel), List.mem_of_getElem? (i := 466) (by decide +kernel)⟩
theorem lw_p6 : lw_okq (⟨"WayWeights", "findPeak", "(I)V"⟩, 9) := ⟨⟨by decide +kernel, by decide +kernel⟩, List.mem_of_getElem? (i := 16) (by decide +kernel), List.mem_of_getElem? (i := 474) (by decide +kernel), List.mem_of_getElem? (i := 475) (by decide +kernel)⟩
theorem lw_p7 : lw_okq (⟨"WayWeights$Seeker", "chooseFree", "()V"⟩, 13) := ⟨⟨by decide +kernel, by decide +kernel⟩, List.mem_of_getElem? (i := 211) (by decide +kernel), List.mem_of_getElem? (i := 545) (by decide +kernel), List.mem_of_getElem? (i := 546) (by decide +kernel)⟩
theorem lw_p8 : lw_okq (⟨"WayWeights$Seeker", "countChoices", "()I"⟩, 13) := ⟨⟨by decide +kernel, by decide +kernel⟩, List.mem_of_getElem? (i := 211) (by decide +kernel), List.mem_of_getElem? (i := 554) (by decide +kernel), List.mem_of_getElem? (i := 555) (by decide +kernel)⟩
theorem lw_p9 : lw_okq (⟨"WayWeights$Seeker", "choicesOf", "(I)I"⟩, 13) := ⟨⟨by decide +kernel, by decide +kernel⟩, List.mem_of_getElem? (i := 211) (by decide +kernel), List.mem_of_getElem? (i := 558) (by decide +kernel), List.mem_of_getElem? (i := 559) (by decide +kernel)⟩
theorem lw_p10 : lw_okq (⟨"WayWeights$Seeker", "choose", "(I)I"⟩, 13) := ⟨⟨by decide +kernel, by decide +kernel⟩, List.mem_of_getElem? (i := 211) (by decide +kernel), List.mem_of_getElem? (i := 562) (by decide +kernel), List.mem_of_getElem? (i := 563) (by decide +kernel)⟩
theorem lw_p11 : lw_okq (⟨"WayWeights$Seeker", "isBetter", "(I)Z"⟩, 13) := ⟨⟨by decide +kernel, by decide +kernel⟩, List.mem_of_getElem? (i := 211) (by decide +kernel), List.mem_of_getElem? (i := 566) (by decide +kernel), List.mem_of_getElem? (i := 567) (by decide +kernel)⟩
theorem lw_p12 : lw_okq (⟨"WayWeights", "refusalOfNews", "(II)I"⟩, 9) := ⟨⟨by decide +kernel, by decide +kernel⟩, List.mem_of_getElem? (i := 16) (by decide +kernel), List.mem_of_getElem? (i := 593) (by decide +kernel), List.mem_of_getElem? (i := 594) (by decide +kernel)⟩
theorem lw_p13 : lw_okq (⟨"WayWeights$News", "learn", "(II)V"⟩, 5) := ⟨⟨by decide +kernel, by decide +kernel⟩, List.mem_of_getElem? (i := 263) (by decide +kernel), List.mem_of_getElem? (i := 601) (by decide +kernel), List.mem_of_getElem? (i := 602) (by decide +kernel)⟩
theorem lw_p14 : lw_okq (⟨"WayWeights$News", "learnSteps", "(IILWayWeights$Ways;)V"⟩, 5) := ⟨⟨by decide +kernel, by decide +kernel⟩, List.mem_of_getElem? (i := 263) (by decide +kernel), List.mem_of_getElem? (i := 607) (by decide +kernel), List.mem_of_getElem? (i := 608) (by decide +kernel)⟩
theorem lw_p15 : lw_okq (⟨"WayWeights$News", "leastRing", "(II)I"⟩, 5) := ⟨⟨by decide +kernel, by decide +kernel⟩, List.mem_of_getElem? (i := 263) (by decide +kernel), List.mem_of_getElem? (i := 614) (by decide +kernel), List.mem_of_getElem? (i := 615) (by decide +kernel)⟩
def lw_privs_1 : List (MethodName × Nat) := [(⟨"WayWeights$Ways", "nearest", "(LWayWeights$Net;I)I"⟩, 6), (⟨"WayWeights$Ways", "comeNearerBy", "(ILWayWeights$Net;[II)V"⟩, 6), (⟨"WayWeights$Ways", "findNext", "(LWayWeights$Net;[II)V"⟩, 6), (⟨"WayWeights$Flow", "pass", "(LWayWeights$Net;LWayWeights$Ways;)V"⟩, 2), (⟨"WayWeights$Flow", "divide", "(LWayWeights$Net;LWayWeights$Ways;IJ)V"⟩, 2), (⟨"WayWeights$Flow", "collect", "(LWayWeights$Net;[II)Z"⟩, 2), (⟨"WayWeights", "findPeak", "(I)V"⟩, 9), (⟨"WayWeights$Seeker", "chooseFree", "()V"⟩, 13), (⟨"WayWeights$Seeker", "countChoices", "()I"⟩, 13), (⟨"WayWeights$Seeker", "choicesOf", "(I)I"⟩, 13), (⟨"WayWeights$Seeker", "choose", "(I)I"⟩, 13), (⟨"WayWeights$Seeker", "isBetter", "(I)Z"⟩, 13), (⟨"WayWeights", "refusalOfNews", "(II)I"⟩, 9), (⟨"WayWeights$News", "learn", "(II)V"⟩, 5), (⟨"WayWeights$News", "learnSteps", "(IILWayWeights$Ways;)V"⟩, 5), (⟨"WayWeights$News", "leastRing", "(II)I"⟩, 5)]
theorem lw_r1 : ∀ q ∈ lw_privs_1, lw_okq q := List.forall_mem_cons.mpr ⟨lw_p0, List.forall_mem_cons.mpr ⟨lw_p1, List.forall_mem_cons.mpr ⟨lw_p2, List.forall_mem_cons.mpr ⟨lw_p3, List.forall_mem_cons.mpr ⟨lw_p4, List.forall_mem_cons.mpr ⟨lw_p5, List.forall_mem_cons.mpr ⟨lw_p6, List.forall_mem_cons.mpr ⟨lw_p7, List.forall_mem_cons.mpr ⟨lw_p8, List.forall_mem_cons.mpr ⟨lw_p9, List.forall_mem_cons.mpr ⟨lw_p10, List.forall_mem_cons.mpr ⟨lw_p11, List.forall_mem_cons.mpr ⟨lw_p12, List.forall_mem_cons.mpr ⟨lw_p13, List.forall_mem_cons.mpr ⟨lw_p14, List.forall_mem_cons.mpr ⟨lw_p15, fun _ h => absurd h List.not_mem_nil⟩⟩⟩⟩⟩⟩⟩⟩⟩⟩⟩⟩⟩⟩⟩⟩
theorem lw_p16 : lw_okq (⟨"WayWeights$News", "hasRing", "(III)Z"⟩, 5) := ⟨⟨by decide +kernel, by decide +kernel⟩, List.mem_of_getElem? (i := 263) (by decide +kernel), List.mem_of_getElem? (i := 618) (by decide +kernel), List.mem_of_getElem? (i := 619) (by decide +kernel)⟩
theorem lw_p17 : lw_okq (⟨"WayWeights$News", "measure", "(II)V"⟩, 5) := ⟨⟨by decide +kernel, by decide +kernel⟩, List.mem_of_getElem? (i := 263) (by decide +kernel), List.mem_of_getElem? (i := 630) (by decide +kernel), List.mem_of_getElem? (i := 631) (by decide +kernel)⟩
theorem lw_p18 : lw_okq (⟨"WayWeights$News", "meetFrom", "(I)V"⟩, 5) := ⟨⟨by decide +kernel, by decide +kernel⟩, List.mem_of_getElem? (i := 263) (by decide +kernel), List.mem_of_getElem? (i := 635) (by decide +kernel), List.mem_of_getElem? (i := 636) (by decide +kernel)⟩
theorem lw_p19 : lw_okq (⟨"WayWeights$News", "leastNearer", "(I)I"⟩, 5) := ⟨⟨by decide +kernel, by decide +kernel⟩, List.mem_of_getElem? (i := 263) (by decide +kernel), List.mem_of_getElem? (i := 647) (by decide +kernel), List.mem_of_getElem? (i := 648) (by decide +kernel)⟩
theorem lw_p20 : lw_okq (⟨"WayWeights", "growByHundredths", "(I)V"⟩, 9) := ⟨⟨by decide +kernel, by decide +kernel⟩, List.mem_of_getElem? (i := 16) (by decide +kernel), List.mem_of_getElem? (i := 665) (by decide +kernel), List.mem_of_getElem? (i := 666) (by decide +kernel)⟩
theorem lw_p21 : lw_okq (⟨"WayWeights", "sumOfLoads", "(I)I"⟩, 9) := ⟨⟨by decide +kernel, by decide +kernel⟩, List.mem_of_getElem? (i := 16) (by decide +kernel), List.mem_of_getElem? (i := 679) (by decide +kernel), List.mem_of_getElem? (i := 680) (by decide +kernel)⟩
theorem lw_p22 : lw_okq (⟨"WayWeightsModel", "isBox", "(I)Z"⟩, 33) := ⟨⟨by decide +kernel, by decide +kernel⟩, List.mem_of_getElem? (i := 683) (by decide +kernel), List.mem_of_getElem? (i := 803) (by decide +kernel), List.mem_of_getElem? (i := 804) (by decide +kernel)⟩
theorem lw_p23 : lw_okq (⟨"WayWeightsModel", "isLine", "(I)Z"⟩, 33) := ⟨⟨by decide +kernel, by decide +kernel⟩, List.mem_of_getElem? (i := 683) (by decide +kernel), List.mem_of_getElem? (i := 813) (by decide +kernel), List.mem_of_getElem? (i := 814) (by decide +kernel)⟩
theorem lw_p24 : lw_okq (⟨"WayWeightsModel", "loadOf", "(III)I"⟩, 33) := ⟨⟨by decide +kernel, by decide +kernel⟩, List.mem_of_getElem? (i := 683) (by decide +kernel), List.mem_of_getElem? (i := 833) (by decide +kernel), List.mem_of_getElem? (i := 834) (by decide +kernel)⟩
theorem lw_p25 : lw_okq (⟨"WayWeightsModel", "findFar", "(I)V"⟩, 33) := ⟨⟨by decide +kernel, by decide +kernel⟩, List.mem_of_getElem? (i := 683) (by decide +kernel), List.mem_of_getElem? (i := 841) (by decide +kernel), List.mem_of_getElem? (i := 842) (by decide +kernel)⟩
theorem lw_p26 : lw_okq (⟨"WayWeightsModel", "isThere", "(I)Z"⟩, 33) := ⟨⟨by decide +kernel, by decide +kernel⟩, List.mem_of_getElem? (i := 683) (by decide +kernel), List.mem_of_getElem? (i := 846) (by decide +kernel), List.mem_of_getElem? (i := 847) (by decide +kernel)⟩
theorem lw_p27 : lw_okq (⟨"WayWeightsModel", "nextOf", "(I)I"⟩, 33) := ⟨⟨by decide +kernel, by decide +kernel⟩, List.mem_of_getElem? (i := 683) (by decide +kernel), List.mem_of_getElem? (i := 854) (by decide +kernel), List.mem_of_getElem? (i := 855) (by decide +kernel)⟩
theorem lw_p28 : lw_okq (⟨"WayWeightsModel", "isNext", "(II)Z"⟩, 33) := ⟨⟨by decide +kernel, by decide +kernel⟩, List.mem_of_getElem? (i := 683) (by decide +kernel), List.mem_of_getElem? (i := 858) (by decide +kernel), List.mem_of_getElem? (i := 859) (by decide +kernel)⟩
theorem lw_p29 : lw_okq (⟨"WayWeightsModel", "goDown", "()V"⟩, 33) := ⟨⟨by decide +kernel, by decide +kernel⟩, List.mem_of_getElem? (i := 683) (by decide +kernel), List.mem_of_getElem? (i := 868) (by decide +kernel), List.mem_of_getElem? (i := 869) (by decide +kernel)⟩
theorem lw_p30 : lw_okq (⟨"WayWeightsModel", "parts", "(I)V"⟩, 33) := ⟨⟨by decide +kernel, by decide +kernel⟩, List.mem_of_getElem? (i := 683) (by decide +kernel), List.mem_of_getElem? (i := 875) (by decide +kernel), List.mem_of_getElem? (i := 876) (by decide +kernel)⟩
theorem lw_p31 : lw_okq (⟨"WayWeightsModel", "findOn", "(I)V"⟩, 33) := ⟨⟨by decide +kernel, by decide +kernel⟩, List.mem_of_getElem? (i := 683) (by decide +kernel), List.mem_of_getElem? (i := 889) (by decide +kernel), List.mem_of_getElem? (i := 890) (by decide +kernel)⟩
def lw_privs_2 : List (MethodName × Nat) := [(⟨"WayWeights$News", "hasRing", "(III)Z"⟩, 5), (⟨"WayWeights$News", "measure", "(II)V"⟩, 5), (⟨"WayWeights$News", "meetFrom", "(I)V"⟩, 5), (⟨"WayWeights$News", "leastNearer", "(I)I"⟩, 5), (⟨"WayWeights", "growByHundredths", "(I)V"⟩, 9), (⟨"WayWeights", "sumOfLoads", "(I)I"⟩, 9), (⟨"WayWeightsModel", "isBox", "(I)Z"⟩, 33), (⟨"WayWeightsModel", "isLine", "(I)Z"⟩, 33), (⟨"WayWeightsModel", "loadOf", "(III)I"⟩, 33), (⟨"WayWeightsModel", "findFar", "(I)V"⟩, 33), (⟨"WayWeightsModel", "isThere", "(I)Z"⟩, 33), (⟨"WayWeightsModel", "nextOf", "(I)I"⟩, 33), (⟨"WayWeightsModel", "isNext", "(II)Z"⟩, 33), (⟨"WayWeightsModel", "goDown", "()V"⟩, 33), (⟨"WayWeightsModel", "parts", "(I)V"⟩, 33), (⟨"WayWeightsModel", "findOn", "(I)V"⟩, 33)]
theorem lw_r2 : ∀ q ∈ lw_privs_2, lw_okq q := List.forall_mem_cons.mpr ⟨lw_p16, List.forall_mem_cons.mpr ⟨lw_p17, List.forall_mem_cons.mpr ⟨lw_p18, List.forall_mem_cons.mpr ⟨lw_p19, List.forall_mem_cons.mpr ⟨lw_p20, List.forall_mem_cons.mpr ⟨lw_p21, List.forall_mem_cons.mpr ⟨lw_p22, List.forall_mem_cons.mpr ⟨lw_p23, List.forall_mem_cons.mpr ⟨lw_p24, List.forall_mem_cons.mpr ⟨lw_p25, List.forall_mem_cons.mpr ⟨lw_p26, List.forall_mem_cons.mpr ⟨lw_p27, List.forall_mem_cons.mpr ⟨lw_p28, List.forall_mem_cons.mpr ⟨lw_p29, List.forall_mem_cons.mpr ⟨lw_p30, List.forall_mem_cons.mpr ⟨lw_p31, fun _ h => absurd h List.not_mem_nil⟩⟩⟩⟩⟩⟩⟩⟩⟩⟩⟩⟩⟩⟩⟩⟩
theorem lw_p32 : lw_okq (⟨"WayWeightsModel", "findWorst", "(I)V"⟩, 33) := ⟨⟨by decide +kernel, by decide +kernel⟩, List.mem_of_getElem? (i := 683) (by decide +kernel), List.mem_of_getElem? (i := 898) (by decide +kernel), List.mem_of_getElem? (i := 899) (by decide +kernel)⟩
theorem lw_p33 : lw_okq (⟨"WayWeightsModel", "findAll", "()V"⟩, 33) := ⟨⟨by decide +kernel, by decide +kernel⟩, List.mem_of_getElem? (i := 683) (by decide +kernel), List.mem_of_getElem? (i := 914) (by decide +kernel), List.mem_of_getElem? (i := 915) (by decide +kernel)⟩
theorem lw_p34 : lw_okq (⟨"WayWeightsModel", "changes", "()I"⟩, 33) := ⟨⟨by decide +kernel, by decide +kernel⟩, List.mem_of_getElem? (i := 683) (by decide +kernel), List.mem_of_getElem? (i := 932) (by decide +kernel), List.mem_of_getElem? (i := 933) (by decide +kernel)⟩
theorem lw_p35 : lw_okq (⟨"WayWeightsModel", "isLesserRow", "()Z"⟩, 33) := ⟨⟨by decide +kernel, by decide +kernel⟩, List.mem_of_getElem? (i := 683) (by decide +kernel), List.mem_of_getElem? (i := 936) (by decide +kernel), List.mem_of_getElem? (i := 937) (by decide +kernel)⟩
theorem lw_p36 : lw_okq (⟨"WayWeightsModel", "whyNot", "(II)I"⟩, 33) := ⟨⟨by decide +kernel, by decide +kernel⟩, List.mem_of_getElem? (i := 683) (by decide +kernel), List.mem_of_getElem? (i := 957) (by decide +kernel), List.mem_of_getElem? (i := 958) (by decide +kernel)⟩
theorem lw_p37 : lw_okq (⟨"WayWeightsModel", "ringOf", "(III)I"⟩, 33) := ⟨⟨by decide +kernel, by decide +kernel⟩, List.mem_of_getElem? (i := 683) (by decide +kernel), List.mem_of_getElem? (i := 961) (by decide +kernel), List.mem_of_getElem? (i := 962) (by decide +kernel)⟩
theorem lw_p38 : lw_okq (⟨"WayWeightsModel", "hasRing", "(IIII)Z"⟩, 33) := ⟨⟨by decide +kernel, by decide +kernel⟩, List.mem_of_getElem? (i := 683) (by decide +kernel), List.mem_of_getElem? (i := 965) (by decide +kernel), List.mem_of_getElem? (i := 966) (by decide +kernel)⟩
theorem lw_p39 : lw_okq (⟨"WayWeightsModel", "addGoes", "(III)V"⟩, 33) := ⟨⟨by decide +kernel, by decide +kernel⟩, List.mem_of_getElem? (i := 683) (by decide +kernel), List.mem_of_getElem? (i := 969) (by decide +kernel), List.mem_of_getElem? (i := 970) (by decide +kernel)⟩
theorem lw_p40 : lw_okq (⟨"WayWeightsModel", "findOff", "(II)V"⟩, 33) := ⟨⟨by decide +kernel, by decide +kernel⟩, List.mem_of_getElem? (i := 683) (by decide +kernel), List.mem_of_getElem? (i := 977) (by decide +kernel), List.mem_of_getElem? (i := 978) (by decide +kernel)⟩
def lw_privs_3 : List (MethodName × Nat) := [(⟨"WayWeightsModel", "findWorst", "(I)V"⟩, 33), (⟨"WayWeightsModel", "findAll", "()V"⟩, 33), (⟨"WayWeightsModel", "changes", "()I"⟩, 33), (⟨"WayWeightsModel", "isLesserRow", "()Z"⟩, 33), (⟨"WayWeightsModel", "whyNot", "(II)I"⟩, 33), (⟨"WayWeightsModel", "ringOf", "(III)I"⟩, 33), (⟨"WayWeightsModel", "hasRing", "(IIII)Z"⟩, 33), (⟨"WayWeightsModel", "addGoes", "(III)V"⟩, 33), (⟨"WayWeightsModel", "findOff", "(II)V"⟩, 33)]
theorem lw_r3 : ∀ q ∈ lw_privs_3, lw_okq q := List.forall_mem_cons.mpr ⟨lw_p32, List.forall_mem_cons.mpr ⟨lw_p33, List.forall_mem_cons.mpr ⟨lw_p34, List.forall_mem_cons.mpr ⟨lw_p35, List.forall_mem_cons.mpr ⟨lw_p36, List.forall_mem_cons.mpr ⟨lw_p37, List.forall_mem_cons.mpr ⟨lw_p38, List.forall_mem_cons.mpr ⟨lw_p39, List.forall_mem_cons.mpr ⟨lw_p40, fun _ h => absurd h List.not_mem_nil⟩⟩⟩⟩⟩⟩⟩⟩⟩
def lw_privs : List (MethodName × Nat) := lw_privs_1 ++ (lw_privs_2 ++ (lw_privs_3))
def lw_tbl : List Cond := k2_sels lw_privs ++ tables_1
theorem lw_privs_ok : ∀ q ∈ lw_privs, lw_okq q := by
  show ∀ q ∈ lw_privs_1 ++ (lw_privs_2 ++ (lw_privs_3)), lw_okq q
  exact List.forall_mem_append.mpr ⟨lw_r1, List.forall_mem_append.mpr ⟨lw_r2, lw_r3⟩⟩

def RX0 : String := "WayWeights$Flow"
def TX0 : u_T := fun k => match k with
  | 0 => ("WayWeights$Flow", "at", "[J", true)
  | _ => ("WayWeights$Flow", "over", "[J", true)
def tyX0 : Nat → FieldType := fun k => match k with
  | 0 => .array .long
  | _ => .array .long
theorem nmX0 : ∀ a, a < 2 → ∀ b, b < 2 → a ≠ b → (TX0 a).2.1 ≠ (TX0 b).2.1 := by decide +kernel
theorem tyX0_ok : ∀ k, k < 2 → parseFieldDescriptor (TX0 k).2.2.1 = some (tyX0 k) := by decide +kernel
def RX1 : String := "WayWeights$Net"
def TX1 : u_T := fun k => match k with
  | 0 => ("WayWeights$Net", "boxes", "I", false)
  | 1 => ("WayWeights$Net", "lines", "I", false)
  | 2 => ("WayWeights$Net", "first", "[I", true)
  | 3 => ("WayWeights$Net", "second", "[I", true)
  | 4 => ("WayWeights$Net", "room", "[I", true)
  | 5 => ("WayWeights$Net", "weight", "[I", true)
  | 6 => ("WayWeights$Net", "still", "I", false)
  | _ => ("WayWeights$Net", "away", "I", false)
def tyX1 : Nat → FieldType := fun k => match k with
  | 0 => .int
  | 1 => .int
  | 2 => .array .int
  | 3 => .array .int
  | 4 => .array .int
  | 5 => .array .int
  | 6 => .int
  | _ => .int
theorem nmX1 : ∀ a, a < 8 → ∀ b, b < 8 → a ≠ b → (TX1 a).2.1 ≠ (TX1 b).2.1 := by decide +kernel
theorem tyX1_ok : ∀ k, k < 8 → parseFieldDescriptor (TX1 k).2.2.1 = some (tyX1 k) := by decide +kernel
def RX2 : String := "WayWeights$News"
def TX2 : u_T := fun k => match k with
  | 0 => ("WayWeights$News", "net", "LWayWeights$Net;", true)
  | 1 => ("WayWeights$News", "routes", "LWayWeights$Routes;", true)
  | 2 => ("WayWeights$News", "trial", "[I", true)
  | 3 => ("WayWeights$News", "steps", "[I", true)
  | _ => ("WayWeights$News", "toGoal", "[I", true)
def tyX2 : Nat → FieldType := fun k => match k with
  | 0 => .object "WayWeights$Net"
  | 1 => .object "WayWeights$Routes"
  | 2 => .array .int
  | 3 => .array .int
  | _ => .array .int
theorem nmX2 : ∀ a, a < 5 → ∀ b, b < 5 → a ≠ b → (TX2 a).2.1 ≠ (TX2 b).2.1 := by decide +kernel
theorem tyX2_ok : ∀ k, k < 5 → parseFieldDescriptor (TX2 k).2.2.1 = some (tyX2 k) := by decide +kernel
def RX3 : String := "WayWeights$Peak"
def TX3 : u_T := fun k => match k with
  | 0 => ("WayWeights$Peak", "over", "J", false)
  | 1 => ("WayWeights$Peak", "room", "I", false)
  | 2 => ("WayWeights$Peak", "line", "I", false)
  | 3 => ("WayWeights$Peak", "way", "I", false)
  | 4 => ("WayWeights$Peak", "table", "I", false)
  | _ => ("WayWeights$Peak", "moreAway", "I", false)
def tyX3 : Nat → FieldType := fun k => match k with
  | 0 => .long
  | 1 => .int
  | 2 => .int
  | 3 => .int
  | 4 => .int
  | _ => .int
theorem nmX3 : ∀ a, a < 6 → ∀ b, b < 6 → a ≠ b → (TX3 a).2.1 ≠ (TX3 b).2.1 := by decide +kernel
theorem tyX3_ok : ∀ k, k < 6 → parseFieldDescriptor (TX3 k).2.2.1 = some (tyX3 k) := by decide +kernel
def RX4 : String := "WayWeights$Routes"
def TX4 : u_T := fun k => match k with
  | _ => ("WayWeights$Routes", "to", "[LWayWeights$Ways;", true)
def tyX4 : Nat → FieldType := fun k => match k with
  | _ => .array (.object "WayWeights$Ways")
theorem nmX4 : ∀ a, a < 1 → ∀ b, b < 1 → a ≠ b → (TX4 a).2.1 ≠ (TX4 b).2.1 := by decide +kernel
theorem tyX4_ok : ∀ k, k < 1 → parseFieldDescriptor (TX4 k).2.2.1 = some (tyX4 k) := by decide +kernel
def RX5 : String := "WayWeights$Seeker"
def TX5 : u_T := fun k => match k with
  | 0 => ("WayWeights$Seeker", "net", "LWayWeights$Net;", true)
  | 1 => ("WayWeights$Seeker", "survey", "LWayWeights$Survey;", true)
  | 2 => ("WayWeights$Seeker", "isDone", "Z", false)
  | 3 => ("WayWeights$Seeker", "changes", "I", false)
  | 4 => ("WayWeights$Seeker", "found", "[I", true)
  | 5 => ("WayWeights$Seeker", "best", "LWayWeights$Peak;", true)
  | 6 => ("WayWeights$Seeker", "span", "I", false)
  | 7 => ("WayWeights$Seeker", "count", "I", false)
  | 8 => ("WayWeights$Seeker", "free", "[I", true)
  | 9 => ("WayWeights$Seeker", "targets", "I", false)
  | 10 => ("WayWeights$Seeker", "hardest", "I", false)
  | 11 => ("WayWeights$Seeker", "trial", "[I", true)
  | _ => ("WayWeights$Seeker", "peak", "LWayWeights$Peak;", true)
def tyX5 : Nat → FieldType := fun k => match k with
  | 0 => .object "WayWeights$Net"
  | 1 => .object "WayWeights$Survey"
  | 2 => .boolean
  | 3 => .int
  | 4 => .array .int
  | 5 => .object "WayWeights$Peak"
  | 6 => .int
  | 7 => .int
  | 8 => .array .int
  | 9 => .int
  | 10 => .int
  | 11 => .array .int
  | _ => .object "WayWeights$Peak"
theorem nmX5 : ∀ a, a < 13 → ∀ b, b < 13 → a ≠ b → (TX5 a).2.1 ≠ (TX5 b).2.1 := by decide +kernel
theorem tyX5_ok : ∀ k, k < 13 → parseFieldDescriptor (TX5 k).2.2.1 = some (tyX5 k) := by decide +kernel
def RX6 : String := "WayWeights$Survey"
def TX6 : u_T := fun k => match k with
  | 0 => ("WayWeights$Survey", "net", "LWayWeights$Net;", true)
  | 1 => ("WayWeights$Survey", "loads", "[[I", true)
  | 2 => ("WayWeights$Survey", "guarded", "Z", false)
  | 3 => ("WayWeights$Survey", "routes", "LWayWeights$Routes;", true)
  | 4 => ("WayWeights$Survey", "flow", "LWayWeights$Flow;", true)
  | _ => ("WayWeights$Survey", "one", "LWayWeights$Peak;", true)
def tyX6 : Nat → FieldType := fun k => match k with
  | 0 => .object "WayWeights$Net"
  | 1 => .array (.array .int)
  | 2 => .boolean
  | 3 => .object "WayWeights$Routes"
  | 4 => .object "WayWeights$Flow"
  | _ => .object "WayWeights$Peak"
theorem nmX6 : ∀ a, a < 6 → ∀ b, b < 6 → a ≠ b → (TX6 a).2.1 ≠ (TX6 b).2.1 := by decide +kernel
theorem tyX6_ok : ∀ k, k < 6 → parseFieldDescriptor (TX6 k).2.2.1 = some (tyX6 k) := by decide +kernel
def RX7 : String := "WayWeights$Ways"
def TX7 : u_T := fun k => match k with
  | 0 => ("WayWeights$Ways", "far", "[I", true)
  | 1 => ("WayWeights$Ways", "order", "[I", true)
  | 2 => ("WayWeights$Ways", "reached", "I", false)
  | 3 => ("WayWeights$Ways", "parts", "[I", true)
  | 4 => ("WayWeights$Ways", "tail", "[I", true)
  | _ => ("WayWeights$Ways", "head", "[I", true)
def tyX7 : Nat → FieldType := fun k => match k with
  | 0 => .array .int
  | 1 => .array .int
  | 2 => .int
  | 3 => .array .int
  | 4 => .array .int
  | _ => .array .int
theorem nmX7 : ∀ a, a < 6 → ∀ b, b < 6 → a ≠ b → (TX7 a).2.1 ≠ (TX7 b).2.1 := by decide +kernel
theorem tyX7_ok : ∀ k, k < 6 → parseFieldDescriptor (TX7 k).2.2.1 = some (tyX7 k) := by decide +kernel
def RX8 : String := "WayWeights"
def TX8 : u_T := fun k => match k with
  | 0 => ("WayWeights", "net", "LWayWeights$Net;", true)
  | 1 => ("WayWeights", "loads", "[[I", true)
  | 2 => ("WayWeights", "routes", "LWayWeights$Routes;", true)
  | 3 => ("WayWeights", "flow", "LWayWeights$Flow;", true)
  | 4 => ("WayWeights", "peak", "LWayWeights$Peak;", true)
  | 5 => ("WayWeights", "survey", "LWayWeights$Survey;", true)
  | 6 => ("WayWeights", "seeker", "LWayWeights$Seeker;", true)
  | 7 => ("WayWeights", "news", "LWayWeights$News;", true)
  | _ => ("WayWeights", "grown", "[I", true)
def tyX8 : Nat → FieldType := fun k => match k with
  | 0 => .object "WayWeights$Net"
  | 1 => .array (.array .int)
  | 2 => .object "WayWeights$Routes"
  | 3 => .object "WayWeights$Flow"
  | 4 => .object "WayWeights$Peak"
  | 5 => .object "WayWeights$Survey"
  | 6 => .object "WayWeights$Seeker"
  | 7 => .object "WayWeights$News"
  | _ => .array .int
theorem nmX8 : ∀ a, a < 9 → ∀ b, b < 9 → a ≠ b → (TX8 a).2.1 ≠ (TX8 b).2.1 := by decide +kernel
theorem tyX8_ok : ∀ k, k < 9 → parseFieldDescriptor (TX8 k).2.2.1 = some (tyX8 k) := by decide +kernel
def RX9 : String := "WayWeightsModel"
def TX9 : u_T := fun k => match k with
  | 0 => ("WayWeightsModel", "boxes", "I", false)
  | 1 => ("WayWeightsModel", "first", "[I", true)
  | 2 => ("WayWeightsModel", "second", "[I", true)
  | 3 => ("WayWeightsModel", "room", "[I", true)
  | 4 => ("WayWeightsModel", "weight", "[I", true)
  | 5 => ("WayWeightsModel", "isStill", "[Z", true)
  | 6 => ("WayWeightsModel", "isAway", "[Z", true)
  | 7 => ("WayWeightsModel", "lines", "I", false)
  | 8 => ("WayWeightsModel", "loads", "[I", true)
  | 9 => ("WayWeightsModel", "isGuarded", "Z", false)
  | 10 => ("WayWeightsModel", "hasSought", "Z", false)
  | 11 => ("WayWeightsModel", "sought", "[I", true)
  | 12 => ("WayWeightsModel", "far", "[I", true)
  | 13 => ("WayWeightsModel", "more", "I", false)
  | 14 => ("WayWeightsModel", "letters", "[J", true)
  | 15 => ("WayWeightsModel", "flow", "[J", true)
  | 16 => ("WayWeightsModel", "flowLower", "J", false)
  | 17 => ("WayWeightsModel", "onUpper", "[J", true)
  | 18 => ("WayWeightsModel", "onLower", "[J", true)
  | 19 => ("WayWeightsModel", "worstUpper", "J", false)
  | 20 => ("WayWeightsModel", "worstLower", "J", false)
  | 21 => ("WayWeightsModel", "worstAt", "I", false)
  | 22 => ("WayWeightsModel", "allUpper", "J", false)
  | 23 => ("WayWeightsModel", "allLower", "J", false)
  | 24 => ("WayWeightsModel", "allTable", "I", false)
  | 25 => ("WayWeightsModel", "allLine", "I", false)
  | 26 => ("WayWeightsModel", "had", "[I", true)
  | 27 => ("WayWeightsModel", "may", "[I", true)
  | 28 => ("WayWeightsModel", "betterUpper", "J", false)
  | 29 => ("WayWeightsModel", "betterLower", "J", false)
  | 30 => ("WayWeightsModel", "goes", "[I", true)
  | 31 => ("WayWeightsModel", "off", "[I", true)
  | _ => ("WayWeightsModel", "kept", "[I", true)
def tyX9 : Nat → FieldType := fun k => match k with
  | 0 => .int
  | 1 => .array .int
  | 2 => .array .int
  | 3 => .array .int
  | 4 => .array .int
  | 5 => .array .boolean
  | 6 => .array .boolean
  | 7 => .int
  | 8 => .array .int
  | 9 => .boolean
  | 10 => .boolean
  | 11 => .array .int
  | 12 => .array .int
  | 13 => .int
  | 14 => .array .long
  | 15 => .array .long
  | 16 => .long
  | 17 => .array .long
  | 18 => .array .long
  | 19 => .long
  | 20 => .long
  | 21 => .int
  | 22 => .long
  | 23 => .long
  | 24 => .int
  | 25 => .int
  | 26 => .array .int
  | 27 => .array .int
  | 28 => .long
  | 29 => .long
  | 30 => .array .int
  | 31 => .array .int
  | _ => .array .int
theorem nmX9 : ∀ a, a < 33 → ∀ b, b < 33 → a ≠ b → (TX9 a).2.1 ≠ (TX9 b).2.1 := by decide +kernel
theorem tyX9_ok : ∀ k, k < 33 → parseFieldDescriptor (TX9 k).2.2.1 = some (tyX9 k) := by decide +kernel
def RJ13 : String := "java/lang/Long"
def RJ9 : String := "java/lang/Math"
def RJ10 : String := "java/lang/System"
def RJ7 : String := "java/util/Arrays"
abbrev vwCl : List vw_C := [(RX0, TX0, 2), (RX1, TX1, 8), (RX2, TX2, 5), (RX3, TX3, 6), (RX4, TX4, 1), (RX5, TX5, 13), (RX6, TX6, 6), (RX7, TX7, 6), (RX8, TX8, 9), (RX9, TX9, 33)]
set_option maxRecDepth 100000 in
theorem inX0 : ∀ w ∈ u_ws RX0 TX0 2, w ∈ lw_tbl := by
  have h : ∀ w ∈ u_ws RX0 TX0 2, w ∈ tables_1 := by decide +kernel
  exact fun w hw => List.mem_append_right _ (h w hw)
set_option maxRecDepth 100000 in
theorem inX1 : ∀ w ∈ u_ws RX1 TX1 8, w ∈ lw_tbl := by
  have h : ∀ w ∈ u_ws RX1 TX1 8, w ∈ tables_1 := by decide +kernel
  exact fun w hw => List.mem_append_right _ (h w hw)
set_option maxRecDepth 100000 in
theorem inX2 : ∀ w ∈ u_ws RX2 TX2 5, w ∈ lw_tbl := by
  have h : ∀ w ∈ u_ws RX2 TX2 5, w ∈ tables_1 := by decide +kernel
  exact fun w hw => List.mem_append_right _ (h w hw)
set_option maxRecDepth 100000 in
theorem inX3 : ∀ w ∈ u_ws RX3 TX3 6, w ∈ lw_tbl := by
  have h : ∀ w ∈ u_ws RX3 TX3 6, w ∈ tables_1 := by decide +kernel
  exact fun w hw => List.mem_append_right _ (h w hw)
set_option maxRecDepth 100000 in
theorem inX4 : ∀ w ∈ u_ws RX4 TX4 1, w ∈ lw_tbl := by
  have h : ∀ w ∈ u_ws RX4 TX4 1, w ∈ tables_1 := by decide +kernel
  exact fun w hw => List.mem_append_right _ (h w hw)
set_option maxRecDepth 100000 in
theorem inX5 : ∀ w ∈ u_ws RX5 TX5 13, w ∈ lw_tbl := by
  have h : ∀ w ∈ u_ws RX5 TX5 13, w ∈ tables_1 := by decide +kernel
  exact fun w hw => List.mem_append_right _ (h w hw)
set_option maxRecDepth 100000 in
theorem inX6 : ∀ w ∈ u_ws RX6 TX6 6, w ∈ lw_tbl := by
  have h : ∀ w ∈ u_ws RX6 TX6 6, w ∈ tables_1 := by decide +kernel
  exact fun w hw => List.mem_append_right _ (h w hw)
set_option maxRecDepth 100000 in
theorem inX7 : ∀ w ∈ u_ws RX7 TX7 6, w ∈ lw_tbl := by
  have h : ∀ w ∈ u_ws RX7 TX7 6, w ∈ tables_1 := by decide +kernel
  exact fun w hw => List.mem_append_right _ (h w hw)
set_option maxRecDepth 100000 in
theorem inX8 : ∀ w ∈ u_ws RX8 TX8 9, w ∈ lw_tbl := by
  have h : ∀ w ∈ u_ws RX8 TX8 9, w ∈ tables_1 := by decide +kernel
  exact fun w hw => List.mem_append_right _ (h w hw)
set_option maxRecDepth 100000 in
theorem inX9 : ∀ w ∈ u_ws RX9 TX9 33, w ∈ lw_tbl := by
  have h : ∀ w ∈ u_ws RX9 TX9 33, w ∈ tables_1 := by decide +kernel
  exact fun w hw => List.mem_append_right _ (h w hw)
end
section
def ds_fc : Nat → List Nat
  | 0 => [3, 3]
  | 1 => [0, 0, 3, 3, 3, 3, 0, 0]
  | 2 => [3, 3, 3, 3, 3]
  | 3 => [1, 0, 0, 0, 0, 0]
  | 4 => [3]
  | 5 => [3, 3, 2, 0, 3, 3, 0, 0, 3, 0, 0, 3, 3]
  | 6 => [3, 3, 2, 3, 3, 3]
  | 7 => [3, 3, 0, 3, 3, 3]
  | 8 => [3, 3, 3, 3, 3, 3, 3, 3, 3]
  | 9 => [0, 3, 3, 3, 3, 3, 3, 0, 3, 2, 2, 3, 3, 0, 3, 3, 1, 3, 3, 1, 1, 0, 1, 1, 0, 0, 3, 3, 1, 1, 3, 3, 3]
  | _ => []
/-! the abstract machine: cells by numbers, ints and longs by cell and slot -/
abbrev ds_S : Type := (Nat → Nat → Int32) × (Nat → Nat → Int64)
abbrev ds_L : Type := List (Option Value)
/-- how many cells; each one's kind (a class below 10; 10 int[], 11 long[], 12 boolean[], 13 Ways[], 14 int[][]); an array's length; where references go -/
abbrev ds_Y : Type := Nat × (Nat → Nat) × (Nat → Nat) × (Nat → Nat → Nat)
/-- an instruction: pc, itself, its length, three numbers, a constant -/
abbrev ds_I : Type := Nat × Instr × Nat × Nat × Nat × Nat × Value
/-- a method: name, bytes, locals, what it returns, its room's frames and locals -/
abbrev ds_M : Type := MethodName × ByteArray × Nat × Option FieldType × Nat × Nat
def ds_v (ad : Nat → Nat) : Value → Value
  | .ref a => .ref (ad a)
  | v => v
def ds_fv (ad : Nat → Nat) (T : Nat → Nat → Nat) (σ : ds_S) (c k : Nat) : Nat → Value
  | 0 => .int (σ.1 c k)
  | 1 => .long (σ.2 c k)
  | 2 => .int (σ.1 c k)
  | _ => .ref (ad (T c k))
def ds_fs (ad : Nat → Nat) (T : Nat → Nat → Nat) (σ : ds_S) (c : Nat) (fc : List Nat) : List Value := (List.range fc.length).map (fun k => ds_fv ad T σ c k (fc.getD k 0))
def ds_e (cy : Nat → ClassId) (ad : Nat → Nat) (Y : ds_Y) (σ : ds_S) (c : Nat) : va_E :=
  if Y.2.1 c < 10 then .inr (Y.2.1 c, ds_fs ad Y.2.2.2 σ c (ds_fc (Y.2.1 c)))
  else if Y.2.1 c = 11 then .inl (cy 11, Y.2.2.1 c, .inr (.inl (σ.2 c)))
  else if Y.2.1 c = 13 ∨ Y.2.1 c = 14 then .inl (cy (Y.2.1 c), Y.2.2.1 c, .inr (.inr (.inr (.inr (fun j => some (ad (Y.2.2.2 c j)))))))
  else .inl (cy (Y.2.1 c), Y.2.2.1 c, .inl (σ.1 c))
def ds_w (cy : Nat → ClassId) (ad : Nat → Nat) (Y : ds_Y) (σ : ds_S) : va_W := (List.range Y.1).map (fun c => (ad c, ds_e cy ad Y σ c))
def ds_ty (cy : Nat → ClassId) : List (ClassId × FieldType) := [(cy 10, .int), (cy 11, .long), (cy 12, .boolean), (cy 13, .object "WayWeights$Ways"), (cy 14, .array .int)]
theorem ds_w_at {cy : Nat → ClassId} {ad : Nat → Nat} {Y : ds_Y} {σ : ds_S} {c : Nat} (h : c < Y.1) : (ds_w cy ad Y σ)[c]? = some (ad c, ds_e cy ad Y σ c) := by
  unfold ds_w
  rw [List.getElem?_map, List.getElem?_range h]
  rfl
theorem ds_w_set {cy : Nat → ClassId} {ad : Nat → Nat} {Y : ds_Y} {σ σ' : ds_S} {c : Nat} {x : va_E} (h : ds_e cy ad Y σ' c = x) (ho : ∀ b, b ≠ c → ds_e cy ad Y σ' b = ds_e cy ad Y σ b) : (ds_w cy ad Y σ).set c (ad c, x) = ds_w cy ad Y σ' := by
  apply List.ext_getElem?
  intro i
  unfold ds_w
  rw [List.getElem?_set]
  by_cases hi : c = i
  · subst hi
    by_cases hl : c < Y.1
    · simp [hl, h]
    · simp [hl]
  · rw [if_neg hi]
    by_cases hl : i < Y.1
    · simp [hl, ho i (fun e => hi e.symm)]
    · simp [hl]
/-- ints of one cell are other ones -/
def ds_si (σ : ds_S) (c : Nat) (r : Nat → Int32) : ds_S := (va_up σ.1 c r, σ.2)
def ds_sl (σ : ds_S) (c : Nat) (r : Nat → Int64) : ds_S := (σ.1, va_up σ.2 c r)
theorem ds_e_si {cy : Nat → ClassId} {ad : Nat → Nat} {Y : ds_Y} {σ : ds_S} {c b : Nat} {r : Nat → Int32} (h : b ≠ c) : ds_e cy ad Y (ds_si σ c r) b = ds_e cy ad Y σ b := by
  have e : va_up σ.1 c r b = σ.1 b := by simp [va_up, h]
  have hf : ∀ k code, ds_fv ad Y.2.2.2 (ds_si σ c r) b k code = ds_fv ad Y.2.2.2 σ b k code := by
    intro k code
    unfold ds_fv ds_si
    rcases code with _ | _ | _ | code <;> simp [e]
  unfold ds_e ds_fs
  simp only [hf]
  simp only [ds_si, e]
theorem ds_e_sl {cy : Nat → ClassId} {ad : Nat → Nat} {Y : ds_Y} {σ : ds_S} {c b : Nat} {r : Nat → Int64} (h : b ≠ c) : ds_e cy ad Y (ds_sl σ c r) b = ds_e cy ad Y σ b := by
  have e : va_up σ.2 c r b = σ.2 b := by simp [va_up, h]
  have hf : ∀ k code, ds_fv ad Y.2.2.2 (ds_sl σ c r) b k code = ds_fv ad Y.2.2.2 σ b k code := by
    intro k code
    unfold ds_fv ds_sl
    rcases code with _ | _ | _ | code <;> simp [e]
  unfold ds_e ds_fs
  simp only [hf]
  simp only [ds_sl, e]
theorem ds_e_obj {cy : Nat → ClassId} {ad : Nat → Nat} {Y : ds_Y} {σ : ds_S} {c ci : Nat} (h : Y.2.1 c = ci) (hi : ci < 10) : ds_e cy ad Y σ c = .inr (ci, ds_fs ad Y.2.2.2 σ c (ds_fc ci)) := by
  unfold ds_e
  rw [h, if_pos hi]
theorem ds_e_int {cy : Nat → ClassId} {ad : Nat → Nat} {Y : ds_Y} {σ : ds_S} {c : Nat} (h : Y.2.1 c = 10) : ds_e cy ad Y σ c = .inl (cy 10, Y.2.2.1 c, .inl (σ.1 c)) := by
  unfold ds_e
  rw [h]
  rfl
theorem ds_e_bool {cy : Nat → ClassId} {ad : Nat → Nat} {Y : ds_Y} {σ : ds_S} {c : Nat} (h : Y.2.1 c = 12) : ds_e cy ad Y σ c = .inl (cy 12, Y.2.2.1 c, .inl (σ.1 c)) := by
  unfold ds_e
  rw [h]
  rfl
theorem ds_e_long {cy : Nat → ClassId} {ad : Nat → Nat} {Y : ds_Y} {σ : ds_S} {c : Nat} (h : Y.2.1 c = 11) : ds_e cy ad Y σ c = .inl (cy 11, Y.2.2.1 c, .inr (.inl (σ.2 c))) := by
  unfold ds_e
  rw [h]
  rfl
theorem ds_e_ways {cy : Nat → ClassId} {ad : Nat → Nat} {Y : ds_Y} {σ : ds_S} {c : Nat} (h : Y.2.1 c = 13) : ds_e cy ad Y σ c = .inl (cy 13, Y.2.2.1 c, .inr (.inr (.inr (.inr (fun j => some (ad (Y.2.2.2 c j))))))) := by
  unfold ds_e
  rw [h]
  rfl
theorem ds_e_rows {cy : Nat → ClassId} {ad : Nat → Nat} {Y : ds_Y} {σ : ds_S} {c : Nat} (h : Y.2.1 c = 14) : ds_e cy ad Y σ c = .inl (cy 14, Y.2.2.1 c, .inr (.inr (.inr (.inr (fun j => some (ad (Y.2.2.2 c j))))))) := by
  unfold ds_e
  rw [h]
  rfl
theorem ds_fs_at {ad : Nat → Nat} {T : Nat → Nat → Nat} {σ : ds_S} {c k code : Nat} {fc : List Nat} (h : fc[k]? = some code) : (ds_fs ad T σ c fc)[k]? = some (ds_fv ad T σ c k code) := by
  have hk : k < fc.length := (List.getElem?_eq_some_iff.mp h).1
  unfold ds_fs
  rw [List.getElem?_map, List.getElem?_range hk]
  simp [List.getD, h]
theorem ds_fs_len {ad : Nat → Nat} {T : Nat → Nat → Nat} {σ : ds_S} {c : Nat} {fc : List Nat} : (ds_fs ad T σ c fc).length = fc.length := by simp [ds_fs]
theorem ds_fs_si {ad : Nat → Nat} {T : Nat → Nat → Nat} {σ : ds_S} {c k code : Nat} {fc : List Nat} {x : Int32} (h : fc[k]? = some code) (hc : code = 0 ∨ code = 2) : ds_fs ad T (ds_si σ c (upd (σ.1 c) k x)) c fc = (ds_fs ad T σ c fc).set k (.int x) := by
  have hk : k < fc.length := (List.getElem?_eq_some_iff.mp h).1
  apply List.ext_getElem?
  intro i
  rw [List.getElem?_set]
  unfold ds_fs
  by_cases hi : k = i
  · subst hi
    have e : fc.getD k 0 = code := by rw [List.getD_eq_getElem?_getD, h]; rfl
    rw [if_pos rfl, List.getElem?_map, List.getElem?_range hk]
    simp only [Option.map_some, e, List.length_map, List.length_range, if_pos hk, Option.some.injEq]
    rcases hc with rfl | rfl <;> simp [ds_fv, ds_si, va_up, upd]
  · have hne : i ≠ k := fun e => hi e.symm
    rw [if_neg hi]
    by_cases hl : i < fc.length
    · rw [List.getElem?_map, List.getElem?_map, List.getElem?_range hl]
      simp only [Option.map_some, Option.some.injEq]
      unfold ds_fv ds_si
      rcases fc.getD i 0 with _ | _ | _ | d <;> simp [va_up, upd, hne]
    · simp [hl]
theorem ds_fs_sl {ad : Nat → Nat} {T : Nat → Nat → Nat} {σ : ds_S} {c k : Nat} {fc : List Nat} {x : Int64} (h : fc[k]? = some 1) : ds_fs ad T (ds_sl σ c (vp_updL (σ.2 c) k x)) c fc = (ds_fs ad T σ c fc).set k (.long x) := by
  have hk : k < fc.length := (List.getElem?_eq_some_iff.mp h).1
  apply List.ext_getElem?
  intro i
  rw [List.getElem?_set]
  unfold ds_fs
  by_cases hi : k = i
  · subst hi
    have e : fc.getD k 0 = 1 := by rw [List.getD_eq_getElem?_getD, h]; rfl
    rw [if_pos rfl, List.getElem?_map, List.getElem?_range hk]
    simp only [Option.map_some, e, List.length_map, List.length_range, if_pos hk, Option.some.injEq]
    simp [ds_fv, ds_sl, va_up, vp_updL]
  · have hne : i ≠ k := fun e => hi e.symm
    rw [if_neg hi]
    by_cases hl : i < fc.length
    · rw [List.getElem?_map, List.getElem?_map, List.getElem?_range hl]
      simp only [Option.map_some, Option.some.injEq]
      unfold ds_fv ds_sl
      rcases fc.getD i 0 with _ | _ | _ | d <;> simp [va_up, vp_updL, hne]
    · simp [hl]
/-! locals -/
def ds_at : ds_L → Nat → Option Value
  | [], _ => none
  | x :: _, 0 => x
  | _ :: r, n + 1 => ds_at r n
/-- what is left of the slot ahead of one that is written -/
def ds_nl : Option Value → Option Value
  | some (.long _) => none
  | some (.double _) => none
  | x => x
def ds_put : ds_L → Nat → Value → ds_L
  | [], _, _ => []
  | _ :: r, 0, v => some v :: r
  | x :: r, 1, v => ds_nl x :: (match r with
    | [] => []
    | _ :: t => some v :: t)
  | x :: r, n + 2, v => x :: ds_put r (n + 1) v
def ds_un : ds_L → Nat → ds_L
  | [], _ => []
  | _ :: r, 0 => none :: r
  | x :: r, n + 1 => x :: ds_un r n
def ds_put2 (ls : ds_L) (i : Nat) (v : Value) : ds_L := ds_un (ds_put ls i v) (i + 1)
def ds_loc (ad : Nat → Nat) (lc : Array Slot) (nL : Nat) (ls : ds_L) : Prop := ls.length = nL ∧ lc.size = nL ∧ lv_wf lc ∧ ∀ i v, ds_at ls i = some v → lc[i]? = some (.val (ds_v ad v))
def ds_pr (ad : Nat → Nat) (ls : ds_L) : List (Nat × Value) := (List.range ls.length).filterMap (fun j => (ds_at ls j).map (fun v => (j, ds_v ad v)))
theorem ds_at_lt {ls : ds_L} {i : Nat} {v : Value} (h : ds_at ls i = some v) : i < ls.length := by
  induction ls generalizing i with
  | nil => simp [ds_at] at h
  | cons x r ih =>
    cases i with
    | zero => simp
    | succ n => simp only [ds_at] at h; simpa using ih h
theorem ds_pr_mem {ad : Nat → Nat} {ls : ds_L} {i : Nat} {v : Value} (h : ds_at ls i = some v) : (i, ds_v ad v) ∈ ds_pr ad ls := by
  refine List.mem_filterMap.mpr ⟨i, List.mem_range.mpr (ds_at_lt h), ?_⟩
  rw [h]
  rfl
theorem ds_pr_of {ad : Nat → Nat} {ls : ds_L} {q : Nat × Value} (h : q ∈ ds_pr ad ls) : ∃ v, ds_at ls q.1 = some v ∧ q.2 = ds_v ad v := by
  obtain ⟨j, -, hj⟩ := List.mem_filterMap.mp h
  cases hv : ds_at ls j with
  | none => rw [hv] at hj; cases hj
  | some v => rw [hv] at hj; cases hj; exact ⟨v, hv, rfl⟩
theorem ds_loc.has {ad : Nat → Nat} {lc : Array Slot} {nL : Nat} {ls : ds_L} (h : ds_loc ad lc nL ls) : lv_has lc nL (ds_pr ad ls) := by
  refine ⟨h.2.1, h.2.2.1, fun q hq => ?_⟩
  obtain ⟨v, h1, h2⟩ := ds_pr_of hq
  rw [h2]
  exact h.2.2.2 _ _ h1
theorem ds_put_len (ls : ds_L) (i : Nat) (v : Value) : (ds_put ls i v).length = ls.length := by
  induction ls generalizing i with
  | nil => cases i <;> rfl
  | cons x r ih =>
    match i with
    | 0 => rfl
    | 1 => cases r <;> rfl
    | n + 2 => simp [ds_put, ih]
theorem ds_un_len (ls : ds_L) (i : Nat) : (ds_un ls i).length = ls.length := by
  induction ls generalizing i with
  | nil => cases i <;> rfl
  | cons x r ih =>
    cases i with
    | zero => rfl
    | succ n => simp [ds_un, ih]
theorem ds_un_at {ls : ds_L} {i j : Nat} {v : Value} (h : ds_at (ds_un ls i) j = some v) : j ≠ i ∧ ds_at ls j = some v := by
  induction ls generalizing i j with
  | nil => cases i <;> simp [ds_un, ds_at] at h
  | cons x r ih =>
    cases i with
    | zero =>
      cases j with
      | zero => simp [ds_un, ds_at] at h
      | succ n => exact ⟨by omega, h⟩
    | succ m =>
      cases j with
      | zero => exact ⟨by omega, h⟩
      | succ n =>
        obtain ⟨h1, h2⟩ := ih (i := m) (j := n) h
        exact ⟨by omega, h2⟩
theorem ds_nl_some {x : Option Value} {v : Value} (h : ds_nl x = some v) : x = some v ∧ v.category = 1 := by
  cases x with
  | none => cases h
  | some w => cases w <;> first | (cases h; exact ⟨rfl, rfl⟩) | (exfalso; cases h)
theorem ds_put_at {ls : ds_L} {i j : Nat} {v w : Value} (h : ds_at (ds_put ls i v) j = some w) : (j = i ∧ w = v) ∨ (j ≠ i ∧ ds_at ls j = some w ∧ ¬ (j + 1 = i ∧ w.category = 2)) := by
  induction ls generalizing i j with
  | nil => cases i <;> cases j <;> simp [ds_put, ds_at] at h
  | cons x r ih =>
    match i with
    | 0 =>
      cases j with
      | zero => left; simp only [ds_put, ds_at, Option.some.injEq] at h; exact ⟨rfl, h.symm⟩
      | succ n => right; exact ⟨by omega, h, by omega⟩
    | 1 =>
      cases j with
      | zero =>
        right
        simp only [ds_put, ds_at] at h
        obtain ⟨h1, h2⟩ := ds_nl_some h
        exact ⟨by omega, h1, by omega⟩
      | succ n =>
        cases r with
        | nil => cases n <;> simp [ds_put, ds_at] at h
        | cons y t =>
          cases n with
          | zero => left; simp only [ds_put, ds_at, Option.some.injEq] at h; exact ⟨rfl, h.symm⟩
          | succ n => right; exact ⟨by omega, h, by omega⟩
    | m + 2 =>
      cases j with
      | zero => right; exact ⟨by omega, h, by omega⟩
      | succ n =>
        rcases ih (i := m + 1) (j := n) h with ⟨h1, h2⟩ | ⟨h1, h2, h3⟩
        · left; exact ⟨by omega, h2⟩
        · right; exact ⟨by omega, h2, fun q => h3 ⟨by omega, q.2⟩⟩
theorem ds_v_cat (ad : Nat → Nat) (v : Value) : (ds_v ad v).category = v.category := by cases v <;> rfl
theorem ds_loc.put {ad : Nat → Nat} {lc lc' : Array Slot} {nL : Nat} {ls : ds_L} {i : Nat} {v : Value} (h : ds_loc ad lc nL ls) (h' : lv_has lc' nL ((i, ds_v ad v) :: (ds_pr ad ls).filter (fun q => !(q.1 == i) && !(q.1 + 1 == i && q.2.category == 2)))) : ds_loc ad lc' nL (ds_put ls i v) := by
  refine ⟨by rw [ds_put_len]; exact h.1, h'.1, h'.2.1, fun j w hj => ?_⟩
  rcases ds_put_at hj with ⟨rfl, rfl⟩ | ⟨h1, h2, h3⟩
  · exact h'.2.2 _ List.mem_cons_self
  · refine h'.2.2 (j, ds_v ad w) (List.mem_cons_of_mem _ (List.mem_filter.mpr ⟨ds_pr_mem h2, ?_⟩))
    simp only [ds_v_cat]
    simp only [Bool.and_eq_true, Bool.not_eq_true', beq_eq_false_iff_ne, Bool.and_eq_false_iff]
    refine ⟨h1, ?_⟩
    by_cases hj1 : j + 1 = i
    · right; exact fun q => h3 ⟨hj1, q⟩
    · left; exact hj1
theorem ds_loc.put2 {ad : Nat → Nat} {lc lc' : Array Slot} {nL : Nat} {ls : ds_L} {i : Nat} {v : Value} (h : ds_loc ad lc nL ls) (h' : lv_has lc' nL ((i, ds_v ad v) :: (ds_pr ad ls).filter (fun q => !(q.1 == i) && (!(q.1 == i + 1) && !(q.1 + 1 == i && q.2.category == 2))))) : ds_loc ad lc' nL (ds_put2 ls i v) := by
  refine ⟨by rw [ds_put2, ds_un_len, ds_put_len]; exact h.1, h'.1, h'.2.1, fun j w hj => ?_⟩
  obtain ⟨h0, hj⟩ := ds_un_at hj
  rcases ds_put_at hj with ⟨rfl, rfl⟩ | ⟨h1, h2, h3⟩
  · exact h'.2.2 _ List.mem_cons_self
  · refine h'.2.2 (j, ds_v ad w) (List.mem_cons_of_mem _ (List.mem_filter.mpr ⟨ds_pr_mem h2, ?_⟩))
    simp only [ds_v_cat]
    simp only [Bool.and_eq_true, Bool.not_eq_true', beq_eq_false_iff_ne, Bool.and_eq_false_iff]
    refine ⟨h1, h0, ?_⟩
    by_cases hj1 : j + 1 = i
    · right; exact fun q => h3 ⟨hj1, q⟩
    · left; exact hj1
/-- the locals with which a method begins -/
def ds_en : List Value → ds_L
  | [] => []
  | v :: vs => if v.category = 2 then some v :: none :: ds_en vs else some v :: ds_en vs
def ds_pad (ls : ds_L) : Nat → ds_L
  | 0 => ls
  | n + 1 => ds_pad (ls ++ [none]) n
end
section
def ds_entry (n : Nat) (as : List Value) : ds_L := ds_en as ++ List.replicate (n - (ds_en as).length) none
theorem ds_at_app {a b : ds_L} {i : Nat} {v : Value} (h : ds_at (a ++ b) i = some v) (hb : ∀ j w, ds_at b j ≠ some w) : ds_at a i = some v := by
  induction a generalizing i with
  | nil => exact absurd h (hb i v)
  | cons x r ih =>
    cases i with
    | zero => exact h
    | succ n => exact ih h
theorem ds_at_none (n j : Nat) (w : Value) : ds_at (List.replicate n none) j ≠ some w := by
  induction n generalizing j with
  | zero => simp [ds_at]
  | succ n ih =>
    cases j with
    | zero => simp [ds_at, List.replicate]
    | succ j => exact ih j
theorem ds_en_at {ad : Nat → Nat} {as : List Value} {i k : Nat} {v : Value} (h : ds_at (ds_en as) i = some v) : (k + i, ds_v ad v) ∈ lv_args k (as.map (ds_v ad)) := by
  induction as generalizing i k with
  | nil => simp [ds_en, ds_at] at h
  | cons a r ih =>
    have hc := ds_v_cat ad a
    by_cases ha : a.category = 2
    · simp only [ds_en, if_pos ha] at h
      simp only [List.map_cons, lv_args, hc, if_pos ha]
      match i with
      | 0 => simp only [ds_at, Option.some.injEq] at h; subst h; exact List.mem_cons_self
      | 1 => simp [ds_at] at h
      | i + 2 =>
        have := ih (i := i) (k := k + 2) h
        rw [show k + (i + 2) = k + 2 + i by omega]
        exact List.mem_cons_of_mem _ this
    · simp only [ds_en, if_neg ha] at h
      simp only [List.map_cons, lv_args, hc, if_neg ha]
      match i with
      | 0 => simp only [ds_at, Option.some.injEq] at h; subst h; exact List.mem_cons_self
      | i + 1 =>
        have := ih (i := i) (k := k + 1) h
        rw [show k + (i + 1) = k + 1 + i by omega]
        exact List.mem_cons_of_mem _ this
theorem ds_en_len (ad : Nat → Nat) (as : List Value) : (ds_en as).length = (lg_sl (as.map (ds_v ad))).length := by
  induction as with
  | nil => rfl
  | cons a r ih =>
    have hc := ds_v_cat ad a
    by_cases ha : a.category = 2
    · simp only [ds_en, if_pos ha, List.map_cons, lg_sl, List.flatMap_cons, hc, List.length_append, List.length_cons] at ih ⊢
      simp [ih]; omega
    · simp only [ds_en, if_neg ha, List.map_cons, lg_sl, List.flatMap_cons, hc, List.length_append, List.length_cons] at ih ⊢
      simp [ih]; omega
theorem ds_loc_entry (ad : Nat → Nat) (as : List Value) {n : Nat} (h : (ds_en as).length ≤ n) : ds_loc ad ((lg_sl (as.map (ds_v ad)) ++ List.replicate (n - (lg_sl (as.map (ds_v ad))).length) Slot.unset).toArray) n (ds_entry n as) := by
  have h2 : (lg_sl (as.map (ds_v ad))).length ≤ n := by rw [← ds_en_len ad as]; exact h
  obtain ⟨e1, e2, e3⟩ := lv_entry (as.map (ds_v ad)) h2
  refine ⟨by simp [ds_entry]; omega, e1, e2, fun i v hi => ?_⟩
  have h3 := ds_en_at (ad := ad) (k := 0) (ds_at_app hi (ds_at_none _))
  rw [Nat.zero_add] at h3
  exact e3 _ h3
/-! the words -/
def ds_T : List Cond := lw_tbl.filter goodWord
def ds_N : List (String × Nat × MethodName) := [("WayWeights$Routes", 39, ⟨"WayWeights", "bit", "(II)I"⟩), ("WayWeights$Flow", 46, ⟨"WayWeights", "pair", "(II)I"⟩), ("WayWeights$Peak", 41, ⟨"WayWeights", "slot", "(II)I"⟩), ("WayWeights$Survey", 61, ⟨"WayWeights", "bit", "(II)I"⟩), ("WayWeights$Seeker", 107, ⟨"WayWeights", "bit", "(II)I"⟩)]
def ds_nest (U : State) : Prop := ∀ q ∈ ds_N, va_Nw (.methodLinkNest q.1 q.2.1 q.2.2 "WayWeights") U
theorem ds_nest.warm {s U : State} (hW : s.WarmedH U.vm) (h : ds_nest s) : ds_nest U := fun q hq => va_Nw.warmM hW (h q hq)
theorem ds_nest.same {s U : State} (hW : s.vm = U.vm) (h : ds_nest s) : ds_nest U := fun q hq => va_Nw.same rfl hW (h q hq)
theorem ds_T_of {i : Nat} {w : Cond} (h : lw_tbl[i]? = some w) (hg : goodWord w = true) : w ∈ ds_T := List.mem_filter.mpr ⟨List.mem_of_getElem? h, hg⟩
theorem ds_T_good {y : MethodName} {b : ByteArray} {n : Nat} {r : Option FieldType} (h : Cond.code y b n r ∈ ds_T) : GoodIn ds_T (.code y b n r :: ds_T) := by
  intro w hw
  have hw2 : w ∈ ds_T := by
    rcases List.mem_cons.mp hw with rfl | h2
    · exact h
    · exact h2
  exact ⟨hw2, good_of_word (List.mem_filter.mp hw2).2⟩
def ds_ws (y : ds_M) : List Cond := .code y.1 y.2.1 y.2.2.1 y.2.2.2.1 :: ds_T
def ds_rm (y : ds_M) : Room := { frames := y.2.2.2.2.1, cells := 0, slots := 0, locals := y.2.2.2.2.2 }
/-- what holds all through a method's run -/
def ds_C (y : ds_M) (p : Program) (s : State) (m : MethodId) (args : Array Value) (meth : Method) (c : Code) (cy : Nat → ClassId) (dC : Nat → ClassId) (dI : Nat → Nat → Nat) (A : Nat → Prop) : Prop :=
  p.tables.exec = Jvm.exec ∧ c.code = y.2.1 ∧ c.maxLocals = y.2.2.1 ∧ meth.sig.returnType = y.2.2.2.1 ∧ meth.locks = false ∧ (∀ w ∈ ds_T, w.before args s = true) ∧ s.vm.findClass y.1.cls = some m.cls ∧ va_K (dC, dI) vwCl (ds_ty cy) s ∧ ds_nest s ∧ ∀ q, s.heap.size ≤ q → A q
def ds_B (cy : Nat → ClassId) (dC : Nat → ClassId) (dI : Nat → Nat → Nat) (ad : Nat → Nat) (A : Nat → Prop) (Y : ds_Y) (σ : ds_S) (t : State) : Prop :=
  va_P (dC, dI) vwCl (ds_w cy ad Y σ) t.heap ∧ va_K (dC, dI) vwCl (ds_ty cy) t ∧ va_D A (ds_w cy ad Y σ)
def ds_Q (ret : Option FieldType) (Q : Option Value → ds_S → Prop) (cy : Nat → ClassId) (dC : Nat → ClassId) (dI : Nat → Nat → Nat) (ad : Nat → Nat) (A : Nat → Prop) (Y : ds_Y) : Array Value → State → Outcome → State → Prop := match ret with
  | none => va_Qv (fun σ => Q none σ) (ds_B cy dC dI ad A Y) A
  | some .long => va_Ql (fun r σ => Q (some (.long r)) σ) (ds_B cy dC dI ad A Y) A
  | some (.object _) => va_Qr (fun u : ds_S × Nat => Q (some (.ref u.2)) u.1) (fun u a t => a = ad u.2 ∧ ds_B cy dC dI ad A Y u.1 t) A
  | some _ => va_Qi (fun r σ => Q (some (.int r)) σ) (ds_B cy dC dI ad A Y) A
/-- from here on the method comes to its end, with Q -/
def ds_X (y : ds_M) (Y : ds_Y) (pc : Nat) (ls : ds_L) (st : List Value) (σ : ds_S) (Q : Option Value → ds_S → Prop) : Prop :=
  ∀ (p : Program) (l : Launch) (e : Env) (s : State) (m : MethodId) (args : Array Value) (below : List Frame) (meth : Method) (c : Code) (cy : Nat → ClassId) (dC : Nat → ClassId) (dI : Nat → Nat → Nat) (ad : Nat → Nat) (A : Nat → Prop),
    ds_C y p s m args meth c cy dC dI A → ∀ (H : Heap) (locs : List Loc), va_P (dC, dI) vwCl (ds_w cy ad Y σ) H → va_D A (ds_w cy ad Y σ) → va_S A s.heap H locs → ∀ lc : Array Slot, ds_loc ad lc y.2.2.1 ls →
    W p l e (ds_rm y) s m args below meth c H locs 0 0 (MQ below (ds_Q y.2.2.2.1 Q cy dC dI ad A Y) args s 0 0 A) (F0 m pc lc (st.map (ds_v ad)))
def ds_Pc (as : List Value) (cy : Nat → ClassId) (dC : Nat → ClassId) (dI : Nat → Nat → Nat) (ad : Nat → Nat) (Y : ds_Y) (σ : ds_S) (sz : Nat) : Array Value → State → Prop :=
  va_Pc (as.map (ds_v ad)) (fun U => U.heap.size = sz ∧ va_P (dC, dI) vwCl (ds_w cy ad Y σ) U.heap ∧ va_K (dC, dI) vwCl (ds_ty cy) U ∧ ds_nest U ∧ va_D (fun _ => True) (ds_w cy ad Y σ))
/-- a method's contract: called so, it comes back with Q -/
def ds_E (y : ds_M) (Y : ds_Y) (as : List Value) (σ : ds_S) (Q : Option Value → ds_S → Prop) : Prop :=
  ∀ (l : Launch) (cy : Nat → ClassId) (dC : Nat → ClassId) (dI : Nat → Nat → Nat) (ad : Nat → Nat) (sz : Nat),
    Met l y.1 (ds_ws y) (ds_rm y) (ds_Pc as cy dC dI ad Y σ sz) (ds_Q y.2.2.2.1 Q cy dC dI ad (va_A (ds_w cy ad Y σ) sz) Y) 0 0 (va_A (ds_w cy ad Y σ) sz)
theorem ds_Q_mono {ret : Option FieldType} {Q Q' : Option Value → ds_S → Prop} {cy : Nat → ClassId} {dC : Nat → ClassId} {dI : Nat → Nat → Nat} {ad : Nat → Nat} {A : Nat → Prop} {Y : ds_Y} (h : ∀ r σ, Q r σ → Q' r σ) {a : Array Value} {s : State} {o : Outcome} {t : State} (hq : ds_Q ret Q cy dC dI ad A Y a s o t) : ds_Q ret Q' cy dC dI ad A Y a s o t := by
  unfold ds_Q at hq ⊢
  split at hq
  · obtain ⟨⟨u, h1, h2, h3⟩, h4⟩ := hq; exact ⟨⟨u, h1, h _ _ h2, h3⟩, h4⟩
  · obtain ⟨⟨r, u, h1, h2, h3⟩, h4⟩ := hq; exact ⟨⟨r, u, h1, h _ _ h2, h3⟩, h4⟩
  · obtain ⟨⟨r, u, h1, h2, h3⟩, h4⟩ := hq; exact ⟨⟨r, u, h1, h _ _ h2, h3⟩, h4⟩
  · obtain ⟨⟨r, u, h1, h2, h3⟩, h4⟩ := hq; exact ⟨⟨r, u, h1, h _ _ h2, h3⟩, h4⟩
theorem ds_E.mono {y : ds_M} {Y : ds_Y} {as : List Value} {σ : ds_S} {Q Q' : Option Value → ds_S → Prop} (hE : ds_E y Y as σ Q) (h : ∀ r σ, Q r σ → Q' r σ) : ds_E y Y as σ Q' := by
  intro l cy dC dI ad sz p e h1 h2 h3 s m args below h4 h5 h6 h7
  obtain ⟨n, o, g1, g2, g3, g4, g5⟩ := hE l cy dC dI ad sz p e h1 h2 h3 s m args below h4 h5 h6 h7
  exact ⟨n, o, g1, g2, g3, ds_Q_mono h g4, g5⟩
theorem ds_ofWF {l : Launch} {y : MethodName} {ws ws' : List Cond} {rm : Room} {Pc : Array Value → State → Prop} {Qc : Array Value → State → Outcome → State → Prop} {mc ms : Nat} {free : Addr → Prop} {cc : ByteArray} {maxL : Nat} {ret : Option FieldType}
    (hy : plainFor y = true) (hw : ws = Cond.code y cc maxL ret :: ws')
    (body : ∀ p e s m args below meth c s₁, BodyLoose p l y (headSpec ws rm) cc maxL ret e s m args below meth c s₁ → c.maxLocals = maxL → Pc args s →
      W p l e (headSpec ws rm).room s m args below meth c s.heap [] 0 0 (MQ below Qc args s mc ms free) (entryFrame m args maxL)) : Met l y ws rm Pc Qc mc ms free := by
  refine MetFree.of_bodySF (code := cc) (maxLocals := maxL) (ret := ret) hy ?_ ?_
  · intro args s m h hn
    obtain ⟨meth, c, h1, h2, h3, h4, h5, h6, -, -⟩ := Cond.code_spec hn (atoms_spec (ws := ws) h _ (by rw [hw]; exact List.mem_cons_self))
    exact ⟨meth, c, h1, h2, h3, h4, h5, h6⟩
  · intro p e s m args below meth c s₁ B hml hP _
    have hh0 : s₁.heap = s.heap := by rw [B.state]; rfl
    obtain ⟨t, a1, o, b1, b2, b3⟩ := body p e s m args below meth c s₁ B hml hP s₁ hh0 (Stand.of_body B)
    exact ⟨t, o, a1, b1, b2, ⟨b3.1, b3.2⟩⟩
/-- a contract out of the run of its body -/
theorem ds_enterF {y : ds_M} {Y : ds_Y} {as : List Value} {σ : ds_S} {Q : Option Value → ds_S → Prop} (hy : plainFor y.1 = true) (hn : (ds_en as).length ≤ y.2.2.1) (h : ds_X y Y 0 (ds_entry y.2.2.1 as) [] σ Q) : ds_E y Y as σ Q := by
  intro l cy dC dI ad sz
  refine ds_ofWF (cc := y.2.1) (maxL := y.2.2.1) (ret := y.2.2.2.1) (ws' := ds_T) hy rfl ?_
  intro p e s m args below meth c s₁ B hml hv
  obtain ⟨rfl, hsz, hP, hK, hN, hD0⟩ := hv
  have hts := atoms_spec (ws := ds_ws y) B.pre
  have hown : s.vm.findClass y.1.cls = some m.cls := findClass_of_methodNamed B.named
  subst hsz
  have hD := hD0.self (sz := s.heap.size)
  have hA : ∀ q : Nat, s.heap.size ≤ q → va_A (ds_w cy ad Y σ) s.heap.size q := fun q h => Or.inr h
  rw [lg_entry_eq]
  exact h p l e s m _ below meth c cy dC dI ad _ ⟨B.exec, B.bytes, hml, B.returns, B.notSynchronized, fun w hw => hts w (List.mem_cons_of_mem _ hw), hown, hK, hN, hA⟩ s.heap [] hP hD va_S.rf _ (ds_loc_entry ad as hn)
theorem ds_enter {y : ds_M} {Y : ds_Y} {as : List Value} {σ : ds_S} {Q : Option Value → ds_S → Prop} (hy : plainName y.1.cls = true) (hn : (ds_en as).length ≤ y.2.2.1) (h : ds_X y Y 0 (ds_entry y.2.2.1 as) [] σ Q) : ds_E y Y as σ Q :=
  ds_enterF (by unfold plainFor; rw [hy]; rfl) hn h
end
section
section DSX
variable {y : ds_M} {Y : ds_Y} {pc : Nat} {ls : ds_L} {st : List Value} {σ : ds_S} {Q : Option Value → ds_S → Prop}
/-- an instruction that leaves heap and locals -/
theorem ds_x1 {pc' : Nat} {st' : List Value} (hk : ds_X y Y pc' ls st' σ Q)
    (h : ∀ (p : Program) (l : Launch) (e : Env) (s : State) (m : MethodId) (args : Array Value) (below : List Frame) (meth : Method) (c : Code) (ad : Nat → Nat) (H : Heap) (locs : List Loc) (lc : Array Slot) (R : State → Prop), p.tables.exec = Jvm.exec → c.code = y.2.1 → ds_loc ad lc y.2.2.1 ls → s.vm.findClass y.1.cls = some m.cls → (∀ w ∈ ds_T, w.before args s = true) → W p l e (ds_rm y) s m args below meth c H locs 0 0 R (F0 m pc' lc (st'.map (ds_v ad))) → W p l e (ds_rm y) s m args below meth c H locs 0 0 R (F0 m pc lc (st.map (ds_v ad)))) : ds_X y Y pc ls st σ Q := by
  intro p l e s m args below meth c cy dC dI ad A C H locs hP hD hS lc hl
  exact h p l e s m args below meth c ad H locs lc _ C.1 C.2.1 hl C.2.2.2.2.2.2.1 C.2.2.2.2.2.1 (hk p l e s m args below meth c cy dC dI ad A C H locs hP hD hS lc hl)
theorem ds_iconst {n : Int} {v : Int32} (hd : decode y.2.1 pc = .ok (.iconst n, 1)) (hv : Int32.ofInt n = v) (k : ds_X y Y (pc + 1) ls (.int v :: st) σ Q) : ds_X y Y pc ls st σ Q :=
  ds_x1 k fun _ _ _ _ _ _ _ _ _ _ _ _ _ _ hx hb _ _ _ kk => lv_iconst hx hb hd hv kk
theorem ds_bipush {n : Int} {v : Int32} (hd : decode y.2.1 pc = .ok (.bipush n, 2)) (hv : (Int8.ofInt n).toInt32 = v) (k : ds_X y Y (pc + 2) ls (.int v :: st) σ Q) : ds_X y Y pc ls st σ Q :=
  ds_x1 k fun _ _ _ _ _ _ _ _ _ _ _ _ _ _ hx hb _ _ _ kk => lv_bipush hx hb hd hv kk
theorem ds_sipush {n : Int} {v : Int32} (hd : decode y.2.1 pc = .ok (.sipush n, 3)) (hv : (Int16.ofInt n).toInt32 = v) (k : ds_X y Y (pc + 3) ls (.int v :: st) σ Q) : ds_X y Y pc ls st σ Q :=
  ds_x1 k fun _ _ _ _ _ _ _ _ _ _ _ _ _ _ hx hb _ _ _ kk => lv_sipush hx hb hd hv kk
theorem ds_lconst {n : Fin 2} {v : Int64} (hd : decode y.2.1 pc = .ok (.lconst n, 1)) (hv : Int64.ofNat (n : Nat) = v) (k : ds_X y Y (pc + 1) ls (.long v :: st) σ Q) : ds_X y Y pc ls st σ Q :=
  ds_x1 k fun _ _ _ _ _ _ _ _ _ _ _ _ _ _ hx hb _ _ _ kk => lv_lconst hx hb hd hv kk
theorem ds_ldc {n : Nat} {v : Int32} (hd : decode y.2.1 pc = .ok (.ldc n, 2)) (hv : Cond.constant y.1.cls n v ∈ ds_T) (k : ds_X y Y (pc + 2) ls (.int v :: st) σ Q) : ds_X y Y pc ls st σ Q :=
  ds_x1 k fun _ _ _ _ _ _ _ _ _ _ _ _ _ _ hx hb _ ho ht kk => lv_ldc hx hb ho (ht _ hv) hd kk
theorem ds_ldc2 {n : Nat} {v : Int64} (hd : decode y.2.1 pc = .ok (.ldc2_w n, 3)) (hv : Cond.constantLong y.1.cls n v ∈ ds_T) (k : ds_X y Y (pc + 3) ls (.long v :: st) σ Q) : ds_X y Y pc ls st σ Q :=
  ds_x1 k fun _ _ _ _ _ _ _ _ _ _ _ _ _ _ hx hb _ ho ht kk => lv_ldc2 hx hb ho (ht _ hv) hd kk
theorem ds_iload {n : Nat} {x : Int32} (hd : decode y.2.1 pc = .ok (.iload n, 2)) (hv : ds_at ls n = some (.int x)) (k : ds_X y Y (pc + 2) ls (.int x :: st) σ Q) : ds_X y Y pc ls st σ Q :=
  ds_x1 k fun _ _ _ _ _ _ _ _ _ _ _ _ _ _ hx hb hl _ _ kk => lv_iload hx hb hd (hl.2.2.2 _ _ hv) kk
theorem ds_iload_n {n : Fin 4} {x : Int32} (hd : decode y.2.1 pc = .ok (.iload_n n, 1)) (hv : ds_at ls n = some (.int x)) (k : ds_X y Y (pc + 1) ls (.int x :: st) σ Q) : ds_X y Y pc ls st σ Q :=
  ds_x1 k fun _ _ _ _ _ _ _ _ _ _ _ _ _ _ hx hb hl _ _ kk => lv_iload_n hx hb hd rfl (hl.2.2.2 _ _ hv) kk
theorem ds_lload {n : Nat} {x : Int64} (hd : decode y.2.1 pc = .ok (.lload n, 2)) (hv : ds_at ls n = some (.long x)) (k : ds_X y Y (pc + 2) ls (.long x :: st) σ Q) : ds_X y Y pc ls st σ Q :=
  ds_x1 k fun _ _ _ _ _ _ _ _ _ _ _ _ _ _ hx hb hl _ _ kk => lv_lload hx hb hd (hl.2.2.2 _ _ hv) kk
theorem ds_lload_n {n : Fin 4} {x : Int64} (hd : decode y.2.1 pc = .ok (.lload_n n, 1)) (hv : ds_at ls n = some (.long x)) (k : ds_X y Y (pc + 1) ls (.long x :: st) σ Q) : ds_X y Y pc ls st σ Q :=
  ds_x1 k fun _ _ _ _ _ _ _ _ _ _ _ _ _ _ hx hb hl _ _ kk => lv_lload_n hx hb hd rfl (hl.2.2.2 _ _ hv) kk
theorem ds_aload {n : Nat} {x : Nat} (hd : decode y.2.1 pc = .ok (.aload n, 2)) (hv : ds_at ls n = some (.ref x)) (k : ds_X y Y (pc + 2) ls (.ref x :: st) σ Q) : ds_X y Y pc ls st σ Q :=
  ds_x1 k fun _ _ _ _ _ _ _ _ _ _ _ _ _ _ hx hb hl _ _ kk => lv_aload hx hb hd (hl.2.2.2 _ _ hv) kk
theorem ds_aload_n {n : Fin 4} {x : Nat} (hd : decode y.2.1 pc = .ok (.aload_n n, 1)) (hv : ds_at ls n = some (.ref x)) (k : ds_X y Y (pc + 1) ls (.ref x :: st) σ Q) : ds_X y Y pc ls st σ Q :=
  ds_x1 k fun _ _ _ _ _ _ _ _ _ _ _ _ _ _ hx hb hl _ _ kk => lv_aload_n hx hb hd rfl (hl.2.2.2 _ _ hv) kk
theorem ds_iadd {x z : Int32} (hd : decode y.2.1 pc = .ok (.iadd, 1)) (k : ds_X y Y (pc + 1) ls (.int (x + z) :: st) σ Q) : ds_X y Y pc ls (.int z :: .int x :: st) σ Q :=
  ds_x1 k fun _ _ _ _ _ _ _ _ _ _ _ _ _ _ hx hb _ _ _ kk => lv_iadd hx hb hd kk
theorem ds_isub {x z : Int32} (hd : decode y.2.1 pc = .ok (.isub, 1)) (k : ds_X y Y (pc + 1) ls (.int (x - z) :: st) σ Q) : ds_X y Y pc ls (.int z :: .int x :: st) σ Q :=
  ds_x1 k fun _ _ _ _ _ _ _ _ _ _ _ _ _ _ hx hb _ _ _ kk => lv_isub hx hb hd kk
theorem ds_imul {x z : Int32} (hd : decode y.2.1 pc = .ok (.imul, 1)) (k : ds_X y Y (pc + 1) ls (.int (x * z) :: st) σ Q) : ds_X y Y pc ls (.int z :: .int x :: st) σ Q :=
  ds_x1 k fun _ _ _ _ _ _ _ _ _ _ _ _ _ _ hx hb _ _ _ kk => lv_imul hx hb hd kk
theorem ds_iand {x z : Int32} (hd : decode y.2.1 pc = .ok (.iand, 1)) (k : ds_X y Y (pc + 1) ls (.int (x &&& z) :: st) σ Q) : ds_X y Y pc ls (.int z :: .int x :: st) σ Q :=
  ds_x1 k fun _ _ _ _ _ _ _ _ _ _ _ _ _ _ hx hb _ _ _ kk => lv_iand hx hb hd kk
theorem ds_ior {x z : Int32} (hd : decode y.2.1 pc = .ok (.ior, 1)) (k : ds_X y Y (pc + 1) ls (.int (x ||| z) :: st) σ Q) : ds_X y Y pc ls (.int z :: .int x :: st) σ Q :=
  ds_x1 k fun _ _ _ _ _ _ _ _ _ _ _ _ _ _ hx hb _ _ _ kk => lv_ior hx hb hd kk
theorem ds_ixor {x z : Int32} (hd : decode y.2.1 pc = .ok (.ixor, 1)) (k : ds_X y Y (pc + 1) ls (.int (x ^^^ z) :: st) σ Q) : ds_X y Y pc ls (.int z :: .int x :: st) σ Q :=
  ds_x1 k fun _ _ _ _ _ _ _ _ _ _ _ _ _ _ hx hb _ _ _ kk => lv_ixor hx hb hd kk
theorem ds_ishl {x z : Int32} (hd : decode y.2.1 pc = .ok (.ishl, 1)) (k : ds_X y Y (pc + 1) ls (.int (x <<< (z &&& 31)) :: st) σ Q) : ds_X y Y pc ls (.int z :: .int x :: st) σ Q :=
  ds_x1 k fun _ _ _ _ _ _ _ _ _ _ _ _ _ _ hx hb _ _ _ kk => lv_ishl hx hb hd kk
theorem ds_ishr {x z : Int32} (hd : decode y.2.1 pc = .ok (.ishr, 1)) (k : ds_X y Y (pc + 1) ls (.int (x >>> (z &&& 31)) :: st) σ Q) : ds_X y Y pc ls (.int z :: .int x :: st) σ Q :=
  ds_x1 k fun _ _ _ _ _ _ _ _ _ _ _ _ _ _ hx hb _ _ _ kk => lv_ishr hx hb hd kk
theorem ds_ladd {x z : Int64} (hd : decode y.2.1 pc = .ok (.ladd, 1)) (k : ds_X y Y (pc + 1) ls (.long (x + z) :: st) σ Q) : ds_X y Y pc ls (.long z :: .long x :: st) σ Q :=
  ds_x1 k fun _ _ _ _ _ _ _ _ _ _ _ _ _ _ hx hb _ _ _ kk => lv_ladd hx hb hd kk
theorem ds_lsub {x z : Int64} (hd : decode y.2.1 pc = .ok (.lsub, 1)) (k : ds_X y Y (pc + 1) ls (.long (x - z) :: st) σ Q) : ds_X y Y pc ls (.long z :: .long x :: st) σ Q :=
  ds_x1 k fun _ _ _ _ _ _ _ _ _ _ _ _ _ _ hx hb _ _ _ kk => lv_lsub hx hb hd kk
theorem ds_lmul {x z : Int64} (hd : decode y.2.1 pc = .ok (.lmul, 1)) (k : ds_X y Y (pc + 1) ls (.long (x * z) :: st) σ Q) : ds_X y Y pc ls (.long z :: .long x :: st) σ Q :=
  ds_x1 k fun _ _ _ _ _ _ _ _ _ _ _ _ _ _ hx hb _ _ _ kk => lv_lmul hx hb hd kk
theorem ds_idiv {x z : Int32} (hd : decode y.2.1 pc = .ok (.idiv, 1)) (hz : ¬ z = 0) (k : ds_X y Y (pc + 1) ls (.int (x / z) :: st) σ Q) : ds_X y Y pc ls (.int z :: .int x :: st) σ Q :=
  ds_x1 k fun _ _ _ _ _ _ _ _ _ _ _ _ _ _ hx hb _ _ _ kk => lv_idiv hx hb hd hz kk
theorem ds_irem {x z : Int32} (hd : decode y.2.1 pc = .ok (.irem, 1)) (hz : ¬ z = 0) (k : ds_X y Y (pc + 1) ls (.int (x - x / z * z) :: st) σ Q) : ds_X y Y pc ls (.int z :: .int x :: st) σ Q :=
  ds_x1 k fun _ _ _ _ _ _ _ _ _ _ _ _ _ _ hx hb _ _ _ kk => lv_irem hx hb hd hz kk
theorem ds_ldiv {x z : Int64} (hd : decode y.2.1 pc = .ok (.ldiv, 1)) (hz : ¬ z = 0) (k : ds_X y Y (pc + 1) ls (.long (x / z) :: st) σ Q) : ds_X y Y pc ls (.long z :: .long x :: st) σ Q :=
  ds_x1 k fun _ _ _ _ _ _ _ _ _ _ _ _ _ _ hx hb _ _ _ kk => lv_ldiv hx hb hd hz kk
theorem ds_lrem {x z : Int64} (hd : decode y.2.1 pc = .ok (.lrem, 1)) (hz : ¬ z = 0) (k : ds_X y Y (pc + 1) ls (.long (x - x / z * z) :: st) σ Q) : ds_X y Y pc ls (.long z :: .long x :: st) σ Q :=
  ds_x1 k fun _ _ _ _ _ _ _ _ _ _ _ _ _ _ hx hb _ _ _ kk => lv_lrem hx hb hd hz kk
theorem ds_lcmp {x z : Int64} (hd : decode y.2.1 pc = .ok (.lcmp, 1)) (k : ds_X y Y (pc + 1) ls (.int (lg_cmp x z) :: st) σ Q) : ds_X y Y pc ls (.long z :: .long x :: st) σ Q :=
  ds_x1 k fun _ _ _ _ _ _ _ _ _ _ _ _ _ _ hx hb _ _ _ kk => W.lcmp hx hb hd kk
theorem ds_ineg {x : Int32} (hd : decode y.2.1 pc = .ok (.ineg, 1)) (k : ds_X y Y (pc + 1) ls (.int (-x) :: st) σ Q) : ds_X y Y pc ls (.int x :: st) σ Q :=
  ds_x1 k fun _ _ _ _ _ _ _ _ _ _ _ _ _ _ hx hb _ _ _ kk => lv_ineg hx hb hd kk
theorem ds_lneg {x : Int64} (hd : decode y.2.1 pc = .ok (.lneg, 1)) (k : ds_X y Y (pc + 1) ls (.long (-x) :: st) σ Q) : ds_X y Y pc ls (.long x :: st) σ Q :=
  ds_x1 k fun _ _ _ _ _ _ _ _ _ _ _ _ _ _ hx hb _ _ _ kk => lv_lneg hx hb hd kk
theorem ds_i2l {x : Int32} (hd : decode y.2.1 pc = .ok (.i2l, 1)) (k : ds_X y Y (pc + 1) ls (.long x.toInt64 :: st) σ Q) : ds_X y Y pc ls (.int x :: st) σ Q :=
  ds_x1 k fun _ _ _ _ _ _ _ _ _ _ _ _ _ _ hx hb _ _ _ kk => lv_i2l hx hb hd rfl kk
theorem ds_l2i {x : Int64} (hd : decode y.2.1 pc = .ok (.l2i, 1)) (k : ds_X y Y (pc + 1) ls (.int x.toInt32 :: st) σ Q) : ds_X y Y pc ls (.long x :: st) σ Q :=
  ds_x1 k fun _ _ _ _ _ _ _ _ _ _ _ _ _ _ hx hb _ _ _ kk => lv_l2i hx hb hd rfl kk
theorem ds_dup {v : Value} (hd : decode y.2.1 pc = .ok (.dup, 1)) (hv : v.category = 1) (k : ds_X y Y (pc + 1) ls (v :: v :: st) σ Q) : ds_X y Y pc ls (v :: st) σ Q :=
  ds_x1 k fun _ _ _ _ _ _ _ _ _ ad _ _ _ _ hx hb _ _ _ kk => lv_dup hx hb hd ((ds_v_cat ad v).trans hv) kk
theorem ds_dup2 {v w : Value} (hd : decode y.2.1 pc = .ok (.dup2, 1)) (hv : v.category = 1) (hw : w.category = 1) (k : ds_X y Y (pc + 1) ls (v :: w :: v :: w :: st) σ Q) : ds_X y Y pc ls (v :: w :: st) σ Q :=
  ds_x1 k fun _ _ _ _ _ _ _ _ _ ad _ _ _ _ hx hb _ _ _ kk => lv_dup2_11 hx hb hd ((ds_v_cat ad v).trans hv) ((ds_v_cat ad w).trans hw) kk
theorem ds_goto {off : Int} {t : Nat} (hd : decode y.2.1 pc = .ok (.goto off, 3)) (ht : (pc : Int) + off = (t : Int)) (k : ds_X y Y t ls st σ Q) : ds_X y Y pc ls st σ Q :=
  ds_x1 k fun _ _ _ _ _ _ _ _ _ _ _ _ _ _ hx hb _ _ _ kk => lv_goto hx hb hd ht kk
/-! branches -/
theorem ds_if_eq {x : Int32} {off : Int} {t : Nat} (hd : decode y.2.1 pc = .ok (.ifCond .eq off, 3)) (ht : (pc : Int) + off = (t : Int)) (kt : x = 0 → ds_X y Y t ls st σ Q) (kf : ¬ x = 0 → ds_X y Y (pc + 3) ls st σ Q) : ds_X y Y pc ls (.int x :: st) σ Q := by
  intro p l e s m args below meth c cy dC dI ad A C H locs hP hD hS lc hl
  exact lv_if_eq C.1 C.2.1 hd ht (fun h => kt h p l e s m args below meth c cy dC dI ad A C H locs hP hD hS lc hl) (fun h => kf h p l e s m args below meth c cy dC dI ad A C H locs hP hD hS lc hl)
theorem ds_ic_eq {x z : Int32} {off : Int} {t : Nat} (hd : decode y.2.1 pc = .ok (.if_icmp .eq off, 3)) (ht : (pc : Int) + off = (t : Int)) (kt : x = z → ds_X y Y t ls st σ Q) (kf : ¬ x = z → ds_X y Y (pc + 3) ls st σ Q) : ds_X y Y pc ls (.int z :: .int x :: st) σ Q := by
  intro p l e s m args below meth c cy dC dI ad A C H locs hP hD hS lc hl
  exact lv_icmp_eq C.1 C.2.1 hd ht (fun h => kt h p l e s m args below meth c cy dC dI ad A C H locs hP hD hS lc hl) (fun h => kf h p l e s m args below meth c cy dC dI ad A C H locs hP hD hS lc hl)
theorem ds_if_ne {x : Int32} {off : Int} {t : Nat} (hd : decode y.2.1 pc = .ok (.ifCond .ne off, 3)) (ht : (pc : Int) + off = (t : Int)) (kt : ¬ x = 0 → ds_X y Y t ls st σ Q) (kf : x = 0 → ds_X y Y (pc + 3) ls st σ Q) : ds_X y Y pc ls (.int x :: st) σ Q := by
  intro p l e s m args below meth c cy dC dI ad A C H locs hP hD hS lc hl
  exact lv_if_ne C.1 C.2.1 hd ht (fun h => kt h p l e s m args below meth c cy dC dI ad A C H locs hP hD hS lc hl) (fun h => kf h p l e s m args below meth c cy dC dI ad A C H locs hP hD hS lc hl)
theorem ds_ic_ne {x z : Int32} {off : Int} {t : Nat} (hd : decode y.2.1 pc = .ok (.if_icmp .ne off, 3)) (ht : (pc : Int) + off = (t : Int)) (kt : ¬ x = z → ds_X y Y t ls st σ Q) (kf : x = z → ds_X y Y (pc + 3) ls st σ Q) : ds_X y Y pc ls (.int z :: .int x :: st) σ Q := by
  intro p l e s m args below meth c cy dC dI ad A C H locs hP hD hS lc hl
  exact lv_icmp_ne C.1 C.2.1 hd ht (fun h => kt h p l e s m args below meth c cy dC dI ad A C H locs hP hD hS lc hl) (fun h => kf h p l e s m args below meth c cy dC dI ad A C H locs hP hD hS lc hl)
theorem ds_if_lt {x : Int32} {off : Int} {t : Nat} (hd : decode y.2.1 pc = .ok (.ifCond .lt off, 3)) (ht : (pc : Int) + off = (t : Int)) (kt : x < 0 → ds_X y Y t ls st σ Q) (kf : ¬ x < 0 → ds_X y Y (pc + 3) ls st σ Q) : ds_X y Y pc ls (.int x :: st) σ Q := by
  intro p l e s m args below meth c cy dC dI ad A C H locs hP hD hS lc hl
  exact lv_if_lt C.1 C.2.1 hd ht (fun h => kt h p l e s m args below meth c cy dC dI ad A C H locs hP hD hS lc hl) (fun h => kf h p l e s m args below meth c cy dC dI ad A C H locs hP hD hS lc hl)
theorem ds_ic_lt {x z : Int32} {off : Int} {t : Nat} (hd : decode y.2.1 pc = .ok (.if_icmp .lt off, 3)) (ht : (pc : Int) + off = (t : Int)) (kt : x < z → ds_X y Y t ls st σ Q) (kf : ¬ x < z → ds_X y Y (pc + 3) ls st σ Q) : ds_X y Y pc ls (.int z :: .int x :: st) σ Q := by
  intro p l e s m args below meth c cy dC dI ad A C H locs hP hD hS lc hl
  exact lv_icmp_lt C.1 C.2.1 hd ht (fun h => kt h p l e s m args below meth c cy dC dI ad A C H locs hP hD hS lc hl) (fun h => kf h p l e s m args below meth c cy dC dI ad A C H locs hP hD hS lc hl)
theorem ds_if_ge {x : Int32} {off : Int} {t : Nat} (hd : decode y.2.1 pc = .ok (.ifCond .ge off, 3)) (ht : (pc : Int) + off = (t : Int)) (kt : 0 ≤ x → ds_X y Y t ls st σ Q) (kf : ¬ 0 ≤ x → ds_X y Y (pc + 3) ls st σ Q) : ds_X y Y pc ls (.int x :: st) σ Q := by
  intro p l e s m args below meth c cy dC dI ad A C H locs hP hD hS lc hl
  exact lv_if_ge C.1 C.2.1 hd ht (fun h => kt h p l e s m args below meth c cy dC dI ad A C H locs hP hD hS lc hl) (fun h => kf h p l e s m args below meth c cy dC dI ad A C H locs hP hD hS lc hl)
theorem ds_ic_ge {x z : Int32} {off : Int} {t : Nat} (hd : decode y.2.1 pc = .ok (.if_icmp .ge off, 3)) (ht : (pc : Int) + off = (t : Int)) (kt : z ≤ x → ds_X y Y t ls st σ Q) (kf : ¬ z ≤ x → ds_X y Y (pc + 3) ls st σ Q) : ds_X y Y pc ls (.int z :: .int x :: st) σ Q := by
  intro p l e s m args below meth c cy dC dI ad A C H locs hP hD hS lc hl
  exact lv_icmp_ge C.1 C.2.1 hd ht (fun h => kt h p l e s m args below meth c cy dC dI ad A C H locs hP hD hS lc hl) (fun h => kf h p l e s m args below meth c cy dC dI ad A C H locs hP hD hS lc hl)
theorem ds_if_gt {x : Int32} {off : Int} {t : Nat} (hd : decode y.2.1 pc = .ok (.ifCond .gt off, 3)) (ht : (pc : Int) + off = (t : Int)) (kt : 0 < x → ds_X y Y t ls st σ Q) (kf : ¬ 0 < x → ds_X y Y (pc + 3) ls st σ Q) : ds_X y Y pc ls (.int x :: st) σ Q := by
  intro p l e s m args below meth c cy dC dI ad A C H locs hP hD hS lc hl
  exact lv_if_gt C.1 C.2.1 hd ht (fun h => kt h p l e s m args below meth c cy dC dI ad A C H locs hP hD hS lc hl) (fun h => kf h p l e s m args below meth c cy dC dI ad A C H locs hP hD hS lc hl)
theorem ds_ic_gt {x z : Int32} {off : Int} {t : Nat} (hd : decode y.2.1 pc = .ok (.if_icmp .gt off, 3)) (ht : (pc : Int) + off = (t : Int)) (kt : z < x → ds_X y Y t ls st σ Q) (kf : ¬ z < x → ds_X y Y (pc + 3) ls st σ Q) : ds_X y Y pc ls (.int z :: .int x :: st) σ Q := by
  intro p l e s m args below meth c cy dC dI ad A C H locs hP hD hS lc hl
  exact lv_icmp_gt C.1 C.2.1 hd ht (fun h => kt h p l e s m args below meth c cy dC dI ad A C H locs hP hD hS lc hl) (fun h => kf h p l e s m args below meth c cy dC dI ad A C H locs hP hD hS lc hl)
theorem ds_if_le {x : Int32} {off : Int} {t : Nat} (hd : decode y.2.1 pc = .ok (.ifCond .le off, 3)) (ht : (pc : Int) + off = (t : Int)) (kt : x ≤ 0 → ds_X y Y t ls st σ Q) (kf : ¬ x ≤ 0 → ds_X y Y (pc + 3) ls st σ Q) : ds_X y Y pc ls (.int x :: st) σ Q := by
  intro p l e s m args below meth c cy dC dI ad A C H locs hP hD hS lc hl
  exact lv_if_le C.1 C.2.1 hd ht (fun h => kt h p l e s m args below meth c cy dC dI ad A C H locs hP hD hS lc hl) (fun h => kf h p l e s m args below meth c cy dC dI ad A C H locs hP hD hS lc hl)
theorem ds_ic_le {x z : Int32} {off : Int} {t : Nat} (hd : decode y.2.1 pc = .ok (.if_icmp .le off, 3)) (ht : (pc : Int) + off = (t : Int)) (kt : x ≤ z → ds_X y Y t ls st σ Q) (kf : ¬ x ≤ z → ds_X y Y (pc + 3) ls st σ Q) : ds_X y Y pc ls (.int z :: .int x :: st) σ Q := by
  intro p l e s m args below meth c cy dC dI ad A C H locs hP hD hS lc hl
  exact lv_icmp_le C.1 C.2.1 hd ht (fun h => kt h p l e s m args below meth c cy dC dI ad A C H locs hP hD hS lc hl) (fun h => kf h p l e s m args below meth c cy dC dI ad A C H locs hP hD hS lc hl)
theorem ds_table {d lo hi : Int} {offs : Array Int} {len : Nat} {x : Int32} (hd : decode y.2.1 pc = .ok (.tableswitch d lo hi offs, len)) (t : Nat) (ht : (pc : Int) + d = (t : Int)) (ho : x.toInt < lo ∨ hi < x.toInt → ds_X y Y t ls st σ Q) (hin : ¬ x.toInt < lo → ¬ hi < x.toInt → ∃ (off : Int) (t : Nat), offs[(x.toInt - lo).toNat]? = some off ∧ (pc : Int) + off = (t : Int) ∧ ds_X y Y t ls st σ Q) : ds_X y Y pc ls (.int x :: st) σ Q := by
  intro p l e s m args below meth c cy dC dI ad A C H locs hP hD hS lc hl
  by_cases h : x.toInt < lo ∨ hi < x.toInt
  · exact lv_tableOut C.1 C.2.1 hd h ht (ho h p l e s m args below meth c cy dC dI ad A C H locs hP hD hS lc hl)
  · obtain ⟨off, t2, h1, h2, h3⟩ := hin (fun q => h (Or.inl q)) (fun q => h (Or.inr q))
    exact lv_tableIn C.1 C.2.1 hd (fun q => h (Or.inl q)) (fun q => h (Or.inr q)) h1 h2 (h3 p l e s m args below meth c cy dC dI ad A C H locs hP hD hS lc hl)
/-! locals written -/
theorem ds_istore {n : Nat} {x : Int32} (hd : decode y.2.1 pc = .ok (.istore n, 2)) (hn : n < ls.length) (k : ds_X y Y (pc + 2) (ds_put ls n (.int x)) st σ Q) : ds_X y Y pc ls (.int x :: st) σ Q := by
  intro p l e s m args below meth c cy dC dI ad A C H locs hP hD hS lc hl
  exact lv_istore C.1 C.2.1 hd hl.has (by rw [← hl.1]; exact hn) rfl (fun lc' h' => k p l e s m args below meth c cy dC dI ad A C H locs hP hD hS lc' (hl.put h'))
theorem ds_istore_n {n : Fin 4} {x : Int32} (hd : decode y.2.1 pc = .ok (.istore_n n, 1)) (hn : (n : Nat) < ls.length) (k : ds_X y Y (pc + 1) (ds_put ls n (.int x)) st σ Q) : ds_X y Y pc ls (.int x :: st) σ Q := by
  intro p l e s m args below meth c cy dC dI ad A C H locs hP hD hS lc hl
  exact lv_istore_n C.1 C.2.1 hd rfl hl.has (by rw [← hl.1]; exact hn) rfl (fun lc' h' => k p l e s m args below meth c cy dC dI ad A C H locs hP hD hS lc' (hl.put h'))
theorem ds_astore {n : Nat} {x : Nat} (hd : decode y.2.1 pc = .ok (.astore n, 2)) (hn : n < ls.length) (k : ds_X y Y (pc + 2) (ds_put ls n (.ref x)) st σ Q) : ds_X y Y pc ls (.ref x :: st) σ Q := by
  intro p l e s m args below meth c cy dC dI ad A C H locs hP hD hS lc hl
  exact lv_astore C.1 C.2.1 hd hl.has (by rw [← hl.1]; exact hn) rfl (fun lc' h' => k p l e s m args below meth c cy dC dI ad A C H locs hP hD hS lc' (hl.put h'))
theorem ds_astore_n {n : Fin 4} {x : Nat} (hd : decode y.2.1 pc = .ok (.astore_n n, 1)) (hn : (n : Nat) < ls.length) (k : ds_X y Y (pc + 1) (ds_put ls n (.ref x)) st σ Q) : ds_X y Y pc ls (.ref x :: st) σ Q := by
  intro p l e s m args below meth c cy dC dI ad A C H locs hP hD hS lc hl
  exact lv_astore_n C.1 C.2.1 hd rfl hl.has (by rw [← hl.1]; exact hn) rfl (fun lc' h' => k p l e s m args below meth c cy dC dI ad A C H locs hP hD hS lc' (hl.put h'))
theorem ds_lstore {n : Nat} {x : Int64} (hd : decode y.2.1 pc = .ok (.lstore n, 2)) (hn : n + 1 < ls.length) (k : ds_X y Y (pc + 2) (ds_put2 ls n (.long x)) st σ Q) : ds_X y Y pc ls (.long x :: st) σ Q := by
  intro p l e s m args below meth c cy dC dI ad A C H locs hP hD hS lc hl
  exact lv_lstore C.1 C.2.1 hd hl.has (by rw [← hl.1]; exact hn) rfl (fun lc' h' => k p l e s m args below meth c cy dC dI ad A C H locs hP hD hS lc' (hl.put2 h'))
theorem ds_lstore_n {n : Fin 4} {x : Int64} (hd : decode y.2.1 pc = .ok (.lstore_n n, 1)) (hn : (n : Nat) + 1 < ls.length) (k : ds_X y Y (pc + 1) (ds_put2 ls n (.long x)) st σ Q) : ds_X y Y pc ls (.long x :: st) σ Q := by
  intro p l e s m args below meth c cy dC dI ad A C H locs hP hD hS lc hl
  exact lv_lstore_n C.1 C.2.1 hd rfl hl.has (by rw [← hl.1]; exact hn) rfl (fun lc' h' => k p l e s m args below meth c cy dC dI ad A C H locs hP hD hS lc' (hl.put2 h'))
theorem ds_iinc {n : Nat} {i : Int} {x v : Int32} (hd : decode y.2.1 pc = .ok (.iinc n i, 3)) (hi : Int32.ofInt i = v) (hv : ds_at ls n = some (.int x)) (k : ds_X y Y (pc + 3) (ds_put ls n (.int (x + v))) st σ Q) : ds_X y Y pc ls st σ Q := by
  intro p l e s m args below meth c cy dC dI ad A C H locs hP hD hS lc hl
  obtain ⟨j, hj⟩ := List.getElem?_of_mem (ds_pr_mem (ad := ad) hv)
  exact lv_iinc (k := j) C.1 C.2.1 hd hl.has hj (by rw [hi]) (by rw [← hl.1]; exact ds_at_lt hv) rfl (fun lc' h' => k p l e s m args below meth c cy dC dI ad A C H locs hP hD hS lc' (hl.put h'))
/-! ends -/
theorem ds_vret (hd : decode y.2.1 pc = .ok (.return_, 1)) (hr : y.2.2.2.1 = none) (hq : Q none σ) : ds_X y Y pc ls [] σ Q := by
  intro p l e s m args below meth c cy dC dI ad A C H locs hP hD hS lc hl
  obtain ⟨hx, hb, hml, hret, hlocks, hts, hown, hK, hN, hA⟩ := C
  refine W.vret hx hb (hret.trans hr) (fun t ht hW => ?_) hS.2.2 hd
  rw [hr]
  exact ⟨⟨σ, rfl, hq, by rw [ht]; exact hP, va_K.moved hW.alike hK, hD⟩, hS.F ht⟩
theorem ds_lret {x : Int64} (hd : decode y.2.1 pc = .ok (.lreturn, 1)) (hr : y.2.2.2.1 = some .long) (hq : Q (some (.long x)) σ) : ds_X y Y pc ls [.long x] σ Q := by
  intro p l e s m args below meth c cy dC dI ad A C H locs hP hD hS lc hl
  obtain ⟨hx, hb, hml, hret, hlocks, hts, hown, hK, hN, hA⟩ := C
  refine W.lret hx hb (hret.trans hr) (fun t ht hW => ?_) hS.2.2 hd
  rw [hr]
  exact ⟨⟨x, σ, rfl, hq, by rw [ht]; exact hP, va_K.moved hW.alike hK, hD⟩, hS.F ht⟩
theorem ds_iret {x : Int32} (hd : decode y.2.1 pc = .ok (.ireturn, 1)) (hr : y.2.2.2.1 = some .int) (hq : Q (some (.int x)) σ) : ds_X y Y pc ls [.int x] σ Q := by
  intro p l e s m args below meth c cy dC dI ad A C H locs hP hD hS lc hl
  obtain ⟨hx, hb, hml, hret, hlocks, hts, hown, hK, hN, hA⟩ := C
  refine W.iret hx hb (hret.trans hr) (fun t ht hW => ?_) hS.2.2 hd
  rw [hr]
  exact ⟨⟨x, σ, rfl, hq, by rw [ht]; exact hP, va_K.moved hW.alike hK, hD⟩, hS.F ht⟩
theorem ds_zret {x : Int32} (hd : decode y.2.1 pc = .ok (.ireturn, 1)) (hr : y.2.2.2.1 = some .boolean) (hn : x = 0 ∨ x = 1) (hq : Q (some (.int x)) σ) : ds_X y Y pc ls [.int x] σ Q := by
  intro p l e s m args below meth c cy dC dI ad A C H locs hP hD hS lc hl
  obtain ⟨hx, hb, hml, hret, hlocks, hts, hown, hK, hN, hA⟩ := C
  refine W.zret (ty := .boolean) hx hb (hret.trans hr) (by rcases hn with rfl | rfl <;> rfl) (fun t ht hW => ?_) hS.2.2 hd
  rw [hr]
  exact ⟨⟨x, σ, rfl, hq, by rw [ht]; exact hP, va_K.moved hW.alike hK, hD⟩, hS.F ht⟩
theorem ds_aret {x : Nat} {cn : String} (hd : decode y.2.1 pc = .ok (.areturn, 1)) (hr : y.2.2.2.1 = some (.object cn)) (hq : Q (some (.ref x)) σ) : ds_X y Y pc ls [.ref x] σ Q := by
  intro p l e s m args below meth c cy dC dI ad A C H locs hP hD hS lc hl
  obtain ⟨hx, hb, hml, hret, hlocks, hts, hown, hK, hN, hA⟩ := C
  refine W.aret (v := .ref (ad x)) (rt := .object cn) hx hb (hret.trans hr) (Or.inl ⟨_, rfl⟩) (Or.inr ⟨_, rfl⟩) (fun t ht hW => ?_) hS.2.2 hd
  rw [hr]
  exact ⟨⟨(σ, x), ad x, rfl, hq, rfl, by rw [ht]; exact hP, va_K.moved hW.alike hK, hD⟩, hS.F ht⟩
end DSX
end
section
section DSH
variable {y : ds_M} {Y : ds_Y} {pc : Nat} {ls : ds_L} {st : List Value} {σ : ds_S} {Q : Option Value → ds_S → Prop}
/-- a field's word is among the tables', its class's fields too -/
def ds_fld (y : ds_M) (idx ci k : Nat) : Prop := ∃ q : vw_C, vwCl[ci]? = some q ∧ k < q.2.2 ∧ q.2.2 = (ds_fc ci).length ∧ Cond.fieldLink y.1.cls idx (q.2.1 k).1 (q.2.1 k).2.1 (q.2.1 k).2.2.1 ∈ ds_T ∧ (∀ w ∈ u_ws q.1 q.2.1 q.2.2, w ∈ ds_T)
theorem ds_ci {ci : Nat} {q : vw_C} (h : vwCl[ci]? = some q) : ci < 10 := (List.getElem?_eq_some_iff.mp h).1
/-- getfield: what it reads is v -/
theorem ds_get {idx ci k code c : Nat} {v : Value} (hd : decode y.2.1 pc = .ok (.getfield idx, 3)) (hw : ds_fld y idx ci k) (hc : c < Y.1) (hk : Y.2.1 c = ci) (hf : (ds_fc ci)[k]? = some code) (hv : ∀ ad, ds_fv ad Y.2.2.2 σ c k code = ds_v ad v) (kk : ds_X y Y (pc + 3) ls (v :: st) σ Q) : ds_X y Y pc ls (.ref c :: st) σ Q := by
  intro p l e s m args below meth c' cy dC dI ad A C H locs hP hD hS lc hl
  have C0 := C
  obtain ⟨hx, hb, hml, hret, hlocks, hts, hown, hK, hN, hA⟩ := C
  obtain ⟨q, q1, q2, q3, q4, q5⟩ := hw
  have he := ds_w_at (cy := cy) (ad := ad) (σ := σ) hc
  rw [ds_e_obj hk (ds_ci q1)] at he
  refine va_get (D := (dC, dI)) (ci := ci) (v := ds_v ad v) (C := q.1) (T := q.2.1) (N := q.2.2) hx hb hts q5 hown hK hP c he q1 k q2 (hts _ q4) (fun _ h9 => h9) ?_ hd (kk p l e s m args below meth c' cy dC dI ad A C0 H locs hP hD hS lc hl)
  rw [← hv ad]
  exact ds_fs_at hf
theorem ds_getI {idx ci k code c : Nat} (hd : decode y.2.1 pc = .ok (.getfield idx, 3)) (hw : ds_fld y idx ci k) (hc : c < Y.1) (hk : Y.2.1 c = ci) (hf : (ds_fc ci)[k]? = some code) (hv : code = 0 ∨ code = 2) (kk : ds_X y Y (pc + 3) ls (.int (σ.1 c k) :: st) σ Q) : ds_X y Y pc ls (.ref c :: st) σ Q :=
  ds_get hd hw hc hk hf (fun ad => by rcases hv with rfl | rfl <;> rfl) kk
theorem ds_getL {idx ci k c : Nat} (hd : decode y.2.1 pc = .ok (.getfield idx, 3)) (hw : ds_fld y idx ci k) (hc : c < Y.1) (hk : Y.2.1 c = ci) (hf : (ds_fc ci)[k]? = some 1) (kk : ds_X y Y (pc + 3) ls (.long (σ.2 c k) :: st) σ Q) : ds_X y Y pc ls (.ref c :: st) σ Q :=
  ds_get hd hw hc hk hf (fun ad => rfl) kk
theorem ds_getR {idx ci k c : Nat} (hd : decode y.2.1 pc = .ok (.getfield idx, 3)) (hw : ds_fld y idx ci k) (hc : c < Y.1) (hk : Y.2.1 c = ci) (hf : (ds_fc ci)[k]? = some 3) (kk : ds_X y Y (pc + 3) ls (.ref (Y.2.2.2 c k) :: st) σ Q) : ds_X y Y pc ls (.ref c :: st) σ Q :=
  ds_get hd hw hc hk hf (fun ad => rfl) kk
/-- a field may be written: not final, of such a type -/
def ds_fldP (ci k : Nat) (ty : FieldType) : Prop := ∃ q : vw_C, vwCl[ci]? = some q ∧ (q.2.1 k).2.2.2 = false ∧ parseFieldDescriptor (q.2.1 k).2.2.1 = some ty ∧ (∃ ty0 : Nat → FieldType, ∀ k, k < q.2.2 → parseFieldDescriptor (q.2.1 k).2.2.1 = some (ty0 k)) ∧ ∀ a, a < q.2.2 → ∀ b, b < q.2.2 → a ≠ b → (q.2.1 a).2.1 ≠ (q.2.1 b).2.1
theorem ds_put0 {idx ci k c : Nat} {ty : FieldType} {v : Value} {σ' : ds_S} (hd : decode y.2.1 pc = .ok (.putfield idx, 3)) (hw : ds_fld y idx ci k) (hp : ds_fldP ci k ty) (hc : c < Y.1) (hk : Y.2.1 c = ci) (hn : ∀ ad, narrow ty (ds_v ad v) = ds_v ad v) (hfit : ∀ ad, fits ty (ds_v ad v) = true) (hfs : ∀ ad, ds_fs ad Y.2.2.2 σ' c (ds_fc ci) = (ds_fs ad Y.2.2.2 σ c (ds_fc ci)).set k (ds_v ad v)) (ho : ∀ cy ad b, b ≠ c → ds_e cy ad Y σ' b = ds_e cy ad Y σ b) (kk : ds_X y Y (pc + 3) ls st σ' Q) : ds_X y Y pc ls (v :: .ref c :: st) σ Q := by
  intro p l e s m args below meth c' cy dC dI ad A C H locs hP hD hS lc hl
  have C0 := C
  obtain ⟨hx, hb, hml, hret, hlocks, hts, hown, hK, hN, hA⟩ := C
  obtain ⟨q, q1, q2, q3, q4, q5⟩ := hw
  obtain ⟨q', g1, g2, g3, ⟨ty0, g4⟩, g5⟩ := hp
  obtain rfl : q = q' := Option.some.inj (q1.symm.trans g1)
  have he := ds_w_at (cy := cy) (ad := ad) (σ := σ) hc
  rw [ds_e_obj hk (ds_ci q1)] at he
  have hset : (ds_w cy ad Y σ).set c (ad c, .inr (ci, (ds_fs ad Y.2.2.2 σ c (ds_fc ci)).set k (ds_v ad v))) = ds_w cy ad Y σ' := ds_w_set (by rw [ds_e_obj hk (ds_ci q1), hfs]) (ho cy ad)
  refine va_put (D := (dC, dI)) (ci := ci) (v := ds_v ad v) (ty := ty) (C := q.1) (T := q.2.1) (N := q.2.2) hx hb hts q5 ty0 g4 g5 hown hK hP hD hS c he q1 k q2 (hts _ q4) (fun _ h9 => h9) g2 g3 (hn ad) (hfit ad) (by rw [ds_fs_len, ← q3]; exact q2) hd (fun H1 locs1 hP1 hD1 hS1 => ?_)
  rw [hset] at hP1 hD1
  exact kk p l e s m args below meth c' cy dC dI ad A C0 H1 locs1 hP1 hD1 hS1 lc hl
theorem ds_putI {idx ci k c : Nat} {x : Int32} (hd : decode y.2.1 pc = .ok (.putfield idx, 3)) (hw : ds_fld y idx ci k) (hp : ds_fldP ci k .int) (hc : c < Y.1) (hk : Y.2.1 c = ci) (hf : (ds_fc ci)[k]? = some 0) (kk : ds_X y Y (pc + 3) ls st (ds_si σ c (upd (σ.1 c) k x)) Q) : ds_X y Y pc ls (.int x :: .ref c :: st) σ Q :=
  ds_put0 hd hw hp hc hk (fun _ => rfl) (fun _ => rfl) (fun _ => ds_fs_si hf (Or.inl rfl)) (fun _ _ _ h => ds_e_si h) kk
theorem ds_putZ {idx ci k c : Nat} {x : Int32} (hd : decode y.2.1 pc = .ok (.putfield idx, 3)) (hw : ds_fld y idx ci k) (hp : ds_fldP ci k .boolean) (hc : c < Y.1) (hk : Y.2.1 c = ci) (hf : (ds_fc ci)[k]? = some 2) (h01 : x = 0 ∨ x = 1) (kk : ds_X y Y (pc + 3) ls st (ds_si σ c (upd (σ.1 c) k x)) Q) : ds_X y Y pc ls (.int x :: .ref c :: st) σ Q :=
  ds_put0 hd hw hp hc hk (fun _ => by rcases h01 with rfl | rfl <;> rfl) (fun _ => by rcases h01 with rfl | rfl <;> rfl) (fun _ => ds_fs_si hf (Or.inr rfl)) (fun _ _ _ h => ds_e_si h) kk
theorem ds_putL {idx ci k c : Nat} {x : Int64} (hd : decode y.2.1 pc = .ok (.putfield idx, 3)) (hw : ds_fld y idx ci k) (hp : ds_fldP ci k .long) (hc : c < Y.1) (hk : Y.2.1 c = ci) (hf : (ds_fc ci)[k]? = some 1) (kk : ds_X y Y (pc + 3) ls st (ds_sl σ c (vp_updL (σ.2 c) k x)) Q) : ds_X y Y pc ls (.long x :: .ref c :: st) σ Q :=
  ds_put0 hd hw hp hc hk (fun _ => rfl) (fun _ => rfl) (fun _ => ds_fs_sl hf) (fun _ _ _ h => ds_e_sl h) kk
/-! arrays -/
theorem ds_iald {c : Nat} {i : Int32} (hd : decode y.2.1 pc = .ok (.iaload, 1)) (hc : c < Y.1) (hk : Y.2.1 c = 10) (hin : vp_in i (Y.2.2.1 c)) (kk : ds_X y Y (pc + 1) ls (.int (σ.1 c i.toNatClampNeg) :: st) σ Q) : ds_X y Y pc ls (.int i :: .ref c :: st) σ Q := by
  intro p l e s m args below meth c' cy dC dI ad A C H locs hP hD hS lc hl
  have he := ds_w_at (cy := cy) (ad := ad) (σ := σ) hc
  rw [ds_e_int hk] at he
  exact va_iald C.1 C.2.1 C.2.2.2.2.2.2.2.1 hP c 0 he rfl hin hd (kk p l e s m args below meth c' cy dC dI ad A C H locs hP hD hS lc hl)
theorem ds_zald {c : Nat} {i : Int32} (hd : decode y.2.1 pc = .ok (.baload, 1)) (hc : c < Y.1) (hk : Y.2.1 c = 12) (hin : vp_in i (Y.2.2.1 c)) (kk : ds_X y Y (pc + 1) ls (.int (σ.1 c i.toNatClampNeg) :: st) σ Q) : ds_X y Y pc ls (.int i :: .ref c :: st) σ Q := by
  intro p l e s m args below meth c' cy dC dI ad A C H locs hP hD hS lc hl
  have he := ds_w_at (cy := cy) (ad := ad) (σ := σ) hc
  rw [ds_e_bool hk] at he
  exact va_zald C.1 C.2.1 C.2.2.2.2.2.2.2.1 hP c 2 he rfl hin hd (kk p l e s m args below meth c' cy dC dI ad A C H locs hP hD hS lc hl)
theorem ds_lald {c : Nat} {i : Int32} (hd : decode y.2.1 pc = .ok (.laload, 1)) (hc : c < Y.1) (hk : Y.2.1 c = 11) (hin : vp_in i (Y.2.2.1 c)) (kk : ds_X y Y (pc + 1) ls (.long (σ.2 c i.toNatClampNeg) :: st) σ Q) : ds_X y Y pc ls (.int i :: .ref c :: st) σ Q := by
  intro p l e s m args below meth c' cy dC dI ad A C H locs hP hD hS lc hl
  have he := ds_w_at (cy := cy) (ad := ad) (σ := σ) hc
  rw [ds_e_long hk] at he
  exact va_lald C.1 C.2.1 C.2.2.2.2.2.2.2.1 hP c 1 he rfl hin hd (kk p l e s m args below meth c' cy dC dI ad A C H locs hP hD hS lc hl)
theorem ds_aald {c : Nat} {i : Int32} (hd : decode y.2.1 pc = .ok (.aaload, 1)) (hc : c < Y.1) (hk : Y.2.1 c = 13 ∨ Y.2.1 c = 14) (hin : vp_in i (Y.2.2.1 c)) (kk : ds_X y Y (pc + 1) ls (.ref (Y.2.2.2 c i.toNatClampNeg) :: st) σ Q) : ds_X y Y pc ls (.int i :: .ref c :: st) σ Q := by
  intro p l e s m args below meth c' cy dC dI ad A C H locs hP hD hS lc hl
  have he := ds_w_at (cy := cy) (ad := ad) (σ := σ) hc
  have k2 := kk p l e s m args below meth c' cy dC dI ad A C H locs hP hD hS lc hl
  have hlt : i.toNatClampNeg < Y.2.2.1 c := Nat.not_le.mp fun q => hin (Or.inr q)
  rcases hk with hk | hk
  · rw [ds_e_ways hk] at he
    exact va_aldq C.1 C.2.1 C.2.2.2.2.2.2.2.1 hP c 3 he rfl hin hd k2
  · rw [ds_e_rows hk] at he
    exact W.aald (v := .ref (ad (Y.2.2.2 c i.toNatClampNeg))) (ty := .array .int) C.1 C.2.1 (hP c _ he) ((C.2.2.2.2.2.2.2.1.2 4 _ rfl).1 (Y.2.2.1 c) (fun j => va_rf (some (ad (Y.2.2.2 c j))))) rfl (fun q => by cases q) (by show ¬ (i < 0 ∨ (arrV _ _ _).slots.size ≤ _); rw [arrV_size]; exact hin) (by show (arrV _ _ _).slots[_]? = _; rw [arrV_read _ _ hlt]; rfl) rfl rfl hd k2
theorem ds_alen {c : Nat} {v : Int32} (hd : decode y.2.1 pc = .ok (.arraylength, 1)) (hc : c < Y.1) (hk : Y.2.1 c = 10 ∨ Y.2.1 c = 11) (hv : Int32.ofNat (Y.2.2.1 c) = v) (kk : ds_X y Y (pc + 1) ls (.int v :: st) σ Q) : ds_X y Y pc ls (.ref c :: st) σ Q := by
  intro p l e s m args below meth c' cy dC dI ad A C H locs hP hD hS lc hl
  have he := ds_w_at (cy := cy) (ad := ad) (σ := σ) hc
  have k2 := kk p l e s m args below meth c' cy dC dI ad A C H locs hP hD hS lc hl
  rcases hk with hk | hk
  · rw [ds_e_int hk] at he
    exact va_alen C.1 C.2.1 C.2.2.2.2.2.2.2.1 hP c 0 he rfl hv hd k2
  · rw [ds_e_long hk] at he
    exact va_alen C.1 C.2.1 C.2.2.2.2.2.2.2.1 hP c 1 he rfl hv hd k2
theorem ds_iast {c : Nat} {i x : Int32} (hd : decode y.2.1 pc = .ok (.iastore, 1)) (hc : c < Y.1) (hk : Y.2.1 c = 10) (hin : vp_in i (Y.2.2.1 c)) (kk : ds_X y Y (pc + 1) ls st (ds_si σ c (upd (σ.1 c) i.toNatClampNeg x)) Q) : ds_X y Y pc ls (.int x :: .int i :: .ref c :: st) σ Q := by
  intro p l e s m args below meth c' cy dC dI ad A C H locs hP hD hS lc hl
  have he := ds_w_at (cy := cy) (ad := ad) (σ := σ) hc
  rw [ds_e_int hk] at he
  have hset : (ds_w cy ad Y σ).set c (ad c, .inl (cy 10, Y.2.2.1 c, .inl (upd (σ.1 c) i.toNatClampNeg x))) = ds_w cy ad Y (ds_si σ c (upd (σ.1 c) i.toNatClampNeg x)) := ds_w_set (by rw [ds_e_int hk]; simp [ds_si, va_up]) (fun b h => ds_e_si h)
  refine va_iast C.1 C.2.1 C.2.2.2.2.2.2.2.1 hP hD hS c 0 he rfl hin hd (fun H1 locs1 hP1 hD1 hS1 => ?_)
  rw [hset] at hP1 hD1
  exact kk p l e s m args below meth c' cy dC dI ad A C H1 locs1 hP1 hD1 hS1 lc hl
theorem ds_zast {c : Nat} {i x : Int32} (hd : decode y.2.1 pc = .ok (.bastore, 1)) (hc : c < Y.1) (hk : Y.2.1 c = 12) (hin : vp_in i (Y.2.2.1 c)) (kk : ds_X y Y (pc + 1) ls st (ds_si σ c (upd (σ.1 c) i.toNatClampNeg (vp_nar .boolean x))) Q) : ds_X y Y pc ls (.int x :: .int i :: .ref c :: st) σ Q := by
  intro p l e s m args below meth c' cy dC dI ad A C H locs hP hD hS lc hl
  have he := ds_w_at (cy := cy) (ad := ad) (σ := σ) hc
  rw [ds_e_bool hk] at he
  have hset : (ds_w cy ad Y σ).set c (ad c, .inl (cy 12, Y.2.2.1 c, .inl (upd (σ.1 c) i.toNatClampNeg (vp_nar .boolean x)))) = ds_w cy ad Y (ds_si σ c (upd (σ.1 c) i.toNatClampNeg (vp_nar .boolean x))) := ds_w_set (by rw [ds_e_bool hk]; simp [ds_si, va_up]) (fun b h => ds_e_si h)
  refine va_zast C.1 C.2.1 C.2.2.2.2.2.2.2.1 hP hD hS c 2 he rfl hin hd (fun H1 locs1 hP1 hD1 hS1 => ?_)
  rw [hset] at hP1 hD1
  exact kk p l e s m args below meth c' cy dC dI ad A C H1 locs1 hP1 hD1 hS1 lc hl
theorem ds_last {c : Nat} {i : Int32} {x : Int64} (hd : decode y.2.1 pc = .ok (.lastore, 1)) (hc : c < Y.1) (hk : Y.2.1 c = 11) (hin : vp_in i (Y.2.2.1 c)) (kk : ds_X y Y (pc + 1) ls st (ds_sl σ c (vp_updL (σ.2 c) i.toNatClampNeg x)) Q) : ds_X y Y pc ls (.long x :: .int i :: .ref c :: st) σ Q := by
  intro p l e s m args below meth c' cy dC dI ad A C H locs hP hD hS lc hl
  have he := ds_w_at (cy := cy) (ad := ad) (σ := σ) hc
  rw [ds_e_long hk] at he
  have hset : (ds_w cy ad Y σ).set c (ad c, .inl (cy 11, Y.2.2.1 c, .inr (.inl (vp_updL (σ.2 c) i.toNatClampNeg x)))) = ds_w cy ad Y (ds_sl σ c (vp_updL (σ.2 c) i.toNatClampNeg x)) := ds_w_set (by rw [ds_e_long hk]; simp [ds_sl, va_up]) (fun b h => ds_e_sl h)
  refine va_last C.1 C.2.1 C.2.2.2.2.2.2.2.1 hP hD hS c 1 he rfl hin hd (fun H1 locs1 hP1 hD1 hS1 => ?_)
  rw [hset] at hP1 hD1
  exact kk p l e s m args below meth c' cy dC dI ad A C H1 locs1 hP1 hD1 hS1 lc hl
/-- System.arraycopy of int arrays -/
theorem ds_copy {idx a b : Nat} {sp dp n : Int32} (hd : decode y.2.1 pc = .ok (.invokestatic idx, 3)) (hl1 : Cond.methodLink y.1.cls idx arraycopyName ∈ ds_T) (hl2 : Cond.native arraycopyName ∈ ds_T) (hl3 : Cond.static arraycopyName ∈ ds_T) (hl4 : Cond.initialized "java/lang/System" ∈ ds_T) (ha : a < Y.1) (hka : Y.2.1 a = 10) (hb : b < Y.1) (hkb : Y.2.1 b = 10)
    (h1 : ¬ sp < 0) (h2 : ¬ dp < 0) (h3 : ¬ n < 0) (h4 : sp.toNatClampNeg + n.toNatClampNeg ≤ Y.2.2.1 a) (h5 : dp.toNatClampNeg + n.toNatClampNeg ≤ Y.2.2.1 b) (hfr : 1 ≤ y.2.2.2.2.1) (hlo : (st.map fun v => v.category).sum + 18 ≤ y.2.2.2.2.2)
    (kk : ds_X y Y (pc + 3) ls st (ds_si σ b (va_cpy (σ.1 a) (σ.1 b) sp.toNatClampNeg dp.toNatClampNeg n.toNatClampNeg)) Q) : ds_X y Y pc ls (.int n :: .int dp :: .ref b :: .int sp :: .ref a :: st) σ Q := by
  intro p l e s m args below meth c' cy dC dI ad A C H locs hP hD hS lc hl
  have C0 := C
  obtain ⟨hx, hb', hml, hret, hlocks, hts, hown, hK, hN, hA⟩ := C
  have hea := ds_w_at (cy := cy) (ad := ad) (σ := σ) ha
  rw [ds_e_int hka] at hea
  have heb := ds_w_at (cy := cy) (ad := ad) (σ := σ) hb
  rw [ds_e_int hkb] at heb
  have hset : (ds_w cy ad Y σ).set b (ad b, .inl (cy 10, Y.2.2.1 b, .inl (va_cpy (σ.1 a) (σ.1 b) sp.toNatClampNeg dp.toNatClampNeg n.toNatClampNeg))) = ds_w cy ad Y (ds_si σ b (va_cpy (σ.1 a) (σ.1 b) sp.toNatClampNeg dp.toNatClampNeg n.toNatClampNeg)) := ds_w_set (by rw [ds_e_int hkb]; simp [ds_si, va_up]) (fun b h => ds_e_si h)
  have hsum : ((st.map (ds_v ad)).map fun v => v.category).sum = (st.map fun v => v.category).sum := by
    rw [List.map_map]
    congr 1
    exact List.map_congr_left fun v _ => ds_v_cat ad v
  refine va_copyi hx hb' (by rw [hml, hl.2.1]) hown (hts _ hl1) (hts _ hl2) (hts _ hl3) (hts _ hl4) hK hP hD hS a b 0 0 hea heb rfl rfl rfl h1 h2 h3 h4 h5 (fun _ _ => rfl) hfr (by rw [hsum]; exact hlo) hd (fun H1 locs1 hP1 hD1 hS1 => ?_)
  rw [hset] at hP1 hD1
  exact kk p l e s m args below meth c' cy dC dI ad A C0 H1 locs1 hP1 hD1 hS1 lc hl
end DSH
end
section
section DSC
variable {y z : ds_M} {Y : ds_Y} {pc : Nat} {ls : ds_L} {rest : List Value} {σ : ds_S} {Q : Option Value → ds_S → Prop}
theorem ds_blind {as : List Value} {cy : Nat → ClassId} {dC : Nat → ClassId} {dI : Nat → Nat → Nat} {ad : Nat → Nat} {sz : Nat} : FrameBlind (ds_Pc as cy dC dI ad Y σ sz) := by
  intro a U g mk q
  obtain ⟨q0, q1, qP, qK, qN, qD⟩ := q
  exact ⟨q0, q1, qP, va_K.moved (u := U) (U := U.calling g mk a) (Vm.Alike.refl U.vm) qK, qN.same rfl, qD⟩
theorem ds_catsum (ad : Nat → Nat) (st : List Value) : ((st.map (ds_v ad)).map fun v => v.category).sum = (st.map fun v => v.category).sum := by
  rw [List.map_map]
  congr 1
  exact List.map_congr_left fun v _ => ds_v_cat ad v
/-- behind a call: what came back goes on -/
theorem ds_after {p : Program} {l : Launch} {e : Env} {s : State} {m : MethodId} {args : Array Value} {below : List Frame} {meth : Method} {c : Code} {cy : Nat → ClassId} {dC : Nat → ClassId} {dI : Nat → Nat → Nat} {ad : Nat → Nat} {A : Nat → Prop} {H : Heap} {locs : List Loc} {lc : Array Slot} {st0 : List Value} {a : Array Value} (C : ds_C y p s m args meth c cy dC dI A) (hD : va_D A (ds_w cy ad Y σ)) (hS : va_S A s.heap H locs) (hl : ds_loc ad lc y.2.2.1 ls)
    (hr : va_Run p l e (ds_rm y) s m args below meth c H locs 0 0 0 0 (F0 m pc lc st0) (rest.map (ds_v ad)) (ds_Q z.2.2.2.1 (fun r σ' => ds_X y Y (pc + 3) ls (r.toList ++ rest) σ' Q) cy dC dI ad (va_A (ds_w cy ad Y σ) H.size) Y a) (va_A (ds_w cy ad Y σ) H.size)) :
    W p l e (ds_rm y) s m args below meth c H locs 0 0 (MQ below (ds_Q y.2.2.2.1 Q cy dC dI ad A Y) args s 0 0 A) (F0 m pc lc st0) := by
  have hsub : ∀ q, va_A (ds_w cy ad Y σ) H.size q → A q := by
    intro q hq
    rcases hq with ⟨k, x, h⟩ | h
    · exact hD.2 k _ h
    · exact C.2.2.2.2.2.2.2.2.2 q (Nat.le_trans hS.1 h)
  have go : ∀ (r : Option Value) (σ' : ds_S) (t : State) (H1 : Heap) (locs1 : List Loc), t.heap = H1 → s.vm.Alike t.vm → ds_X y Y (pc + 3) ls (r.toList ++ rest) σ' Q → ds_B cy dC dI ad (va_A (ds_w cy ad Y σ) H.size) Y σ' t → va_S A s.heap H1 locs1 → W p l e (ds_rm y) s m args below meth c H1 locs1 0 0 (MQ below (ds_Q y.2.2.2.1 Q cy dC dI ad A Y) args s 0 0 A) (F0 m (pc + 3) lc ((r.toList ++ rest).map (ds_v ad))) := by
    intro r σ' t H1 locs1 ht hvm hX hB hS1
    obtain ⟨hP1, hK1, hD1⟩ := hB
    rw [ht] at hP1
    exact hX p l e s m args below meth c cy dC dI ad A C H1 locs1 hP1 (hD1.weaken (fun k q _ h => hsub q.1 h)) hS1 lc hl
  generalize z.2.2.2.1 = rt at hr
  have hi : ∀ {rt : Option FieldType}, ds_Q rt (fun r σ' => ds_X y Y (pc + 3) ls (r.toList ++ rest) σ' Q) cy dC dI ad (va_A (ds_w cy ad Y σ) H.size) Y = va_Qi (fun r σ' => ds_X y Y (pc + 3) ls ((some (Value.int r)).toList ++ rest) σ' Q) (ds_B cy dC dI ad (va_A (ds_w cy ad Y σ) H.size) Y) (va_A (ds_w cy ad Y σ) H.size) → va_Run p l e (ds_rm y) s m args below meth c H locs 0 0 0 0 (F0 m pc lc st0) (rest.map (ds_v ad)) (ds_Q rt (fun r σ' => ds_X y Y (pc + 3) ls (r.toList ++ rest) σ' Q) cy dC dI ad (va_A (ds_w cy ad Y σ) H.size) Y a) (va_A (ds_w cy ad Y σ) H.size) → W p l e (ds_rm y) s m args below meth c H locs 0 0 (MQ below (ds_Q y.2.2.2.1 Q cy dC dI ad A Y) args s 0 0 A) (F0 m pc lc st0) := by
    intro rt e1 hr
    rw [e1] at hr
    refine va_calli hr hS (fun q _ h => hsub q h) hsub (fun r u t H1 locs1 ht hvm hw hB hz1 hk1 hS1 => ?_)
    exact go (some (.int r)) u t H1 locs1 ht hvm hw hB hS1
  cases rt with
  | none =>
    refine va_callv (a := a) (post := fun σ' => ds_X y Y (pc + 3) ls ((none : Option Value).toList ++ rest) σ' Q) (B := ds_B cy dC dI ad (va_A (ds_w cy ad Y σ) H.size) Y) hr hS (fun q _ h => hsub q h) hsub (fun u t H1 locs1 ht hvm hw hB hz1 hk1 hS1 => ?_)
    exact go none u t H1 locs1 ht hvm hw hB hS1
  | some ty =>
    cases ty with
    | long =>
      refine va_calll (a := a) (post := fun r σ' => ds_X y Y (pc + 3) ls ((some (Value.long r)).toList ++ rest) σ' Q) (B := ds_B cy dC dI ad (va_A (ds_w cy ad Y σ) H.size) Y) hr hS (fun q _ h => hsub q h) hsub (fun r u t H1 locs1 ht hvm hw hB hz1 hk1 hS1 => ?_)
      exact go (some (.long r)) u t H1 locs1 ht hvm hw hB hS1
    | object cn =>
      refine va_callr (a := a) (post := fun u : ds_S × Nat => ds_X y Y (pc + 3) ls ((some (Value.ref u.2)).toList ++ rest) u.1 Q) (B := fun u a t => a = ad u.2 ∧ ds_B cy dC dI ad (va_A (ds_w cy ad Y σ) H.size) Y u.1 t) hr hS (fun q _ h => hsub q h) hsub (fun u ra t H1 locs1 ht hvm hw hB hz1 hk1 hS1 => ?_)
      obtain ⟨rfl, hB⟩ := hB
      exact go (some (.ref u.2)) u.1 t H1 locs1 ht hvm hw hB hS1
    | _ => exact hi rfl hr
/-- what a call needs of the tables and of the room -/
def ds_cw (y z : ds_M) (n : Nat) : Prop := Cond.code z.1 z.2.1 z.2.2.1 z.2.2.2.1 ∈ ds_T ∧ Cond.initialized z.1.cls ∈ ds_T ∧ (z.1.cls ≠ "java/lang/invoke/MethodHandle" ∧ z.1.cls ≠ "java/lang/invoke/VarHandle" ∧ (parseMethodDescriptor z.1.desc).map (fun d => d.parameters.length) = some n) ∧ z.2.2.2.2.1 + 1 ≤ y.2.2.2.2.1 ∧ 8 + (z.2.2.1 + 11) + z.2.2.2.2.2 ≤ y.2.2.2.2.2
theorem ds_pre {p : Program} {s : State} {m : MethodId} {args : Array Value} {meth : Method} {c : Code} {cy : Nat → ClassId} {dC : Nat → ClassId} {dI : Nat → Nat → Nat} {ad : Nat → Nat} {A : Nat → Prop} {H : Heap} (as : List Value) (C : ds_C y p s m args meth c cy dC dI A) (hP : va_P (dC, dI) vwCl (ds_w cy ad Y σ) H) (hD : va_D A (ds_w cy ad Y σ)) (U : State) (hU : U.heap = H) (hW : s.WarmedH U.vm) : ds_Pc as cy dC dI ad Y σ H.size (as.map (ds_v ad)).toArray U :=
  ⟨rfl, by rw [hU], by rw [hU]; exact hP, va_K.moved hW.alike C.2.2.2.2.2.2.2.1, C.2.2.2.2.2.2.2.2.1.warm hW, hD.weaken (fun _ _ _ _ => trivial)⟩
/-- invokevirtual -/
theorem ds_callV {idx ci b : Nat} {as : List Value} (hd : decode y.2.1 pc = .ok (.invokevirtual idx, 3)) (hE : ds_E z Y (.ref b :: as) σ (fun r σ' => ds_X y Y (pc + 3) ls (r.toList ++ rest) σ' Q)) (hw : ds_cw y z as.length) (hl1 : Cond.methodLink y.1.cls idx z.1 ∈ ds_T) (hl2 : Cond.instanceMethod z.1 ∈ ds_T) (hl3 : Cond.selects z.1.cls z.1 z.1 ∈ ds_T) (hb : b < Y.1) (hk : Y.2.1 b = ci) (hq : ∃ q : vw_C, vwCl[ci]? = some q ∧ q.1 = z.1.cls) (hsum : (rest.map fun v => v.category).sum ≤ 8) : ds_X y Y pc ls (as.reverse ++ .ref b :: rest) σ Q := by
  intro p l e s m args below meth c cy dC dI ad A C H locs hP hD hS lc hl
  have C0 := C
  obtain ⟨hx, hb', hml, hret, hlocks, hts, hown, hK, hN, hA⟩ := C
  obtain ⟨w1, w2, w3, w4, w5⟩ := hw
  obtain ⟨q, q1, q2⟩ := hq
  have he := ds_w_at (cy := cy) (ad := ad) (σ := σ) hb
  rw [ds_e_obj hk (ds_ci q1)] at he
  have hrec := va_recv hK hP q1 he
  rw [q2] at hrec
  have cw : CallW (ds_rm y) s args y.1.cls z.1.cls idx z.1 z.2.1 z.2.2.1 z.2.2.2.1 (ds_ws z) (ds_rm z) 0 0 as.length := ⟨callB_of as.length hts (ds_T_good w1) rfl rfl rfl (hts _ w2) (hts _ hl1) w3 ⟨w4, w5⟩, hts _ hl2, hts _ hl3⟩
  have hr := va_runV (p := p) (e := e) (below := below) (meth := meth) (H := H) (locs := locs) (cells := 0) (slots := 0) (nL := y.2.2.1) (cc := y.2.1) (Ts := ds_T) (As := as.map (ds_v ad)) (b := ad b) (rest := rest.map (ds_v ad)) (g := F0 m pc lc ((as.reverse ++ .ref b :: rest).map (ds_v ad))) ⟨hx, hb', hml, hown, hts⟩ (hE l cy dC dI ad H.size) cw ⟨ds_blind, hrec, fun U hU hW => ds_pre (.ref b :: as) C0 hP hD U hU hW⟩ rfl (by simp) hl.2.1 (by simp [ds_v]) (lv_room (by rw [ds_catsum]; exact hsum)) hd ⟨Nat.le_refl _, Nat.le_refl _⟩
  exact ds_after C0 hD hS hl hr
/-- invokestatic -/
theorem ds_callS {idx : Nat} {as : List Value} (hd : decode y.2.1 pc = .ok (.invokestatic idx, 3)) (hE : ds_E z Y as σ (fun r σ' => ds_X y Y (pc + 3) ls (r.toList ++ rest) σ' Q)) (hw : ds_cw y z as.length) (hl1 : Cond.methodLink y.1.cls idx z.1 ∈ ds_T) (hl2 : Cond.static z.1 ∈ ds_T) (hsum : (rest.map fun v => v.category).sum ≤ 8) : ds_X y Y pc ls (as.reverse ++ rest) σ Q := by
  intro p l e s m args below meth c cy dC dI ad A C H locs hP hD hS lc hl
  have C0 := C
  obtain ⟨hx, hb', hml, hret, hlocks, hts, hown, hK, hN, hA⟩ := C
  obtain ⟨w1, w2, w3, w4, w5⟩ := hw
  have cw : CallB (ds_rm y) s args y.1.cls idx z.1 z.2.1 z.2.2.1 z.2.2.2.1 (ds_ws z) (ds_rm z) 0 0 as.length ∧ (Cond.static z.1).before args s = true := ⟨callB_of as.length hts (ds_T_good w1) rfl rfl rfl (hts _ w2) (hts _ hl1) w3 ⟨w4, w5⟩, hts _ hl2⟩
  have hr := va_runS (p := p) (e := e) (below := below) (meth := meth) (H := H) (locs := locs) (cells := 0) (slots := 0) (nL := y.2.2.1) (cc := y.2.1) (Ts := ds_T) (As := as.map (ds_v ad)) (rest := rest.map (ds_v ad)) (g := F0 m pc lc ((as.reverse ++ rest).map (ds_v ad))) ⟨hx, hb', hml, hown, hts⟩ (hE l cy dC dI ad H.size) cw ⟨ds_blind, fun U hU hW => ds_pre as C0 hP hD U hU hW⟩ rfl (by simp) hl.2.1 (by simp) (lv_room (by rw [ds_catsum]; exact hsum)) hd ⟨Nat.le_refl _, Nat.le_refl _⟩
  exact ds_after C0 hD hS hl hr
/-- invokestatic of a nest mate's private method -/
theorem ds_callN {idx : Nat} {as : List Value} (hd : decode y.2.1 pc = .ok (.invokestatic idx, 3)) (hE : ds_E z Y as σ (fun r σ' => ds_X y Y (pc + 3) ls (r.toList ++ rest) σ' Q)) (hw : ds_cw y z as.length) (hl1 : (y.1.cls, idx, z.1) ∈ ds_N) (hl2 : Cond.static z.1 ∈ ds_T) (hsum : (rest.map fun v => v.category).sum ≤ 8) : ds_X y Y pc ls (as.reverse ++ rest) σ Q := by
  intro p l e s m args below meth c cy dC dI ad A C H locs hP hD hS lc hl
  have C0 := C
  obtain ⟨hx, hb', hml, hret, hlocks, hts, hown, hK, hN, hA⟩ := C
  obtain ⟨w1, w2, w3, w4, w5⟩ := hw
  have cw : va_CN (ds_rm y) s args y.1.cls idx z.1 "WayWeights" z.2.1 z.2.2.1 z.2.2.2.1 (ds_ws z) (ds_rm z) 0 0 as.length ∧ (Cond.static z.1).before args s = true ∧ True := ⟨va_cnB as.length hts (ds_T_good w1) rfl rfl rfl (hN _ hl1) (hts _ w2) w3 ⟨w4, w5⟩, hts _ hl2, trivial⟩
  have hr := va_runSN (p := p) (e := e) (below := below) (meth := meth) (H := H) (locs := locs) (cells := 0) (slots := 0) (nL := y.2.2.1) (cc := y.2.1) (Ts := ds_T) (As := as.map (ds_v ad)) (rest := rest.map (ds_v ad)) (g := F0 m pc lc ((as.reverse ++ rest).map (ds_v ad))) ⟨hx, hb', hml, hown, hts⟩ (hE l cy dC dI ad H.size) cw ⟨ds_blind, fun U hU hW => ds_pre as C0 hP hD U hU hW⟩ rfl (by simp) hl.2.1 (by simp) (lv_room (by rw [ds_catsum]; exact hsum)) hd ⟨Nat.le_refl _, Nat.le_refl _⟩
  exact ds_after C0 hD hS hl hr
end DSC
end
section
/-- a cell is of a kind -/
def ds_k (Y : ds_Y) (c k : Nat) : Prop := c < Y.1 ∧ Y.2.1 c = k
def ds_all : List Prop → Prop
  | [] => True
  | p :: r => p ∧ ds_all r
theorem ds_all_app {a b : List Prop} (h : ds_all (a ++ b)) : ds_all a ∧ ds_all b := by
  induction a with
  | nil => exact ⟨trivial, h⟩
  | cons p r ih => exact ⟨⟨h.1, (ih h.2).1⟩, (ih h.2).2⟩
abbrev ds_O : Type := Option (ds_L × List Value × ds_S × List Prop)
/-- loads of locals -/
def ds_ld (ls : ds_L) (st : List Value) (σ : ds_S) (t : Value → Bool) (n : Nat) : ds_O := match ds_at ls n with
  | some v => if t v = true then some (ls, v :: st, σ, []) else none
  | none => none
def ds_ti : Value → Bool
  | .int _ => true
  | _ => false
def ds_tl : Value → Bool
  | .long _ => true
  | _ => false
def ds_tr : Value → Bool
  | .ref _ => true
  | _ => false
def ds_t1 (v : Value) : Bool := ds_ti v || ds_tr v
def ds_sto (ls : ds_L) (st : List Value) (σ : ds_S) (t : Value → Bool) (n : Nat) : ds_O := match st with
  | v :: r => if t v = true ∧ n < ls.length then some (ds_put ls n v, r, σ, []) else none
  | [] => none
def ds_sto2 (ls : ds_L) (st : List Value) (σ : ds_S) (n : Nat) : ds_O := match st with
  | .long x :: r => if n + 1 < ls.length then some (ds_put2 ls n (.long x), r, σ, []) else none
  | _ => none
def ds_b32 (f : Int32 → Int32 → Int32) (g : Int32 → List Prop) (ls : ds_L) (st : List Value) (σ : ds_S) : ds_O := match st with
  | .int z :: .int x :: r => some (ls, .int (f x z) :: r, σ, g z)
  | _ => none
def ds_b64 (f : Int64 → Int64 → Int64) (g : Int64 → List Prop) (ls : ds_L) (st : List Value) (σ : ds_S) : ds_O := match st with
  | .long z :: .long x :: r => some (ls, .long (f x z) :: r, σ, g z)
  | _ => none
def ds_rd (Y : ds_Y) (f : Nat → Nat → Value) (k : Nat) (ls : ds_L) (st : List Value) (σ : ds_S) : ds_O := match st with
  | .int i :: .ref c :: r => some (ls, f c i.toNatClampNeg :: r, σ, [ds_k Y c k, vp_in i (Y.2.2.1 c)])
  | _ => none
def ds_gf (Y : ds_Y) (ci k : Nat) (ls : ds_L) (st : List Value) (σ : ds_S) : ds_O := match st with
  | .ref c :: r => (match (ds_fc ci)[k]? with
    | some 0 => some (ls, .int (σ.1 c k) :: r, σ, [ds_k Y c ci])
    | some 1 => some (ls, .long (σ.2 c k) :: r, σ, [ds_k Y c ci])
    | some 2 => some (ls, .int (σ.1 c k) :: r, σ, [ds_k Y c ci])
    | some 3 => some (ls, .ref (Y.2.2.2 c k) :: r, σ, [ds_k Y c ci])
    | _ => none)
  | _ => none
def ds_pf (Y : ds_Y) (ci k : Nat) (ls : ds_L) (st : List Value) (σ : ds_S) : ds_O := match st with
  | .int x :: .ref c :: r => (match (ds_fc ci)[k]? with
    | some 0 => some (ls, r, ds_si σ c (upd (σ.1 c) k x), [ds_k Y c ci])
    | some 2 => some (ls, r, ds_si σ c (upd (σ.1 c) k x), [ds_k Y c ci, x = 0 ∨ x = 1])
    | _ => none)
  | .long x :: .ref c :: r => (match (ds_fc ci)[k]? with
    | some 1 => some (ls, r, ds_sl σ c (vp_updL (σ.2 c) k x), [ds_k Y c ci])
    | _ => none)
  | _ => none
/-- one instruction that goes on to the next -/
def ds_step (Y : ds_Y) (i : ds_I) (ls : ds_L) (st : List Value) (σ : ds_S) : ds_O := match i.2.1 with
  | .iconst _ => some (ls, i.2.2.2.2.2.2 :: st, σ, [])
  | .bipush _ => some (ls, i.2.2.2.2.2.2 :: st, σ, [])
  | .sipush _ => some (ls, i.2.2.2.2.2.2 :: st, σ, [])
  | .lconst _ => some (ls, i.2.2.2.2.2.2 :: st, σ, [])
  | .ldc _ => some (ls, i.2.2.2.2.2.2 :: st, σ, [])
  | .ldc2_w _ => some (ls, i.2.2.2.2.2.2 :: st, σ, [])
  | .iload n => ds_ld ls st σ ds_ti n
  | .iload_n n => ds_ld ls st σ ds_ti n
  | .lload n => ds_ld ls st σ ds_tl n
  | .lload_n n => ds_ld ls st σ ds_tl n
  | .aload n => ds_ld ls st σ ds_tr n
  | .aload_n n => ds_ld ls st σ ds_tr n
  | .istore n => ds_sto ls st σ ds_ti n
  | .istore_n n => ds_sto ls st σ ds_ti n
  | .astore n => ds_sto ls st σ ds_tr n
  | .astore_n n => ds_sto ls st σ ds_tr n
  | .lstore n => ds_sto2 ls st σ n
  | .lstore_n n => ds_sto2 ls st σ n
  | .iinc n _ => (match ds_at ls n, i.2.2.2.2.2.2 with
    | some (.int x), .int v => some (ds_put ls n (.int (x + v)), st, σ, [])
    | _, _ => none)
  | .iadd => ds_b32 (fun x z => x + z) (fun _ => []) ls st σ
  | .isub => ds_b32 (fun x z => x - z) (fun _ => []) ls st σ
  | .imul => ds_b32 (fun x z => x * z) (fun _ => []) ls st σ
  | .iand => ds_b32 (fun x z => x &&& z) (fun _ => []) ls st σ
  | .ior => ds_b32 (fun x z => x ||| z) (fun _ => []) ls st σ
  | .ixor => ds_b32 (fun x z => x ^^^ z) (fun _ => []) ls st σ
  | .ishl => ds_b32 (fun x z => x <<< (z &&& 31)) (fun _ => []) ls st σ
  | .ishr => ds_b32 (fun x z => x >>> (z &&& 31)) (fun _ => []) ls st σ
  | .idiv => ds_b32 (fun x z => x / z) (fun z => [¬ z = 0]) ls st σ
  | .irem => ds_b32 (fun x z => x - x / z * z) (fun z => [¬ z = 0]) ls st σ
  | .ladd => ds_b64 (fun x z => x + z) (fun _ => []) ls st σ
  | .lsub => ds_b64 (fun x z => x - z) (fun _ => []) ls st σ
  | .lmul => ds_b64 (fun x z => x * z) (fun _ => []) ls st σ
  | .ldiv => ds_b64 (fun x z => x / z) (fun z => [¬ z = 0]) ls st σ
  | .lrem => ds_b64 (fun x z => x - x / z * z) (fun z => [¬ z = 0]) ls st σ
  | .lcmp => (match st with
    | .long z :: .long x :: r => some (ls, .int (lg_cmp x z) :: r, σ, [])
    | _ => none)
  | .ineg => (match st with
    | .int x :: r => some (ls, .int (-x) :: r, σ, [])
    | _ => none)
  | .lneg => (match st with
    | .long x :: r => some (ls, .long (-x) :: r, σ, [])
    | _ => none)
  | .i2l => (match st with
    | .int x :: r => some (ls, .long x.toInt64 :: r, σ, [])
    | _ => none)
  | .l2i => (match st with
    | .long x :: r => some (ls, .int x.toInt32 :: r, σ, [])
    | _ => none)
  | .dup => (match st with
    | v :: r => if ds_t1 v = true then some (ls, v :: v :: r, σ, []) else none
    | _ => none)
  | .dup2 => (match st with
    | v :: w :: r => if ds_t1 v = true ∧ ds_t1 w = true then some (ls, v :: w :: v :: w :: r, σ, []) else none
    | _ => none)
  | .getfield _ => ds_gf Y i.2.2.2.1 i.2.2.2.2.1 ls st σ
  | .putfield _ => ds_pf Y i.2.2.2.1 i.2.2.2.2.1 ls st σ
  | .iaload => ds_rd Y (fun c j => .int (σ.1 c j)) 10 ls st σ
  | .baload => ds_rd Y (fun c j => .int (σ.1 c j)) 12 ls st σ
  | .laload => ds_rd Y (fun c j => .long (σ.2 c j)) 11 ls st σ
  | .aaload => ds_rd Y (fun c j => .ref (Y.2.2.2 c j)) i.2.2.2.1 ls st σ
  | .arraylength => (match st with
    | .ref c :: r => some (ls, .int (Int32.ofNat (Y.2.2.1 c)) :: r, σ, [ds_k Y c i.2.2.2.1])
    | _ => none)
  | .iastore => (match st with
    | .int x :: .int j :: .ref c :: r => some (ls, r, ds_si σ c (upd (σ.1 c) j.toNatClampNeg x), [ds_k Y c 10, vp_in j (Y.2.2.1 c)])
    | _ => none)
  | .bastore => (match st with
    | .int x :: .int j :: .ref c :: r => some (ls, r, ds_si σ c (upd (σ.1 c) j.toNatClampNeg (vp_nar .boolean x)), [ds_k Y c 12, vp_in j (Y.2.2.1 c)])
    | _ => none)
  | .lastore => (match st with
    | .long x :: .int j :: .ref c :: r => some (ls, r, ds_sl σ c (vp_updL (σ.2 c) j.toNatClampNeg x), [ds_k Y c 11, vp_in j (Y.2.2.1 c)])
    | _ => none)
  | _ => none
/-- what the tables and the bytes must say of it -/
def ds_okx (y : ds_M) (i : ds_I) : Prop := match i.2.1 with
  | .iconst n => i.2.2.1 = 1 ∧ i.2.2.2.2.2.2 = .int (Int32.ofInt n)
  | .bipush n => i.2.2.1 = 2 ∧ i.2.2.2.2.2.2 = .int (Int8.ofInt n).toInt32
  | .sipush n => i.2.2.1 = 3 ∧ i.2.2.2.2.2.2 = .int (Int16.ofInt n).toInt32
  | .lconst n => i.2.2.1 = 1 ∧ i.2.2.2.2.2.2 = .long (Int64.ofNat n)
  | .ldc n => i.2.2.1 = 2 ∧ ∃ v, i.2.2.2.2.2.2 = .int v ∧ Cond.constant y.1.cls n v ∈ ds_T
  | .ldc2_w n => i.2.2.1 = 3 ∧ ∃ v, i.2.2.2.2.2.2 = .long v ∧ Cond.constantLong y.1.cls n v ∈ ds_T
  | .iload _ => i.2.2.1 = 2
  | .lload _ => i.2.2.1 = 2
  | .aload _ => i.2.2.1 = 2
  | .istore _ => i.2.2.1 = 2
  | .lstore _ => i.2.2.1 = 2
  | .astore _ => i.2.2.1 = 2
  | .iinc _ n => i.2.2.1 = 3 ∧ i.2.2.2.2.2.2 = .int (Int32.ofInt n)
  | .getfield idx => i.2.2.1 = 3 ∧ ds_fld y idx i.2.2.2.1 i.2.2.2.2.1
  | .putfield idx => i.2.2.1 = 3 ∧ ds_fld y idx i.2.2.2.1 i.2.2.2.2.1 ∧ ((ds_fc i.2.2.2.1)[i.2.2.2.2.1]? = some 0 → ds_fldP i.2.2.2.1 i.2.2.2.2.1 .int) ∧ ((ds_fc i.2.2.2.1)[i.2.2.2.2.1]? = some 1 → ds_fldP i.2.2.2.1 i.2.2.2.2.1 .long) ∧ ((ds_fc i.2.2.2.1)[i.2.2.2.2.1]? = some 2 → ds_fldP i.2.2.2.1 i.2.2.2.2.1 .boolean)
  | .aaload => i.2.2.1 = 1 ∧ (i.2.2.2.1 = 13 ∨ i.2.2.2.1 = 14)
  | .arraylength => i.2.2.1 = 1 ∧ (i.2.2.2.1 = 10 ∨ i.2.2.2.1 = 11)
  | .goto _ => True
  | .ifCond _ _ => True
  | .if_icmp _ _ => True
  | .invokevirtual _ => True
  | .invokestatic _ => True
  | .tableswitch _ _ _ _ => True
  | _ => i.2.2.1 = 1
def ds_ok (y : ds_M) (i : ds_I) : Prop := decode y.2.1 i.1 = .ok (i.2.1, i.2.2.1) ∧ ds_okx y i
theorem ds_t1_cat {v : Value} (h : ds_t1 v = true) : v.category = 1 := by cases v <;> first | rfl | cases h
theorem ds_ld_some {ls ls' : ds_L} {st st' : List Value} {σ σ' : ds_S} {t : Value → Bool} {n : Nat} {ob : List Prop} (h : ds_ld ls st σ t n = some (ls', st', σ', ob)) : ∃ v, ds_at ls n = some v ∧ t v = true ∧ ls' = ls ∧ st' = v :: st ∧ σ' = σ := by
  unfold ds_ld at h
  cases hv : ds_at ls n with
  | none => rw [hv] at h; cases h
  | some v =>
    rw [hv] at h
    by_cases ht : t v = true
    · simp only [if_pos ht, Option.some.injEq, Prod.mk.injEq] at h
      exact ⟨v, rfl, ht, h.1.symm, h.2.1.symm, h.2.2.1.symm⟩
    · simp only [if_neg ht] at h; cases h
theorem ds_sto_some {ls ls' : ds_L} {st st' : List Value} {σ σ' : ds_S} {t : Value → Bool} {n : Nat} {ob : List Prop} (h : ds_sto ls st σ t n = some (ls', st', σ', ob)) : ∃ v, st = v :: st' ∧ t v = true ∧ n < ls.length ∧ ls' = ds_put ls n v ∧ σ' = σ := by
  unfold ds_sto at h
  cases st with
  | nil => cases h
  | cons v r =>
    by_cases ht : t v = true ∧ n < ls.length
    · simp only [if_pos ht, Option.some.injEq, Prod.mk.injEq] at h
      exact ⟨v, by rw [h.2.1], ht.1, ht.2, h.1.symm, h.2.2.1.symm⟩
    · simp only [if_neg ht] at h; cases h
theorem ds_sto2_some {ls ls' : ds_L} {st st' : List Value} {σ σ' : ds_S} {n : Nat} {ob : List Prop} (h : ds_sto2 ls st σ n = some (ls', st', σ', ob)) : ∃ x, st = .long x :: st' ∧ n + 1 < ls.length ∧ ls' = ds_put2 ls n (.long x) ∧ σ' = σ := by
  unfold ds_sto2 at h
  split at h
  · next x r =>
    by_cases ht : n + 1 < ls.length
    · simp only [if_pos ht, Option.some.injEq, Prod.mk.injEq] at h
      exact ⟨x, by rw [h.2.1], ht, h.1.symm, h.2.2.1.symm⟩
    · simp only [if_neg ht] at h; cases h
  · cases h
theorem ds_b32_some {f : Int32 → Int32 → Int32} {g : Int32 → List Prop} {ls ls' : ds_L} {st st' : List Value} {σ σ' : ds_S} {ob : List Prop} (h : ds_b32 f g ls st σ = some (ls', st', σ', ob)) : ∃ z x r, st = .int z :: .int x :: r ∧ st' = .int (f x z) :: r ∧ ls' = ls ∧ σ' = σ ∧ ob = g z := by
  unfold ds_b32 at h
  split at h
  · next z x r =>
    simp only [Option.some.injEq, Prod.mk.injEq] at h
    exact ⟨z, x, r, rfl, h.2.1.symm, h.1.symm, h.2.2.1.symm, h.2.2.2.symm⟩
  · cases h
theorem ds_b64_some {f : Int64 → Int64 → Int64} {g : Int64 → List Prop} {ls ls' : ds_L} {st st' : List Value} {σ σ' : ds_S} {ob : List Prop} (h : ds_b64 f g ls st σ = some (ls', st', σ', ob)) : ∃ z x r, st = .long z :: .long x :: r ∧ st' = .long (f x z) :: r ∧ ls' = ls ∧ σ' = σ ∧ ob = g z := by
  unfold ds_b64 at h
  split at h
  · next z x r =>
    simp only [Option.some.injEq, Prod.mk.injEq] at h
    exact ⟨z, x, r, rfl, h.2.1.symm, h.1.symm, h.2.2.1.symm, h.2.2.2.symm⟩
  · cases h
theorem ds_rd_some {Y : ds_Y} {f : Nat → Nat → Value} {k : Nat} {ls ls' : ds_L} {st st' : List Value} {σ σ' : ds_S} {ob : List Prop} (h : ds_rd Y f k ls st σ = some (ls', st', σ', ob)) : ∃ i c r, st = .int i :: .ref c :: r ∧ st' = f c i.toNatClampNeg :: r ∧ ls' = ls ∧ σ' = σ ∧ ob = [ds_k Y c k, vp_in i (Y.2.2.1 c)] := by
  unfold ds_rd at h
  split at h
  · next i c r =>
    simp only [Option.some.injEq, Prod.mk.injEq] at h
    exact ⟨i, c, r, rfl, h.2.1.symm, h.1.symm, h.2.2.1.symm, h.2.2.2.symm⟩
  · cases h
theorem ds_ti_e {v : Value} (h : ds_ti v = true) : ∃ x, v = .int x := by cases v <;> first | exact ⟨_, rfl⟩ | cases h
theorem ds_tl_e {v : Value} (h : ds_tl v = true) : ∃ x, v = .long x := by cases v <;> first | exact ⟨_, rfl⟩ | cases h
theorem ds_tr_e {v : Value} (h : ds_tr v = true) : ∃ x, v = .ref x := by cases v <;> first | exact ⟨_, rfl⟩ | cases h
set_option maxHeartbeats 4000000 in
theorem ds_step_ok {y : ds_M} {Y : ds_Y} {i : ds_I} {ls ls' : ds_L} {st st' : List Value} {σ σ' : ds_S} {ob : List Prop} {Q : Option Value → ds_S → Prop} (hok : ds_ok y i) (h : ds_step Y i ls st σ = some (ls', st', σ', ob)) (hob : ds_all ob) (k : ds_X y Y (i.1 + i.2.2.1) ls' st' σ' Q) : ds_X y Y i.1 ls st σ Q := by
  obtain ⟨hd, hx⟩ := hok
  obtain ⟨pc, ins, len, r1, r2, r3, v⟩ := i
  dsimp only at hd hx k ⊢
  unfold ds_step at h
  unfold ds_okx at hx
  dsimp only at h hx
  cases ins
  case iconst n =>
    obtain ⟨rfl, rfl⟩ := hx
    cases h
    exact ds_iconst hd rfl k
  case bipush n =>
    obtain ⟨rfl, rfl⟩ := hx
    cases h
    exact ds_bipush hd rfl k
  case sipush n =>
    obtain ⟨rfl, rfl⟩ := hx
    cases h
    exact ds_sipush hd rfl k
  case lconst n =>
    obtain ⟨rfl, rfl⟩ := hx
    cases h
    exact ds_lconst hd rfl k
  case ldc n =>
    obtain ⟨rfl, w, rfl, hw⟩ := hx
    cases h
    exact ds_ldc hd hw k
  case ldc2_w n =>
    obtain ⟨rfl, w, rfl, hw⟩ := hx
    cases h
    exact ds_ldc2 hd hw k
  case iload n =>
    subst hx
    obtain ⟨w, h1, h2, rfl, rfl, rfl⟩ := ds_ld_some h
    obtain ⟨x, rfl⟩ := ds_ti_e h2
    exact ds_iload hd h1 k
  case iload_n n =>
    subst hx
    obtain ⟨w, h1, h2, rfl, rfl, rfl⟩ := ds_ld_some h
    obtain ⟨x, rfl⟩ := ds_ti_e h2
    exact ds_iload_n hd h1 k
  case lload n =>
    subst hx
    obtain ⟨w, h1, h2, rfl, rfl, rfl⟩ := ds_ld_some h
    obtain ⟨x, rfl⟩ := ds_tl_e h2
    exact ds_lload hd h1 k
  case lload_n n =>
    subst hx
    obtain ⟨w, h1, h2, rfl, rfl, rfl⟩ := ds_ld_some h
    obtain ⟨x, rfl⟩ := ds_tl_e h2
    exact ds_lload_n hd h1 k
  case aload n =>
    subst hx
    obtain ⟨w, h1, h2, rfl, rfl, rfl⟩ := ds_ld_some h
    obtain ⟨x, rfl⟩ := ds_tr_e h2
    exact ds_aload hd h1 k
  case aload_n n =>
    subst hx
    obtain ⟨w, h1, h2, rfl, rfl, rfl⟩ := ds_ld_some h
    obtain ⟨x, rfl⟩ := ds_tr_e h2
    exact ds_aload_n hd h1 k
  case istore n =>
    subst hx
    obtain ⟨w, rfl, h2, h3, rfl, rfl⟩ := ds_sto_some h
    obtain ⟨x, rfl⟩ := ds_ti_e h2
    exact ds_istore hd h3 k
  case istore_n n =>
    subst hx
    obtain ⟨w, rfl, h2, h3, rfl, rfl⟩ := ds_sto_some h
    obtain ⟨x, rfl⟩ := ds_ti_e h2
    exact ds_istore_n hd h3 k
  case astore n =>
    subst hx
    obtain ⟨w, rfl, h2, h3, rfl, rfl⟩ := ds_sto_some h
    obtain ⟨x, rfl⟩ := ds_tr_e h2
    exact ds_astore hd h3 k
  case astore_n n =>
    subst hx
    obtain ⟨w, rfl, h2, h3, rfl, rfl⟩ := ds_sto_some h
    obtain ⟨x, rfl⟩ := ds_tr_e h2
    exact ds_astore_n hd h3 k
  case lstore n =>
    subst hx
    obtain ⟨x, rfl, h3, rfl, rfl⟩ := ds_sto2_some h
    exact ds_lstore hd h3 k
  case lstore_n n =>
    subst hx
    obtain ⟨x, rfl, h3, rfl, rfl⟩ := ds_sto2_some h
    exact ds_lstore_n hd h3 k
  case iinc n z =>
    try dsimp only at h
    obtain ⟨rfl, rfl⟩ := hx
    split at h
    · next x w h1 h2 =>
      cases h2
      cases h
      exact ds_iinc hd rfl h1 k
    · cases h
  case iadd =>
    subst hx
    obtain ⟨z, x, r, rfl, rfl, rfl, rfl, rfl⟩ := ds_b32_some h
    exact ds_iadd hd k
  case isub =>
    subst hx
    obtain ⟨z, x, r, rfl, rfl, rfl, rfl, rfl⟩ := ds_b32_some h
    exact ds_isub hd k
  case imul =>
    subst hx
    obtain ⟨z, x, r, rfl, rfl, rfl, rfl, rfl⟩ := ds_b32_some h
    exact ds_imul hd k
  case iand =>
    subst hx
    obtain ⟨z, x, r, rfl, rfl, rfl, rfl, rfl⟩ := ds_b32_some h
    exact ds_iand hd k
  case ior =>
    subst hx
    obtain ⟨z, x, r, rfl, rfl, rfl, rfl, rfl⟩ := ds_b32_some h
    exact ds_ior hd k
  case ixor =>
    subst hx
    obtain ⟨z, x, r, rfl, rfl, rfl, rfl, rfl⟩ := ds_b32_some h
    exact ds_ixor hd k
  case ishl =>
    subst hx
    obtain ⟨z, x, r, rfl, rfl, rfl, rfl, rfl⟩ := ds_b32_some h
    exact ds_ishl hd k
  case ishr =>
    subst hx
    obtain ⟨z, x, r, rfl, rfl, rfl, rfl, rfl⟩ := ds_b32_some h
    exact ds_ishr hd k
  case idiv =>
    subst hx
    obtain ⟨z, x, r, rfl, rfl, rfl, rfl, rfl⟩ := ds_b32_some h
    exact ds_idiv hd hob.1 k
  case irem =>
    subst hx
    obtain ⟨z, x, r, rfl, rfl, rfl, rfl, rfl⟩ := ds_b32_some h
    exact ds_irem hd hob.1 k
  case ladd =>
    subst hx
    obtain ⟨z, x, r, rfl, rfl, rfl, rfl, rfl⟩ := ds_b64_some h
    exact ds_ladd hd k
  case lsub =>
    subst hx
    obtain ⟨z, x, r, rfl, rfl, rfl, rfl, rfl⟩ := ds_b64_some h
    exact ds_lsub hd k
  case lmul =>
    subst hx
    obtain ⟨z, x, r, rfl, rfl, rfl, rfl, rfl⟩ := ds_b64_some h
    exact ds_lmul hd k
  case ldiv =>
    subst hx
    obtain ⟨z, x, r, rfl, rfl, rfl, rfl, rfl⟩ := ds_b64_some h
    exact ds_ldiv hd hob.1 k
  case lrem =>
    subst hx
    obtain ⟨z, x, r, rfl, rfl, rfl, rfl, rfl⟩ := ds_b64_some h
    exact ds_lrem hd hob.1 k
  case lcmp =>
    try dsimp only at h
    subst hx
    split at h
    · cases h
      exact ds_lcmp hd k
    · cases h
  case ineg =>
    try dsimp only at h
    subst hx
    split at h
    · cases h
      exact ds_ineg hd k
    · cases h
  case lneg =>
    try dsimp only at h
    subst hx
    split at h
    · cases h
      exact ds_lneg hd k
    · cases h
  case i2l =>
    try dsimp only at h
    subst hx
    split at h
    · cases h
      exact ds_i2l hd k
    · cases h
  case l2i =>
    try dsimp only at h
    subst hx
    split at h
    · cases h
      exact ds_l2i hd k
    · cases h
  case dup =>
    try dsimp only at h
    subst hx
    split at h
    · next w r =>
      by_cases hw : ds_t1 w = true
      · rw [if_pos hw] at h; cases h; exact ds_dup hd (ds_t1_cat hw) k
      · rw [if_neg hw] at h; cases h
    · cases h
  case dup2 =>
    try dsimp only at h
    subst hx
    split at h
    · next w u r =>
      by_cases hw : ds_t1 w = true ∧ ds_t1 u = true
      · rw [if_pos hw] at h; cases h; exact ds_dup2 hd (ds_t1_cat hw.1) (ds_t1_cat hw.2) k
      · rw [if_neg hw] at h; cases h
    · cases h
  case getfield n =>
    try dsimp only at h
    obtain ⟨rfl, hw⟩ := hx
    unfold ds_gf at h
    split at h
    · next c r =>
      split at h
      · next hf => cases h; exact ds_getI hd hw hob.1.1 hob.1.2 hf (Or.inl rfl) k
      · next hf => cases h; exact ds_getL hd hw hob.1.1 hob.1.2 hf k
      · next hf => cases h; exact ds_getI hd hw hob.1.1 hob.1.2 hf (Or.inr rfl) k
      · next hf => cases h; exact ds_getR hd hw hob.1.1 hob.1.2 hf k
      · cases h
    · cases h
  case putfield n =>
    try dsimp only at h
    obtain ⟨rfl, hw, p0, p1, p2⟩ := hx
    unfold ds_pf at h
    split at h
    · next x c r =>
      split at h
      · next hf => cases h; exact ds_putI hd hw (p0 hf) hob.1.1 hob.1.2 hf k
      · next hf => cases h; exact ds_putZ hd hw (p2 hf) hob.1.1 hob.1.2 hf hob.2.1 k
      · cases h
    · next x c r =>
      split at h
      · next hf => cases h; exact ds_putL hd hw (p1 hf) hob.1.1 hob.1.2 hf k
      · cases h
    · cases h
  case iaload =>
    subst hx
    obtain ⟨j, c, r, rfl, rfl, rfl, rfl, rfl⟩ := ds_rd_some h
    exact ds_iald hd hob.1.1 hob.1.2 hob.2.1 k
  case baload =>
    subst hx
    obtain ⟨j, c, r, rfl, rfl, rfl, rfl, rfl⟩ := ds_rd_some h
    exact ds_zald hd hob.1.1 hob.1.2 hob.2.1 k
  case laload =>
    subst hx
    obtain ⟨j, c, r, rfl, rfl, rfl, rfl, rfl⟩ := ds_rd_some h
    exact ds_lald hd hob.1.1 hob.1.2 hob.2.1 k
  case aaload =>
    obtain ⟨rfl, hr⟩ := hx
    obtain ⟨j, c, r, rfl, rfl, rfl, rfl, rfl⟩ := ds_rd_some h
    exact ds_aald hd hob.1.1 (by rw [hob.1.2]; exact hr) hob.2.1 k
  case arraylength =>
    try dsimp only at h
    obtain ⟨rfl, hr⟩ := hx
    split at h
    · cases h
      exact ds_alen hd hob.1.1 (by rw [hob.1.2]; exact hr) rfl k
    · cases h
  case iastore =>
    try dsimp only at h
    subst hx
    split at h
    · cases h
      exact ds_iast hd hob.1.1 hob.1.2 hob.2.1 k
    · cases h
  case bastore =>
    try dsimp only at h
    subst hx
    split at h
    · cases h
      exact ds_zast hd hob.1.1 hob.1.2 hob.2.1 k
    · cases h
  case lastore =>
    try dsimp only at h
    subst hx
    split at h
    · cases h
      exact ds_last hd hob.1.1 hob.1.2 hob.2.1 k
    · cases h
  all_goals cases h
end
section
/-- n instructions, one behind the other -/
def ds_run (Y : ds_Y) : Nat → List ds_I → ds_L → List Value → ds_S → ds_O
  | 0, _, ls, st, σ => some (ls, st, σ, [])
  | _ + 1, [], _, _, _ => none
  | n + 1, i :: is, ls, st, σ => match ds_step Y i ls st σ with
    | none => none
    | some (ls1, st1, σ1, ob) => match ds_run Y n is ls1 st1 σ1 with
      | none => none
      | some (ls2, st2, σ2, ob2) => some (ls2, st2, σ2, ob ++ ob2)
def ds_pc : List ds_I → Nat
  | [] => 0
  | i :: _ => i.1
def ds_sq (i : ds_I) : List ds_I → Bool
  | [] => true
  | j :: _ => decide (j.1 = i.1 + i.2.2.1)
def ds_seq : List ds_I → Bool
  | [] => true
  | i :: r => ds_sq i r && ds_seq r
def ds_good (y : ds_M) (is : List ds_I) : Prop := (∀ i ∈ is, ds_ok y i) ∧ ds_seq is = true
theorem ds_good.tail {y : ds_M} {i : ds_I} {is : List ds_I} (h : ds_good y (i :: is)) : ds_good y is := by
  refine ⟨fun j hj => h.1 j (List.mem_cons_of_mem _ hj), ?_⟩
  have h2 := h.2
  rw [ds_seq, Bool.and_eq_true] at h2
  exact h2.2
theorem ds_good.drop {y : ds_M} {is : List ds_I} (h : ds_good y is) (n : Nat) : ds_good y (is.drop n) := by
  induction n generalizing is with
  | zero => exact h
  | succ n ih =>
    cases is with
    | nil => exact h
    | cons i r => exact ih h.tail
theorem ds_go {y : ds_M} {Y : ds_Y} {Q : Option Value → ds_S → Prop} : ∀ (n : Nat) (is : List ds_I) (ls ls2 : ds_L) (st st2 : List Value) (σ σ2 : ds_S) (ob : List Prop), ds_good y is → ds_run Y n is ls st σ = some (ls2, st2, σ2, ob) → (is.drop n).isEmpty = false → ds_all ob → ds_X y Y (ds_pc (is.drop n)) ls2 st2 σ2 Q → ds_X y Y (ds_pc is) ls st σ Q := by
  intro n
  induction n with
  | zero =>
    intro is ls ls2 st st2 σ σ2 ob hg hr he hob k
    simp only [ds_run, Option.some.injEq, Prod.mk.injEq] at hr
    obtain ⟨rfl, rfl, rfl, rfl⟩ := hr
    exact k
  | succ n ih =>
    intro is ls ls2 st st2 σ σ2 ob hg hr he hob k
    cases is with
    | nil => simp [ds_run] at hr
    | cons i r =>
      rw [ds_run] at hr
      cases h1 : ds_step Y i ls st σ with
      | none => rw [h1] at hr; cases hr
      | some q =>
        obtain ⟨ls1, st1, σ1, ob1⟩ := q
        rw [h1] at hr
        dsimp only at hr
        cases h2 : ds_run Y n r ls1 st1 σ1 with
        | none => rw [h2] at hr; cases hr
        | some q =>
          obtain ⟨ls3, st3, σ3, ob3⟩ := q
          rw [h2] at hr
          simp only [Option.some.injEq, Prod.mk.injEq] at hr
          obtain ⟨rfl, rfl, rfl, rfl⟩ := hr
          obtain ⟨hb1, hb2⟩ := ds_all_app hob
          have hX := ih r ls1 ls3 st1 st3 σ1 σ3 ob3 hg.tail h2 he hb2 k
          refine ds_step_ok (hg.1 i List.mem_cons_self) h1 hb1 ?_
          have hseq := hg.2
          cases r with
          | nil =>
            cases n with
            | zero => simp at he
            | succ n => simp [ds_run] at h2
          | cons j t =>
            rw [ds_seq, Bool.and_eq_true] at hseq
            have e : j.1 = i.1 + i.2.2.1 := of_decide_eq_true hseq.1
            rw [← e]
            exact hX
/-- a block of a method's instructions, from its a-th on -/
theorem ds_blk {y : ds_M} {Y : ds_Y} {Q : Option Value → ds_S → Prop} {prog : List ds_I} (hg : ds_good y prog) (a n pc pc2 : Nat) {ls ls2 : ds_L} {st st2 : List Value} {σ σ2 : ds_S} (ob : List Prop) (h1 : ds_pc (prog.drop a) = pc) (h2 : ds_pc ((prog.drop a).drop n) = pc2) (he : ((prog.drop a).drop n).isEmpty = false) (hr : ds_run Y n (prog.drop a) ls st σ = some (ls2, st2, σ2, ob)) (hob : ds_all ob) (k : ds_X y Y pc2 ls2 st2 σ2 Q) : ds_X y Y pc ls st σ Q := by
  subst h1; subst h2
  exact ds_go n (prog.drop a) ls ls2 st st2 σ σ2 ob (hg.drop a) hr he hob k
/-- how the a-th instruction decodes -/
theorem ds_dec {y : ds_M} {prog : List ds_I} (hg : ds_good y prog) (a : Nat) {i : ds_I} (h : prog[a]? = some i) : decode y.2.1 i.1 = .ok (i.2.1, i.2.2.1) := (hg.1 i (List.mem_of_getElem? h)).1
/-! the check of a method's instructions, by a program -/
theorem ds_usT : ∀ (ci : Nat) (q : vw_C), vwCl[ci]? = some q → ∀ w ∈ u_ws q.1 q.2.1 q.2.2, w ∈ ds_T := by
  have good : ∀ (C : String) (T : u_T) (N : Nat), ∀ w ∈ u_ws C T N, goodWord w = true := by
    intro C T N w hw
    obtain ⟨k, -, rfl⟩ := List.mem_map.mp hw
    unfold u_lay
    split <;> rfl
  have key : ∀ (C : String) (T : u_T) (N : Nat), (∀ w ∈ u_ws C T N, w ∈ lw_tbl) → ∀ w ∈ u_ws C T N, w ∈ ds_T := fun C T N h w hw => List.mem_filter.mpr ⟨h w hw, good C T N w hw⟩
  intro ci q h
  match ci, h with
  | 0, h => cases h; exact key _ _ _ inX0
  | 1, h => cases h; exact key _ _ _ inX1
  | 2, h => cases h; exact key _ _ _ inX2
  | 3, h => cases h; exact key _ _ _ inX3
  | 4, h => cases h; exact key _ _ _ inX4
  | 5, h => cases h; exact key _ _ _ inX5
  | 6, h => cases h; exact key _ _ _ inX6
  | 7, h => cases h; exact key _ _ _ inX7
  | 8, h => cases h; exact key _ _ _ inX8
  | 9, h => cases h; exact key _ _ _ inX9
  | ci + 10, h => simp [vwCl] at h
theorem ds_nmT : ∀ (ci : Nat) (q : vw_C), vwCl[ci]? = some q → (∃ ty0 : Nat → FieldType, ∀ k, k < q.2.2 → parseFieldDescriptor (q.2.1 k).2.2.1 = some (ty0 k)) ∧ ∀ a, a < q.2.2 → ∀ b, b < q.2.2 → a ≠ b → (q.2.1 a).2.1 ≠ (q.2.1 b).2.1 := by
  intro ci q h
  match ci, h with
  | 0, h => cases h; exact ⟨⟨_, tyX0_ok⟩, nmX0⟩
  | 1, h => cases h; exact ⟨⟨_, tyX1_ok⟩, nmX1⟩
  | 2, h => cases h; exact ⟨⟨_, tyX2_ok⟩, nmX2⟩
  | 3, h => cases h; exact ⟨⟨_, tyX3_ok⟩, nmX3⟩
  | 4, h => cases h; exact ⟨⟨_, tyX4_ok⟩, nmX4⟩
  | 5, h => cases h; exact ⟨⟨_, tyX5_ok⟩, nmX5⟩
  | 6, h => cases h; exact ⟨⟨_, tyX6_ok⟩, nmX6⟩
  | 7, h => cases h; exact ⟨⟨_, tyX7_ok⟩, nmX7⟩
  | 8, h => cases h; exact ⟨⟨_, tyX8_ok⟩, nmX8⟩
  | 9, h => cases h; exact ⟨⟨_, tyX9_ok⟩, nmX9⟩
  | ci + 10, h => simp [vwCl] at h
def ds_wb (p : Nat) (w : Cond) : Bool := decide (lw_tbl[p]? = some w) && goodWord w
theorem ds_wb_T {p : Nat} {w : Cond} (h : ds_wb p w = true) : w ∈ ds_T := by
  simp only [ds_wb, Bool.and_eq_true, decide_eq_true_eq] at h
  exact ds_T_of h.1 h.2
def ds_fb (own : String) (idx ci k p : Nat) : Bool := match vwCl[ci]? with
  | some q => decide (k < q.2.2) && decide (q.2.2 = (ds_fc ci).length) && ds_wb p (.fieldLink own idx (q.2.1 k).1 (q.2.1 k).2.1 (q.2.1 k).2.2.1)
  | none => false
theorem ds_fb_ok {y : ds_M} {idx ci k p : Nat} (h : ds_fb y.1.cls idx ci k p = true) : ds_fld y idx ci k := by
  unfold ds_fb at h
  split at h
  · next q hq =>
    simp only [Bool.and_eq_true, decide_eq_true_eq] at h
    exact ⟨q, hq, h.1.1, h.1.2, ds_wb_T h.2, ds_usT ci q hq⟩
  · cases h
def ds_pb (ci k : Nat) (ty : FieldType) : Bool := match vwCl[ci]? with
  | some q => !(q.2.1 k).2.2.2 && decide (parseFieldDescriptor (q.2.1 k).2.2.1 = some ty)
  | none => false
theorem ds_pb_ok {ci k : Nat} {ty : FieldType} (h : ds_pb ci k ty = true) : ds_fldP ci k ty := by
  unfold ds_pb at h
  split at h
  · next q hq =>
    simp only [Bool.and_eq_true, decide_eq_true_eq, Bool.not_eq_true'] at h
    exact ⟨q, hq, h.1, h.2, (ds_nmT ci q hq).1, (ds_nmT ci q hq).2⟩
  · cases h
def ds_okb (own : String) (bytes : ByteArray) (i : ds_I) : Bool := decide (decode bytes i.1 = .ok (i.2.1, i.2.2.1)) && (match i.2.1 with
  | .iconst n => decide (i.2.2.1 = 1) && decide (i.2.2.2.2.2.2 = .int (Int32.ofInt n))
  | .bipush n => decide (i.2.2.1 = 2) && decide (i.2.2.2.2.2.2 = .int (Int8.ofInt n).toInt32)
  | .sipush n => decide (i.2.2.1 = 3) && decide (i.2.2.2.2.2.2 = .int (Int16.ofInt n).toInt32)
  | .lconst n => decide (i.2.2.1 = 1) && decide (i.2.2.2.2.2.2 = .long (Int64.ofNat n))
  | .ldc n => decide (i.2.2.1 = 2) && (match i.2.2.2.2.2.2 with
    | .int v => ds_wb i.2.2.2.2.2.1 (.constant own n v)
    | _ => false)
  | .ldc2_w n => decide (i.2.2.1 = 3) && (match i.2.2.2.2.2.2 with
    | .long v => ds_wb i.2.2.2.2.2.1 (.constantLong own n v)
    | _ => false)
  | .iload _ => decide (i.2.2.1 = 2)
  | .lload _ => decide (i.2.2.1 = 2)
  | .aload _ => decide (i.2.2.1 = 2)
  | .istore _ => decide (i.2.2.1 = 2)
  | .lstore _ => decide (i.2.2.1 = 2)
  | .astore _ => decide (i.2.2.1 = 2)
  | .iinc _ n => decide (i.2.2.1 = 3) && decide (i.2.2.2.2.2.2 = .int (Int32.ofInt n))
  | .getfield idx => decide (i.2.2.1 = 3) && ds_fb own idx i.2.2.2.1 i.2.2.2.2.1 i.2.2.2.2.2.1
  | .putfield idx => decide (i.2.2.1 = 3) && ds_fb own idx i.2.2.2.1 i.2.2.2.2.1 i.2.2.2.2.2.1 && (match (ds_fc i.2.2.2.1)[i.2.2.2.2.1]? with
    | some 0 => ds_pb i.2.2.2.1 i.2.2.2.2.1 .int
    | some 1 => ds_pb i.2.2.2.1 i.2.2.2.2.1 .long
    | some 2 => ds_pb i.2.2.2.1 i.2.2.2.2.1 .boolean
    | _ => false)
  | .aaload => decide (i.2.2.1 = 1) && (decide (i.2.2.2.1 = 13) || decide (i.2.2.2.1 = 14))
  | .arraylength => decide (i.2.2.1 = 1) && (decide (i.2.2.2.1 = 10) || decide (i.2.2.2.1 = 11))
  | .goto _ => true
  | .ifCond _ _ => true
  | .if_icmp _ _ => true
  | .invokevirtual _ => true
  | .invokestatic _ => true
  | .tableswitch _ _ _ _ => true
  | _ => decide (i.2.2.1 = 1))
set_option maxHeartbeats 4000000 in
theorem ds_okb_ok {y : ds_M} {i : ds_I} (h : ds_okb y.1.cls y.2.1 i = true) : ds_ok y i := by
  unfold ds_okb at h
  rw [Bool.and_eq_true] at h
  obtain ⟨h1, h⟩ := h
  refine ⟨of_decide_eq_true h1, ?_⟩
  clear h1
  obtain ⟨pc, ins, len, r1, r2, r3, v⟩ := i
  unfold ds_okx
  dsimp only at h ⊢
  cases ins
  case iconst n => simpa using h
  case bipush n => simpa using h
  case sipush n => simpa using h
  case lconst n => simpa using h
  case ldc n =>
    dsimp only at h ⊢
    rw [Bool.and_eq_true] at h
    refine ⟨of_decide_eq_true h.1, ?_⟩
    cases v
    case int v => exact ⟨v, rfl, ds_wb_T h.2⟩
    all_goals cases h.2
  case ldc2_w n =>
    dsimp only at h ⊢
    rw [Bool.and_eq_true] at h
    refine ⟨of_decide_eq_true h.1, ?_⟩
    cases v
    case long v => exact ⟨v, rfl, ds_wb_T h.2⟩
    all_goals cases h.2
  case iinc n z => simpa using h
  case getfield idx =>
    dsimp only at h ⊢
    rw [Bool.and_eq_true] at h
    exact ⟨of_decide_eq_true h.1, ds_fb_ok h.2⟩
  case putfield idx =>
    dsimp only at h ⊢
    rw [Bool.and_eq_true, Bool.and_eq_true] at h
    refine ⟨of_decide_eq_true h.1.1, ds_fb_ok h.1.2, fun e => ?_, fun e => ?_, fun e => ?_⟩
    · have h2 := h.2; rw [e] at h2; exact ds_pb_ok h2
    · have h2 := h.2; rw [e] at h2; exact ds_pb_ok h2
    · have h2 := h.2; rw [e] at h2; exact ds_pb_ok h2
  case aaload => simpa using h
  case arraylength => simpa using h
  all_goals first | trivial | exact of_decide_eq_true h
theorem ds_good_of {y : ds_M} {is : List ds_I} (h : is.all (ds_okb y.1.cls y.2.1) = true) (hs : ds_seq is = true) : ds_good y is := ⟨fun i hi => ds_okb_ok (List.all_eq_true.mp h i hi), hs⟩
theorem ds_all_and {a b : List ds_I} {f : ds_I → Bool} (ha : a.all f = true) (hb : b.all f = true) : (a ++ b).all f = true := by rw [List.all_append, ha, hb]; rfl
end
section
def mt_X0_sendOne : ds_M := (⟨"WayWeights$Flow", "sendOne", "(LWayWeights$Net;LWayWeights$Ways;I)V"⟩, prog_2_method_2_code, 4, none, 2, 50)
def pg_X0_sendOne : List ds_I := [(0, .aload_n 0, 1, 0, 0, 0, .int 0), (1, .getfield 15, 3, 0, 1, 181, .int 0), (4, .lconst 0, 1, 0, 0, 0, .long 0), (5, .invokestatic 18, 3, 0, 0, 466, .int 0), (8, .aload_n 0, 1, 0, 0, 0, .int 0), (9, .getfield 9, 3, 0, 0, 180, .int 0), (12, .lconst 0, 1, 0, 0, 0, .long 0), (13, .invokestatic 18, 3, 0, 0, 466, .int 0), (16, .aload_n 0, 1, 0, 0, 0, .int 0), (17, .getfield 9, 3, 0, 0, 180, .int 0), (20, .iload_n 3, 1, 0, 0, 0, .int 0), (21, .ldc2_w 24, 3, 0, 0, 469, .long 151200), (24, .lastore, 1, 0, 0, 0, .int 0), (25, .aload_n 0, 1, 0, 0, 0, .int 0), (26, .aload_n 1, 1, 0, 0, 0, .int 0), (27, .aload_n 2, 1, 0, 0, 0, .int 0), (28, .invokevirtual 26, 3, 0, 0, 470, .int 0), (31, .return_, 1, 0, 0, 0, .int 0)]
set_option maxRecDepth 100000 in
theorem pg_X0_sendOne_k : pg_X0_sendOne.all (ds_okb mt_X0_sendOne.1.cls mt_X0_sendOne.2.1) = true := by decide +kernel
theorem ok_X0_sendOne : ds_good mt_X0_sendOne pg_X0_sendOne := ds_good_of pg_X0_sendOne_k (by decide +kernel)
def mt_X0_sendTable : ds_M := (⟨"WayWeights$Flow", "sendTable", "(LWayWeights$Net;LWayWeights$Routes;[I)V"⟩, prog_2_method_3_code, 5, none, 2, 50)
def pg_X0_sendTable : List ds_I := [(0, .aload_n 0, 1, 0, 0, 0, .int 0), (1, .getfield 15, 3, 0, 1, 181, .int 0), (4, .lconst 0, 1, 0, 0, 0, .long 0), (5, .invokestatic 18, 3, 0, 0, 466, .int 0), (8, .iconst 0, 1, 0, 0, 0, .int 0), (9, .istore 4, 2, 0, 0, 0, .int 0), (11, .iload 4, 2, 0, 0, 0, .int 0), (13, .aload_n 1, 1, 0, 0, 0, .int 0), (14, .getfield 30, 3, 1, 0, 74, .int 0), (17, .if_icmp .ge 32, 3, 0, 0, 0, .int 0), (20, .aload_n 0, 1, 0, 0, 0, .int 0), (21, .aload_n 1, 1, 0, 0, 0, .int 0), (22, .aload_n 3, 1, 0, 0, 0, .int 0), (23, .iload 4, 2, 0, 0, 0, .int 0), (25, .invokevirtual 36, 3, 0, 0, 505, .int 0), (28, .ifCond .eq 15, 3, 0, 0, 0, .int 0), (31, .aload_n 0, 1, 0, 0, 0, .int 0), (32, .aload_n 1, 1, 0, 0, 0, .int 0), (33, .aload_n 2, 1, 0, 0, 0, .int 0), (34, .getfield 40, 3, 4, 0, 168, .int 0), (37, .iload 4, 2, 0, 0, 0, .int 0), (39, .aaload, 1, 13, 0, 0, .int 0), (40, .invokevirtual 26, 3, 0, 0, 470, .int 0), (43, .iinc 4 1, 3, 0, 0, 0, .int 1), (46, .goto (-35), 3, 0, 0, 0, .int 0), (49, .return_, 1, 0, 0, 0, .int 0)]
set_option maxRecDepth 100000 in
theorem pg_X0_sendTable_k : pg_X0_sendTable.all (ds_okb mt_X0_sendTable.1.cls mt_X0_sendTable.2.1) = true := by decide +kernel
theorem ok_X0_sendTable : ds_good mt_X0_sendTable pg_X0_sendTable := ds_good_of pg_X0_sendTable_k (by decide +kernel)
def mt_X0_collect : ds_M := (⟨"WayWeights$Flow", "collect", "(LWayWeights$Net;[II)Z"⟩, prog_2_method_4_code, 7, some .boolean, 1, 21)
def pg_X0_collect : List ds_I := [(0, .iconst 0, 1, 0, 0, 0, .int 0), (1, .istore 4, 2, 0, 0, 0, .int 0), (3, .iconst 0, 1, 0, 0, 0, .int 0), (4, .istore 5, 2, 0, 0, 0, .int 0), (6, .iload 5, 2, 0, 0, 0, .int 0), (8, .aload_n 1, 1, 0, 0, 0, .int 0), (9, .getfield 30, 3, 1, 0, 74, .int 0), (12, .if_icmp .ge 48, 3, 0, 0, 0, .int 0), (15, .aload_n 2, 1, 0, 0, 0, .int 0), (16, .iload 5, 2, 0, 0, 0, .int 0), (18, .iload_n 3, 1, 0, 0, 0, .int 0), (19, .invokestatic 46, 3, 0, 0, 0, .int 0), (22, .iaload, 1, 0, 0, 0, .int 0), (23, .istore 6, 2, 0, 0, 0, .int 0), (25, .aload_n 0, 1, 0, 0, 0, .int 0), (26, .getfield 9, 3, 0, 0, 180, .int 0), (29, .iload 5, 2, 0, 0, 0, .int 0), (31, .iload 6, 2, 0, 0, 0, .int 0), (33, .i2l, 1, 0, 0, 0, .int 0), (34, .ldc2_w 24, 3, 0, 0, 469, .long 151200), (37, .lmul, 1, 0, 0, 0, .int 0), (38, .lastore, 1, 0, 0, 0, .int 0), (39, .iload 4, 2, 0, 0, 0, .int 0), (41, .iload 6, 2, 0, 0, 0, .int 0), (43, .ifCond .le 7, 3, 0, 0, 0, .int 0), (46, .iconst 1, 1, 0, 0, 0, .int 1), (47, .goto 4, 3, 0, 0, 0, .int 0), (50, .iconst 0, 1, 0, 0, 0, .int 0), (51, .ior, 1, 0, 0, 0, .int 0), (52, .istore 4, 2, 0, 0, 0, .int 0), (54, .iinc 5 1, 3, 0, 0, 0, .int 1), (57, .goto (-51), 3, 0, 0, 0, .int 0), (60, .iload 4, 2, 0, 0, 0, .int 0), (62, .ireturn, 1, 0, 0, 0, .int 0)]
set_option maxRecDepth 100000 in
theorem pg_X0_collect_k : pg_X0_collect.all (ds_okb mt_X0_collect.1.cls mt_X0_collect.2.1) = true := by decide +kernel
theorem ok_X0_collect : ds_good mt_X0_collect pg_X0_collect := ds_good_of pg_X0_collect_k (by decide +kernel)
def mt_X0_pass : ds_M := (⟨"WayWeights$Flow", "pass", "(LWayWeights$Net;LWayWeights$Ways;)V"⟩, prog_2_method_5_code, 5, none, 1, 26)
def pg_X0_pass_0 : List ds_I := [(0, .aload_n 2, 1, 0, 0, 0, .int 0), (1, .getfield 50, 3, 7, 2, 144, .int 0), (4, .iconst 1, 1, 0, 0, 0, .int 1), (5, .isub, 1, 0, 0, 0, .int 0), (6, .istore_n 3, 1, 0, 0, 0, .int 0), (7, .iload_n 3, 1, 0, 0, 0, .int 0), (8, .ifCond .le 63, 3, 0, 0, 0, .int 0), (11, .aload_n 2, 1, 0, 0, 0, .int 0), (12, .getfield 55, 3, 7, 1, 142, .int 0), (15, .iload_n 3, 1, 0, 0, 0, .int 0), (16, .iaload, 1, 0, 0, 0, .int 0), (17, .istore 4, 2, 0, 0, 0, .int 0), (19, .aload_n 0, 1, 0, 0, 0, .int 0), (20, .getfield 9, 3, 0, 0, 180, .int 0), (23, .iload 4, 2, 0, 0, 0, .int 0), (25, .laload, 1, 0, 0, 0, .int 0), (26, .lconst 0, 1, 0, 0, 0, .long 0), (27, .lcmp, 1, 0, 0, 0, .int 0), (28, .ifCond .le 37, 3, 0, 0, 0, .int 0), (31, .aload_n 2, 1, 0, 0, 0, .int 0), (32, .getfield 59, 3, 7, 3, 146, .int 0), (35, .iload 4, 2, 0, 0, 0, .int 0), (37, .iaload, 1, 0, 0, 0, .int 0), (38, .ifCond .le 27, 3, 0, 0, 0, .int 0), (41, .aload_n 0, 1, 0, 0, 0, .int 0), (42, .aload_n 1, 1, 0, 0, 0, .int 0), (43, .aload_n 2, 1, 0, 0, 0, .int 0), (44, .iload 4, 2, 0, 0, 0, .int 0), (46, .aload_n 0, 1, 0, 0, 0, .int 0), (47, .getfield 9, 3, 0, 0, 180, .int 0), (50, .iload 4, 2, 0, 0, 0, .int 0), (52, .laload, 1, 0, 0, 0, .int 0), (53, .aload_n 2, 1, 0, 0, 0, .int 0), (54, .getfield 59, 3, 7, 3, 146, .int 0), (57, .iload 4, 2, 0, 0, 0, .int 0), (59, .iaload, 1, 0, 0, 0, .int 0), (60, .i2l, 1, 0, 0, 0, .int 0), (61, .ldiv, 1, 0, 0, 0, .int 0), (62, .invokevirtual 62, 3, 0, 0, 474, .int 0), (65, .iinc 3 (-1), 3, 0, 0, 0, .int (-1))]
set_option maxRecDepth 100000 in
theorem pg_X0_pass_0_k : pg_X0_pass_0.all (ds_okb mt_X0_pass.1.cls mt_X0_pass.2.1) = true := by decide +kernel
def pg_X0_pass_1 : List ds_I := [(68, .goto (-61), 3, 0, 0, 0, .int 0), (71, .return_, 1, 0, 0, 0, .int 0)]
set_option maxRecDepth 100000 in
theorem pg_X0_pass_1_k : pg_X0_pass_1.all (ds_okb mt_X0_pass.1.cls mt_X0_pass.2.1) = true := by decide +kernel
def pg_X0_pass : List ds_I := pg_X0_pass_0 ++ (pg_X0_pass_1)
theorem pg_X0_pass_k : pg_X0_pass.all (ds_okb mt_X0_pass.1.cls mt_X0_pass.2.1) = true := (ds_all_and pg_X0_pass_0_k pg_X0_pass_1_k)
theorem ok_X0_pass : ds_good mt_X0_pass pg_X0_pass := ds_good_of pg_X0_pass_k (by decide +kernel)
def mt_X0_divide : ds_M := (⟨"WayWeights$Flow", "divide", "(LWayWeights$Net;LWayWeights$Ways;IJ)V"⟩, prog_2_method_6_code, 7, none, 0, 0)
def pg_X0_divide_0 : List ds_I := [(0, .iconst 0, 1, 0, 0, 0, .int 0), (1, .istore 6, 2, 0, 0, 0, .int 0), (3, .iload 6, 2, 0, 0, 0, .int 0), (5, .aload_n 1, 1, 0, 0, 0, .int 0), (6, .getfield 66, 3, 1, 1, 82, .int 0), (9, .if_icmp .ge 68, 3, 0, 0, 0, .int 0), (12, .aload_n 2, 1, 0, 0, 0, .int 0), (13, .getfield 69, 3, 7, 4, 148, .int 0), (16, .iload 6, 2, 0, 0, 0, .int 0), (18, .iaload, 1, 0, 0, 0, .int 0), (19, .iload_n 3, 1, 0, 0, 0, .int 0), (20, .if_icmp .ne 51, 3, 0, 0, 0, .int 0), (23, .aload_n 0, 1, 0, 0, 0, .int 0), (24, .getfield 15, 3, 0, 1, 181, .int 0), (27, .iconst 2, 1, 0, 0, 0, .int 2), (28, .iload 6, 2, 0, 0, 0, .int 0), (30, .imul, 1, 0, 0, 0, .int 0), (31, .aload_n 1, 1, 0, 0, 0, .int 0), (32, .getfield 72, 3, 1, 2, 87, .int 0), (35, .iload 6, 2, 0, 0, 0, .int 0), (37, .iaload, 1, 0, 0, 0, .int 0), (38, .iload_n 3, 1, 0, 0, 0, .int 0), (39, .if_icmp .ne 7, 3, 0, 0, 0, .int 0), (42, .iconst 0, 1, 0, 0, 0, .int 0), (43, .goto 4, 3, 0, 0, 0, .int 0), (46, .iconst 1, 1, 0, 0, 0, .int 1), (47, .iadd, 1, 0, 0, 0, .int 0), (48, .dup2, 1, 0, 0, 0, .int 0), (49, .laload, 1, 0, 0, 0, .int 0), (50, .lload 4, 2, 0, 0, 0, .int 0), (52, .ladd, 1, 0, 0, 0, .int 0), (53, .lastore, 1, 0, 0, 0, .int 0), (54, .aload_n 0, 1, 0, 0, 0, .int 0), (55, .getfield 9, 3, 0, 0, 180, .int 0), (58, .aload_n 2, 1, 0, 0, 0, .int 0), (59, .getfield 75, 3, 7, 5, 152, .int 0), (62, .iload 6, 2, 0, 0, 0, .int 0), (64, .iaload, 1, 0, 0, 0, .int 0), (65, .dup2, 1, 0, 0, 0, .int 0), (66, .laload, 1, 0, 0, 0, .int 0)]
set_option maxRecDepth 100000 in
theorem pg_X0_divide_0_k : pg_X0_divide_0.all (ds_okb mt_X0_divide.1.cls mt_X0_divide.2.1) = true := by decide +kernel
def pg_X0_divide_1 : List ds_I := [(67, .lload 4, 2, 0, 0, 0, .int 0), (69, .ladd, 1, 0, 0, 0, .int 0), (70, .lastore, 1, 0, 0, 0, .int 0), (71, .iinc 6 1, 3, 0, 0, 0, .int 1), (74, .goto (-71), 3, 0, 0, 0, .int 0), (77, .return_, 1, 0, 0, 0, .int 0)]
set_option maxRecDepth 100000 in
theorem pg_X0_divide_1_k : pg_X0_divide_1.all (ds_okb mt_X0_divide.1.cls mt_X0_divide.2.1) = true := by decide +kernel
def pg_X0_divide : List ds_I := pg_X0_divide_0 ++ (pg_X0_divide_1)
theorem pg_X0_divide_k : pg_X0_divide.all (ds_okb mt_X0_divide.1.cls mt_X0_divide.2.1) = true := (ds_all_and pg_X0_divide_0_k pg_X0_divide_1_k)
theorem ok_X0_divide : ds_good mt_X0_divide pg_X0_divide := ds_good_of pg_X0_divide_k (by decide +kernel)
def mt_X1_renew : ds_M := (⟨"WayWeights$Net", "renew", "(I)V"⟩, prog_3_method_2_code, 2, none, 0, 0)
def pg_X1_renew : List ds_I := [(0, .aload_n 0, 1, 0, 0, 0, .int 0), (1, .iload_n 1, 1, 0, 0, 0, .int 0), (2, .putfield 9, 3, 1, 0, 70, .int 0), (5, .aload_n 0, 1, 0, 0, 0, .int 0), (6, .iconst 0, 1, 0, 0, 0, .int 0), (7, .putfield 28, 3, 1, 1, 76, .int 0), (10, .aload_n 0, 1, 0, 0, 0, .int 0), (11, .iconst 0, 1, 0, 0, 0, .int 0), (12, .putfield 31, 3, 1, 6, 99, .int 0), (15, .aload_n 0, 1, 0, 0, 0, .int 0), (16, .iconst 0, 1, 0, 0, 0, .int 0), (17, .putfield 34, 3, 1, 7, 102, .int 0), (20, .return_, 1, 0, 0, 0, .int 0)]
set_option maxRecDepth 100000 in
theorem pg_X1_renew_k : pg_X1_renew.all (ds_okb mt_X1_renew.1.cls mt_X1_renew.2.1) = true := by decide +kernel
theorem ok_X1_renew : ds_good mt_X1_renew pg_X1_renew := ds_good_of pg_X1_renew_k (by decide +kernel)
def mt_X1_join : ds_M := (⟨"WayWeights$Net", "join", "(IIII)I"⟩, prog_3_method_3_code, 5, some .int, 0, 0)
def pg_X1_join : List ds_I := [(0, .aload_n 0, 1, 0, 0, 0, .int 0), (1, .getfield 15, 3, 1, 2, 84, .int 0), (4, .aload_n 0, 1, 0, 0, 0, .int 0), (5, .getfield 28, 3, 1, 1, 76, .int 0), (8, .iload_n 1, 1, 0, 0, 0, .int 0), (9, .iastore, 1, 0, 0, 0, .int 0), (10, .aload_n 0, 1, 0, 0, 0, .int 0), (11, .getfield 19, 3, 1, 3, 88, .int 0), (14, .aload_n 0, 1, 0, 0, 0, .int 0), (15, .getfield 28, 3, 1, 1, 76, .int 0), (18, .iload_n 2, 1, 0, 0, 0, .int 0), (19, .iastore, 1, 0, 0, 0, .int 0), (20, .aload_n 0, 1, 0, 0, 0, .int 0), (21, .getfield 22, 3, 1, 4, 91, .int 0), (24, .aload_n 0, 1, 0, 0, 0, .int 0), (25, .getfield 28, 3, 1, 1, 76, .int 0), (28, .iload_n 3, 1, 0, 0, 0, .int 0), (29, .iastore, 1, 0, 0, 0, .int 0), (30, .aload_n 0, 1, 0, 0, 0, .int 0), (31, .getfield 25, 3, 1, 5, 94, .int 0), (34, .aload_n 0, 1, 0, 0, 0, .int 0), (35, .getfield 28, 3, 1, 1, 76, .int 0), (38, .iload 4, 2, 0, 0, 0, .int 0), (40, .iastore, 1, 0, 0, 0, .int 0), (41, .aload_n 0, 1, 0, 0, 0, .int 0), (42, .dup, 1, 0, 0, 0, .int 0), (43, .getfield 28, 3, 1, 1, 76, .int 0), (46, .iconst 1, 1, 0, 0, 0, .int 1), (47, .iadd, 1, 0, 0, 0, .int 0), (48, .putfield 28, 3, 1, 1, 76, .int 0), (51, .aload_n 0, 1, 0, 0, 0, .int 0), (52, .getfield 28, 3, 1, 1, 76, .int 0), (55, .iconst 1, 1, 0, 0, 0, .int 1), (56, .isub, 1, 0, 0, 0, .int 0), (57, .ireturn, 1, 0, 0, 0, .int 0)]
set_option maxRecDepth 100000 in
theorem pg_X1_join_k : pg_X1_join.all (ds_okb mt_X1_join.1.cls mt_X1_join.2.1) = true := by decide +kernel
theorem ok_X1_join : ds_good mt_X1_join pg_X1_join := ds_good_of pg_X1_join_k (by decide +kernel)
def mt_X1_hasBox : ds_M := (⟨"WayWeights$Net", "hasBox", "(I)Z"⟩, prog_3_method_4_code, 2, some .boolean, 0, 0)
def pg_X1_hasBox : List ds_I := [(0, .iload_n 1, 1, 0, 0, 0, .int 0), (1, .ifCond .lt 15, 3, 0, 0, 0, .int 0), (4, .iload_n 1, 1, 0, 0, 0, .int 0), (5, .aload_n 0, 1, 0, 0, 0, .int 0), (6, .getfield 9, 3, 1, 0, 70, .int 0), (9, .if_icmp .ge 7, 3, 0, 0, 0, .int 0), (12, .iconst 1, 1, 0, 0, 0, .int 1), (13, .goto 4, 3, 0, 0, 0, .int 0), (16, .iconst 0, 1, 0, 0, 0, .int 0), (17, .ireturn, 1, 0, 0, 0, .int 0)]
set_option maxRecDepth 100000 in
theorem pg_X1_hasBox_k : pg_X1_hasBox.all (ds_okb mt_X1_hasBox.1.cls mt_X1_hasBox.2.1) = true := by decide +kernel
theorem ok_X1_hasBox : ds_good mt_X1_hasBox pg_X1_hasBox := ds_good_of pg_X1_hasBox_k (by decide +kernel)
def mt_X1_hasLine : ds_M := (⟨"WayWeights$Net", "hasLine", "(I)Z"⟩, prog_3_method_5_code, 2, some .boolean, 0, 0)
def pg_X1_hasLine : List ds_I := [(0, .iload_n 1, 1, 0, 0, 0, .int 0), (1, .ifCond .lt 15, 3, 0, 0, 0, .int 0), (4, .iload_n 1, 1, 0, 0, 0, .int 0), (5, .aload_n 0, 1, 0, 0, 0, .int 0), (6, .getfield 28, 3, 1, 1, 76, .int 0), (9, .if_icmp .ge 7, 3, 0, 0, 0, .int 0), (12, .iconst 1, 1, 0, 0, 0, .int 1), (13, .goto 4, 3, 0, 0, 0, .int 0), (16, .iconst 0, 1, 0, 0, 0, .int 0), (17, .ireturn, 1, 0, 0, 0, .int 0)]
set_option maxRecDepth 100000 in
theorem pg_X1_hasLine_k : pg_X1_hasLine.all (ds_okb mt_X1_hasLine.1.cls mt_X1_hasLine.2.1) = true := by decide +kernel
theorem ok_X1_hasLine : ds_good mt_X1_hasLine pg_X1_hasLine := ds_good_of pg_X1_hasLine_k (by decide +kernel)
def mt_X1_arePair : ds_M := (⟨"WayWeights$Net", "arePair", "(II)Z"⟩, prog_3_method_6_code, 3, some .boolean, 1, 21)
def pg_X1_arePair : List ds_I := [(0, .aload_n 0, 1, 0, 0, 0, .int 0), (1, .iload_n 1, 1, 0, 0, 0, .int 0), (2, .invokevirtual 37, 3, 0, 0, 376, .int 0), (5, .ifCond .eq 20, 3, 0, 0, 0, .int 0), (8, .aload_n 0, 1, 0, 0, 0, .int 0), (9, .iload_n 2, 1, 0, 0, 0, .int 0), (10, .invokevirtual 37, 3, 0, 0, 376, .int 0), (13, .ifCond .eq 12, 3, 0, 0, 0, .int 0), (16, .iload_n 1, 1, 0, 0, 0, .int 0), (17, .iload_n 2, 1, 0, 0, 0, .int 0), (18, .if_icmp .eq 7, 3, 0, 0, 0, .int 0), (21, .iconst 1, 1, 0, 0, 0, .int 1), (22, .goto 4, 3, 0, 0, 0, .int 0), (25, .iconst 0, 1, 0, 0, 0, .int 0), (26, .ireturn, 1, 0, 0, 0, .int 0)]
set_option maxRecDepth 100000 in
theorem pg_X1_arePair_k : pg_X1_arePair.all (ds_okb mt_X1_arePair.1.cls mt_X1_arePair.2.1) = true := by decide +kernel
theorem ok_X1_arePair : ds_good mt_X1_arePair pg_X1_arePair := ds_good_of pg_X1_arePair_k (by decide +kernel)
def mt_X1_linesThere : ds_M := (⟨"WayWeights$Net", "linesThere", "(I)I"⟩, prog_3_method_7_code, 3, some .int, 0, 0)
def pg_X1_linesThere : List ds_I := [(0, .iconst 1, 1, 0, 0, 0, .int 1), (1, .aload_n 0, 1, 0, 0, 0, .int 0), (2, .getfield 28, 3, 1, 1, 76, .int 0), (5, .ishl, 1, 0, 0, 0, .int 0), (6, .iconst 1, 1, 0, 0, 0, .int 1), (7, .isub, 1, 0, 0, 0, .int 0), (8, .aload_n 0, 1, 0, 0, 0, .int 0), (9, .getfield 34, 3, 1, 7, 102, .int 0), (12, .iconst (-1), 1, 0, 0, 0, .int (-1)), (13, .ixor, 1, 0, 0, 0, .int 0), (14, .iand, 1, 0, 0, 0, .int 0), (15, .istore_n 2, 1, 0, 0, 0, .int 0), (16, .iload_n 1, 1, 0, 0, 0, .int 0), (17, .iconst (-1), 1, 0, 0, 0, .int (-1)), (18, .if_icmp .ne 7, 3, 0, 0, 0, .int 0), (21, .iload_n 2, 1, 0, 0, 0, .int 0), (22, .goto 10, 3, 0, 0, 0, .int 0), (25, .iload_n 2, 1, 0, 0, 0, .int 0), (26, .iconst 1, 1, 0, 0, 0, .int 1), (27, .iload_n 1, 1, 0, 0, 0, .int 0), (28, .ishl, 1, 0, 0, 0, .int 0), (29, .iconst (-1), 1, 0, 0, 0, .int (-1)), (30, .ixor, 1, 0, 0, 0, .int 0), (31, .iand, 1, 0, 0, 0, .int 0), (32, .ireturn, 1, 0, 0, 0, .int 0)]
set_option maxRecDepth 100000 in
theorem pg_X1_linesThere_k : pg_X1_linesThere.all (ds_okb mt_X1_linesThere.1.cls mt_X1_linesThere.2.1) = true := by decide +kernel
theorem ok_X1_linesThere : ds_good mt_X1_linesThere pg_X1_linesThere := ds_good_of pg_X1_linesThere_k (by decide +kernel)
def mt_X3_clear : ds_M := (⟨"WayWeights$Peak", "clear", "()V"⟩, prog_5_method_2_code, 1, none, 0, 0)
def pg_X3_clear : List ds_I := [(0, .aload_n 0, 1, 0, 0, 0, .int 0), (1, .lconst 0, 1, 0, 0, 0, .long 0), (2, .putfield 9, 3, 3, 0, 196, .int 0), (5, .aload_n 0, 1, 0, 0, 0, .int 0), (6, .iconst 1, 1, 0, 0, 0, .int 1), (7, .putfield 15, 3, 3, 1, 198, .int 0), (10, .aload_n 0, 1, 0, 0, 0, .int 0), (11, .bipush (-6), 2, 0, 0, 0, .int (-6)), (13, .putfield 19, 3, 3, 2, 200, .int 0), (16, .aload_n 0, 1, 0, 0, 0, .int 0), (17, .bipush (-6), 2, 0, 0, 0, .int (-6)), (19, .putfield 22, 3, 3, 3, 202, .int 0), (22, .aload_n 0, 1, 0, 0, 0, .int 0), (23, .iconst 0, 1, 0, 0, 0, .int 0), (24, .putfield 25, 3, 3, 4, 204, .int 0), (27, .aload_n 0, 1, 0, 0, 0, .int 0), (28, .iconst (-1), 1, 0, 0, 0, .int (-1)), (29, .putfield 28, 3, 3, 5, 207, .int 0), (32, .return_, 1, 0, 0, 0, .int 0)]
set_option maxRecDepth 100000 in
theorem pg_X3_clear_k : pg_X3_clear.all (ds_okb mt_X3_clear.1.cls mt_X3_clear.2.1) = true := by decide +kernel
theorem ok_X3_clear : ds_good mt_X3_clear pg_X3_clear := ds_good_of pg_X3_clear_k (by decide +kernel)
def mt_X3_climb : ds_M := (⟨"WayWeights$Peak", "climb", "(LWayWeights$Net;LWayWeights$Flow;)V"⟩, prog_5_method_3_code, 7, none, 1, 21)
def pg_X3_climb_0 : List ds_I := [(0, .iconst 0, 1, 0, 0, 0, .int 0), (1, .istore_n 3, 1, 0, 0, 0, .int 0), (2, .iload_n 3, 1, 0, 0, 0, .int 0), (3, .aload_n 1, 1, 0, 0, 0, .int 0), (4, .getfield 31, 3, 1, 1, 77, .int 0), (7, .if_icmp .ge 88, 3, 0, 0, 0, .int 0), (10, .iconst 0, 1, 0, 0, 0, .int 0), (11, .istore 4, 2, 0, 0, 0, .int 0), (13, .iload 4, 2, 0, 0, 0, .int 0), (15, .iconst 2, 1, 0, 0, 0, .int 2), (16, .if_icmp .ge 73, 3, 0, 0, 0, .int 0), (19, .aload_n 2, 1, 0, 0, 0, .int 0), (20, .getfield 36, 3, 0, 1, 182, .int 0), (23, .iload_n 3, 1, 0, 0, 0, .int 0), (24, .iload 4, 2, 0, 0, 0, .int 0), (26, .invokestatic 41, 3, 0, 0, 0, .int 0), (29, .laload, 1, 0, 0, 0, .int 0), (30, .lstore 5, 2, 0, 0, 0, .int 0), (32, .lload 5, 2, 0, 0, 0, .int 0), (34, .aload_n 0, 1, 0, 0, 0, .int 0), (35, .getfield 15, 3, 3, 1, 198, .int 0), (38, .i2l, 1, 0, 0, 0, .int 0), (39, .lmul, 1, 0, 0, 0, .int 0), (40, .aload_n 0, 1, 0, 0, 0, .int 0), (41, .getfield 9, 3, 3, 0, 196, .int 0), (44, .aload_n 1, 1, 0, 0, 0, .int 0), (45, .getfield 45, 3, 1, 4, 92, .int 0), (48, .iload_n 3, 1, 0, 0, 0, .int 0), (49, .iaload, 1, 0, 0, 0, .int 0), (50, .i2l, 1, 0, 0, 0, .int 0), (51, .lmul, 1, 0, 0, 0, .int 0), (52, .lcmp, 1, 0, 0, 0, .int 0), (53, .ifCond .le 30, 3, 0, 0, 0, .int 0), (56, .aload_n 0, 1, 0, 0, 0, .int 0), (57, .lload 5, 2, 0, 0, 0, .int 0), (59, .putfield 9, 3, 3, 0, 196, .int 0), (62, .aload_n 0, 1, 0, 0, 0, .int 0), (63, .aload_n 1, 1, 0, 0, 0, .int 0), (64, .getfield 45, 3, 1, 4, 92, .int 0), (67, .iload_n 3, 1, 0, 0, 0, .int 0)]
set_option maxRecDepth 100000 in
theorem pg_X3_climb_0_k : pg_X3_climb_0.all (ds_okb mt_X3_climb.1.cls mt_X3_climb.2.1) = true := by decide +kernel
def pg_X3_climb_1 : List ds_I := [(68, .iaload, 1, 0, 0, 0, .int 0), (69, .putfield 15, 3, 3, 1, 198, .int 0), (72, .aload_n 0, 1, 0, 0, 0, .int 0), (73, .iload_n 3, 1, 0, 0, 0, .int 0), (74, .putfield 19, 3, 3, 2, 200, .int 0), (77, .aload_n 0, 1, 0, 0, 0, .int 0), (78, .iload 4, 2, 0, 0, 0, .int 0), (80, .putfield 22, 3, 3, 3, 202, .int 0), (83, .iinc 4 1, 3, 0, 0, 0, .int 1), (86, .goto (-73), 3, 0, 0, 0, .int 0), (89, .iinc 3 1, 3, 0, 0, 0, .int 1), (92, .goto (-90), 3, 0, 0, 0, .int 0), (95, .return_, 1, 0, 0, 0, .int 0)]
set_option maxRecDepth 100000 in
theorem pg_X3_climb_1_k : pg_X3_climb_1.all (ds_okb mt_X3_climb.1.cls mt_X3_climb.2.1) = true := by decide +kernel
def pg_X3_climb : List ds_I := pg_X3_climb_0 ++ (pg_X3_climb_1)
theorem pg_X3_climb_k : pg_X3_climb.all (ds_okb mt_X3_climb.1.cls mt_X3_climb.2.1) = true := (ds_all_and pg_X3_climb_0_k pg_X3_climb_1_k)
theorem ok_X3_climb : ds_good mt_X3_climb pg_X3_climb := ds_good_of pg_X3_climb_k (by decide +kernel)
def mt_X3_compareWith : ds_M := (⟨"WayWeights$Peak", "compareWith", "(LWayWeights$Peak;)I"⟩, prog_5_method_4_code, 2, some .int, 1, 23)
def pg_X3_compareWith : List ds_I := [(0, .aload_n 0, 1, 0, 0, 0, .int 0), (1, .getfield 9, 3, 3, 0, 196, .int 0), (4, .aload_n 1, 1, 0, 0, 0, .int 0), (5, .getfield 15, 3, 3, 1, 198, .int 0), (8, .i2l, 1, 0, 0, 0, .int 0), (9, .lmul, 1, 0, 0, 0, .int 0), (10, .aload_n 1, 1, 0, 0, 0, .int 0), (11, .getfield 9, 3, 3, 0, 196, .int 0), (14, .aload_n 0, 1, 0, 0, 0, .int 0), (15, .getfield 15, 3, 3, 1, 198, .int 0), (18, .i2l, 1, 0, 0, 0, .int 0), (19, .lmul, 1, 0, 0, 0, .int 0), (20, .invokestatic 48, 3, 0, 0, 560, .int 0), (23, .ireturn, 1, 0, 0, 0, .int 0)]
set_option maxRecDepth 100000 in
theorem pg_X3_compareWith_k : pg_X3_compareWith.all (ds_okb mt_X3_compareWith.1.cls mt_X3_compareWith.2.1) = true := by decide +kernel
theorem ok_X3_compareWith : ds_good mt_X3_compareWith pg_X3_compareWith := ds_good_of pg_X3_compareWith_k (by decide +kernel)
def mt_X3_isAboveOne : ds_M := (⟨"WayWeights$Peak", "isAboveOne", "()Z"⟩, prog_5_method_5_code, 1, some .boolean, 0, 0)
def pg_X3_isAboveOne : List ds_I := [(0, .aload_n 0, 1, 0, 0, 0, .int 0), (1, .getfield 9, 3, 3, 0, 196, .int 0), (4, .ldc2_w 54, 3, 0, 0, 704, .long 151200), (7, .aload_n 0, 1, 0, 0, 0, .int 0), (8, .getfield 15, 3, 3, 1, 198, .int 0), (11, .i2l, 1, 0, 0, 0, .int 0), (12, .lmul, 1, 0, 0, 0, .int 0), (13, .lcmp, 1, 0, 0, 0, .int 0), (14, .ifCond .le 7, 3, 0, 0, 0, .int 0), (17, .iconst 1, 1, 0, 0, 0, .int 1), (18, .goto 4, 3, 0, 0, 0, .int 0), (21, .iconst 0, 1, 0, 0, 0, .int 0), (22, .ireturn, 1, 0, 0, 0, .int 0)]
set_option maxRecDepth 100000 in
theorem pg_X3_isAboveOne_k : pg_X3_isAboveOne.all (ds_okb mt_X3_isAboveOne.1.cls mt_X3_isAboveOne.2.1) = true := by decide +kernel
theorem ok_X3_isAboveOne : ds_good mt_X3_isAboveOne pg_X3_isAboveOne := ds_good_of pg_X3_isAboveOne_k (by decide +kernel)
def mt_X3_copy : ds_M := (⟨"WayWeights$Peak", "copy", "(LWayWeights$Peak;)V"⟩, prog_5_method_6_code, 2, none, 0, 0)
def pg_X3_copy : List ds_I := [(0, .aload_n 0, 1, 0, 0, 0, .int 0), (1, .aload_n 1, 1, 0, 0, 0, .int 0), (2, .getfield 9, 3, 3, 0, 196, .int 0), (5, .putfield 9, 3, 3, 0, 196, .int 0), (8, .aload_n 0, 1, 0, 0, 0, .int 0), (9, .aload_n 1, 1, 0, 0, 0, .int 0), (10, .getfield 15, 3, 3, 1, 198, .int 0), (13, .putfield 15, 3, 3, 1, 198, .int 0), (16, .aload_n 0, 1, 0, 0, 0, .int 0), (17, .aload_n 1, 1, 0, 0, 0, .int 0), (18, .getfield 19, 3, 3, 2, 200, .int 0), (21, .putfield 19, 3, 3, 2, 200, .int 0), (24, .aload_n 0, 1, 0, 0, 0, .int 0), (25, .aload_n 1, 1, 0, 0, 0, .int 0), (26, .getfield 22, 3, 3, 3, 202, .int 0), (29, .putfield 22, 3, 3, 3, 202, .int 0), (32, .aload_n 0, 1, 0, 0, 0, .int 0), (33, .aload_n 1, 1, 0, 0, 0, .int 0), (34, .getfield 25, 3, 3, 4, 204, .int 0), (37, .putfield 25, 3, 3, 4, 204, .int 0), (40, .aload_n 0, 1, 0, 0, 0, .int 0), (41, .aload_n 1, 1, 0, 0, 0, .int 0), (42, .getfield 28, 3, 3, 5, 207, .int 0), (45, .putfield 28, 3, 3, 5, 207, .int 0), (48, .return_, 1, 0, 0, 0, .int 0)]
set_option maxRecDepth 100000 in
theorem pg_X3_copy_k : pg_X3_copy.all (ds_okb mt_X3_copy.1.cls mt_X3_copy.2.1) = true := by decide +kernel
theorem ok_X3_copy : ds_good mt_X3_copy pg_X3_copy := ds_good_of pg_X3_copy_k (by decide +kernel)
def mt_X4_findOne : ds_M := (⟨"WayWeights$Routes", "findOne", "(LWayWeights$Net;I)LWayWeights$Ways;"⟩, prog_6_method_2_code, 3, some (.object "WayWeights$Ways"), 3, 78)
def pg_X4_findOne : List ds_I := [(0, .aload_n 0, 1, 0, 0, 0, .int 0), (1, .getfield 11, 3, 4, 0, 167, .int 0), (4, .iload_n 2, 1, 0, 0, 0, .int 0), (5, .aaload, 1, 13, 0, 0, .int 0), (6, .aload_n 1, 1, 0, 0, 0, .int 0), (7, .aload_n 1, 1, 0, 0, 0, .int 0), (8, .getfield 18, 3, 1, 5, 96, .int 0), (11, .aload_n 1, 1, 0, 0, 0, .int 0), (12, .iconst (-1), 1, 0, 0, 0, .int (-1)), (13, .invokevirtual 24, 3, 0, 0, 431, .int 0), (16, .iload_n 2, 1, 0, 0, 0, .int 0), (17, .invokevirtual 28, 3, 0, 0, 435, .int 0), (20, .aload_n 0, 1, 0, 0, 0, .int 0), (21, .getfield 11, 3, 4, 0, 167, .int 0), (24, .iload_n 2, 1, 0, 0, 0, .int 0), (25, .aaload, 1, 13, 0, 0, .int 0), (26, .areturn, 1, 0, 0, 0, .int 0)]
set_option maxRecDepth 100000 in
theorem pg_X4_findOne_k : pg_X4_findOne.all (ds_okb mt_X4_findOne.1.cls mt_X4_findOne.2.1) = true := by decide +kernel
theorem ok_X4_findOne : ds_good mt_X4_findOne pg_X4_findOne := ds_good_of pg_X4_findOne_k (by decide +kernel)
def mt_X4_findAll : ds_M := (⟨"WayWeights$Routes", "findAll", "(LWayWeights$Net;I)V"⟩, prog_6_method_3_code, 3, none, 4, 104)
def pg_X4_findAll : List ds_I := [(0, .aload_n 0, 1, 0, 0, 0, .int 0), (1, .aload_n 1, 1, 0, 0, 0, .int 0), (2, .aload_n 1, 1, 0, 0, 0, .int 0), (3, .getfield 18, 3, 1, 5, 96, .int 0), (6, .iload_n 2, 1, 0, 0, 0, .int 0), (7, .iconst 1, 1, 0, 0, 0, .int 1), (8, .aload_n 1, 1, 0, 0, 0, .int 0), (9, .getfield 32, 3, 1, 0, 73, .int 0), (12, .ishl, 1, 0, 0, 0, .int 0), (13, .iconst 1, 1, 0, 0, 0, .int 1), (14, .isub, 1, 0, 0, 0, .int 0), (15, .invokevirtual 36, 3, 0, 0, 496, .int 0), (18, .return_, 1, 0, 0, 0, .int 0)]
set_option maxRecDepth 100000 in
theorem pg_X4_findAll_k : pg_X4_findAll.all (ds_okb mt_X4_findAll.1.cls mt_X4_findAll.2.1) = true := by decide +kernel
theorem ok_X4_findAll : ds_good mt_X4_findAll pg_X4_findAll := ds_good_of pg_X4_findAll_k (by decide +kernel)
def mt_X4_findSome : ds_M := (⟨"WayWeights$Routes", "findSome", "(LWayWeights$Net;[III)V"⟩, prog_6_method_4_code, 7, none, 3, 78)
def pg_X4_findSome : List ds_I := [(0, .aload_n 1, 1, 0, 0, 0, .int 0), (1, .iload_n 3, 1, 0, 0, 0, .int 0), (2, .invokevirtual 24, 3, 0, 0, 431, .int 0), (5, .istore 5, 2, 0, 0, 0, .int 0), (7, .iconst 0, 1, 0, 0, 0, .int 0), (8, .istore 6, 2, 0, 0, 0, .int 0), (10, .iload 6, 2, 0, 0, 0, .int 0), (12, .aload_n 1, 1, 0, 0, 0, .int 0), (13, .getfield 32, 3, 1, 0, 73, .int 0), (16, .if_icmp .ge 36, 3, 0, 0, 0, .int 0), (19, .iload 4, 2, 0, 0, 0, .int 0), (21, .iload 6, 2, 0, 0, 0, .int 0), (23, .invokestatic 39, 3, 0, 0, 0, .int 0), (26, .iconst 1, 1, 0, 0, 0, .int 1), (27, .if_icmp .ne 19, 3, 0, 0, 0, .int 0), (30, .aload_n 0, 1, 0, 0, 0, .int 0), (31, .getfield 11, 3, 4, 0, 167, .int 0), (34, .iload 6, 2, 0, 0, 0, .int 0), (36, .aaload, 1, 13, 0, 0, .int 0), (37, .aload_n 1, 1, 0, 0, 0, .int 0), (38, .aload_n 2, 1, 0, 0, 0, .int 0), (39, .iload 5, 2, 0, 0, 0, .int 0), (41, .iload 6, 2, 0, 0, 0, .int 0), (43, .invokevirtual 28, 3, 0, 0, 435, .int 0), (46, .iinc 6 1, 3, 0, 0, 0, .int 1), (49, .goto (-39), 3, 0, 0, 0, .int 0), (52, .return_, 1, 0, 0, 0, .int 0)]
set_option maxRecDepth 100000 in
theorem pg_X4_findSome_k : pg_X4_findSome.all (ds_okb mt_X4_findSome.1.cls mt_X4_findSome.2.1) = true := by decide +kernel
theorem ok_X4_findSome : ds_good mt_X4_findSome pg_X4_findSome := ds_good_of pg_X4_findSome_k (by decide +kernel)
def mt_X6_findWorst : ds_M := (⟨"WayWeights$Survey", "findWorst", "([ILWayWeights$Peak;)V"⟩, prog_8_method_2_code, 6, none, 5, 131)
def pg_X6_findWorst : List ds_I := [(0, .aload_n 2, 1, 0, 0, 0, .int 0), (1, .invokevirtual 34, 3, 0, 0, 539, .int 0), (4, .aload_n 0, 1, 0, 0, 0, .int 0), (5, .invokevirtual 37, 3, 0, 0, 540, .int 0), (8, .istore_n 3, 1, 0, 0, 0, .int 0), (9, .aload_n 0, 1, 0, 0, 0, .int 0), (10, .invokevirtual 41, 3, 0, 0, 544, .int 0), (13, .istore 4, 2, 0, 0, 0, .int 0), (15, .iconst 0, 1, 0, 0, 0, .int 0), (16, .istore 5, 2, 0, 0, 0, .int 0), (18, .iload 5, 2, 0, 0, 0, .int 0), (20, .iload 4, 2, 0, 0, 0, .int 0), (22, .if_icmp .ge 18, 3, 0, 0, 0, .int 0), (25, .aload_n 0, 1, 0, 0, 0, .int 0), (26, .aload_n 1, 1, 0, 0, 0, .int 0), (27, .iload 5, 2, 0, 0, 0, .int 0), (29, .iload_n 3, 1, 0, 0, 0, .int 0), (30, .aload_n 2, 1, 0, 0, 0, .int 0), (31, .invokevirtual 44, 3, 0, 0, 548, .int 0), (34, .iinc 5 1, 3, 0, 0, 0, .int 1), (37, .goto (-19), 3, 0, 0, 0, .int 0), (40, .return_, 1, 0, 0, 0, .int 0)]
set_option maxRecDepth 100000 in
theorem pg_X6_findWorst_k : pg_X6_findWorst.all (ds_okb mt_X6_findWorst.1.cls mt_X6_findWorst.2.1) = true := by decide +kernel
theorem ok_X6_findWorst : ds_good mt_X6_findWorst pg_X6_findWorst := ds_good_of pg_X6_findWorst_k (by decide +kernel)
def mt_X6_countNets : ds_M := (⟨"WayWeights$Survey", "countNets", "()I"⟩, prog_8_method_3_code, 1, some .int, 0, 0)
def pg_X6_countNets : List ds_I := [(0, .aload_n 0, 1, 0, 0, 0, .int 0), (1, .getfield 48, 3, 6, 2, 233, .int 0), (4, .ifCond .eq 15, 3, 0, 0, 0, .int 0), (7, .iconst 1, 1, 0, 0, 0, .int 1), (8, .aload_n 0, 1, 0, 0, 0, .int 0), (9, .getfield 18, 3, 6, 0, 231, .int 0), (12, .getfield 52, 3, 1, 1, 78, .int 0), (15, .iadd, 1, 0, 0, 0, .int 0), (16, .goto 4, 3, 0, 0, 0, .int 0), (19, .iconst 1, 1, 0, 0, 0, .int 1), (20, .ireturn, 1, 0, 0, 0, .int 0)]
set_option maxRecDepth 100000 in
theorem pg_X6_countNets_k : pg_X6_countNets.all (ds_okb mt_X6_countNets.1.cls mt_X6_countNets.2.1) = true := by decide +kernel
theorem ok_X6_countNets : ds_good mt_X6_countNets pg_X6_countNets := ds_good_of pg_X6_countNets_k (by decide +kernel)
def mt_X6_addNet : ds_M := (⟨"WayWeights$Survey", "addNet", "([IIILWayWeights$Peak;)V"⟩, prog_8_method_4_code, 8, none, 4, 104)
def pg_X6_addNet_0 : List ds_I := [(0, .iload_n 2, 1, 0, 0, 0, .int 0), (1, .iconst 1, 1, 0, 0, 0, .int 1), (2, .isub, 1, 0, 0, 0, .int 0), (3, .istore 5, 2, 0, 0, 0, .int 0), (5, .iload 5, 2, 0, 0, 0, .int 0), (7, .iconst (-1), 1, 0, 0, 0, .int (-1)), (8, .if_icmp .eq 20, 3, 0, 0, 0, .int 0), (11, .aload_n 0, 1, 0, 0, 0, .int 0), (12, .getfield 18, 3, 6, 0, 231, .int 0), (15, .getfield 58, 3, 1, 7, 103, .int 0), (18, .iload 5, 2, 0, 0, 0, .int 0), (20, .invokestatic 61, 3, 0, 0, 0, .int 0), (23, .iconst 1, 1, 0, 0, 0, .int 1), (24, .if_icmp .ne 4, 3, 0, 0, 0, .int 0), (27, .return_, 1, 0, 0, 0, .int 0), (28, .aload_n 0, 1, 0, 0, 0, .int 0), (29, .getfield 26, 3, 6, 3, 235, .int 0), (32, .aload_n 0, 1, 0, 0, 0, .int 0), (33, .getfield 18, 3, 6, 0, 231, .int 0), (36, .aload_n 1, 1, 0, 0, 0, .int 0), (37, .iload 5, 2, 0, 0, 0, .int 0), (39, .iload_n 3, 1, 0, 0, 0, .int 0), (40, .invokevirtual 65, 3, 0, 0, 553, .int 0), (43, .iconst 0, 1, 0, 0, 0, .int 0), (44, .istore 6, 2, 0, 0, 0, .int 0), (46, .iload 6, 2, 0, 0, 0, .int 0), (48, .iconst 3, 1, 0, 0, 0, .int 3), (49, .if_icmp .ge 111, 3, 0, 0, 0, .int 0), (52, .aload_n 0, 1, 0, 0, 0, .int 0), (53, .getfield 30, 3, 6, 4, 236, .int 0), (56, .aload_n 0, 1, 0, 0, 0, .int 0), (57, .getfield 18, 3, 6, 0, 231, .int 0), (60, .aload_n 0, 1, 0, 0, 0, .int 0), (61, .getfield 26, 3, 6, 3, 235, .int 0), (64, .aload_n 0, 1, 0, 0, 0, .int 0), (65, .getfield 22, 3, 6, 1, 232, .int 0), (68, .iload 6, 2, 0, 0, 0, .int 0), (70, .aaload, 1, 14, 0, 0, .int 0), (71, .invokevirtual 71, 3, 0, 0, 554, .int 0), (74, .aload_n 0, 1, 0, 0, 0, .int 0)]
set_option maxRecDepth 100000 in
theorem pg_X6_addNet_0_k : pg_X6_addNet_0.all (ds_okb mt_X6_addNet.1.cls mt_X6_addNet.2.1) = true := by decide +kernel
def pg_X6_addNet_1 : List ds_I := [(75, .getfield 12, 3, 6, 5, 237, .int 0), (78, .invokevirtual 34, 3, 0, 0, 539, .int 0), (81, .aload_n 0, 1, 0, 0, 0, .int 0), (82, .getfield 12, 3, 6, 5, 237, .int 0), (85, .aload_n 0, 1, 0, 0, 0, .int 0), (86, .getfield 18, 3, 6, 0, 231, .int 0), (89, .aload_n 0, 1, 0, 0, 0, .int 0), (90, .getfield 30, 3, 6, 4, 236, .int 0), (93, .invokevirtual 77, 3, 0, 0, 555, .int 0), (96, .aload_n 0, 1, 0, 0, 0, .int 0), (97, .getfield 12, 3, 6, 5, 237, .int 0), (100, .iload 6, 2, 0, 0, 0, .int 0), (102, .putfield 81, 3, 3, 4, 205, .int 0), (105, .aload_n 0, 1, 0, 0, 0, .int 0), (106, .getfield 12, 3, 6, 5, 237, .int 0), (109, .iload 5, 2, 0, 0, 0, .int 0), (111, .putfield 84, 3, 3, 5, 208, .int 0), (114, .aload_n 0, 1, 0, 0, 0, .int 0), (115, .getfield 12, 3, 6, 5, 237, .int 0), (118, .aload 4, 2, 0, 0, 0, .int 0), (120, .invokevirtual 87, 3, 0, 0, 556, .int 0), (123, .istore 7, 2, 0, 0, 0, .int 0), (125, .iload 7, 2, 0, 0, 0, .int 0), (127, .ifCond .gt 18, 3, 0, 0, 0, .int 0), (130, .iload 7, 2, 0, 0, 0, .int 0), (132, .ifCond .ne 22, 3, 0, 0, 0, .int 0), (135, .iload 6, 2, 0, 0, 0, .int 0), (137, .aload 4, 2, 0, 0, 0, .int 0), (139, .getfield 81, 3, 3, 4, 205, .int 0), (142, .if_icmp .ge 12, 3, 0, 0, 0, .int 0), (145, .aload 4, 2, 0, 0, 0, .int 0), (147, .aload_n 0, 1, 0, 0, 0, .int 0), (148, .getfield 12, 3, 6, 5, 237, .int 0), (151, .invokevirtual 91, 3, 0, 0, 563, .int 0), (154, .iinc 6 1, 3, 0, 0, 0, .int 1), (157, .goto (-111), 3, 0, 0, 0, .int 0), (160, .return_, 1, 0, 0, 0, .int 0)]
set_option maxRecDepth 100000 in
theorem pg_X6_addNet_1_k : pg_X6_addNet_1.all (ds_okb mt_X6_addNet.1.cls mt_X6_addNet.2.1) = true := by decide +kernel
def pg_X6_addNet : List ds_I := pg_X6_addNet_0 ++ (pg_X6_addNet_1)
theorem pg_X6_addNet_k : pg_X6_addNet.all (ds_okb mt_X6_addNet.1.cls mt_X6_addNet.2.1) = true := (ds_all_and pg_X6_addNet_0_k pg_X6_addNet_1_k)
theorem ok_X6_addNet : ds_good mt_X6_addNet pg_X6_addNet := ds_good_of pg_X6_addNet_k (by decide +kernel)
def mt_X6_targetsOfLoads : ds_M := (⟨"WayWeights$Survey", "targetsOfLoads", "()I"⟩, prog_8_method_5_code, 4, some .int, 0, 0)
def pg_X6_targetsOfLoads : List ds_I := [(0, .iconst 0, 1, 0, 0, 0, .int 0), (1, .istore_n 1, 1, 0, 0, 0, .int 0), (2, .iconst 0, 1, 0, 0, 0, .int 0), (3, .istore_n 2, 1, 0, 0, 0, .int 0), (4, .iload_n 2, 1, 0, 0, 0, .int 0), (5, .iconst 3, 1, 0, 0, 0, .int 3), (6, .if_icmp .ge 43, 3, 0, 0, 0, .int 0), (9, .iconst 0, 1, 0, 0, 0, .int 0), (10, .istore_n 3, 1, 0, 0, 0, .int 0), (11, .iload_n 3, 1, 0, 0, 0, .int 0), (12, .bipush 36, 2, 0, 0, 0, .int 36), (14, .if_icmp .ge 29, 3, 0, 0, 0, .int 0), (17, .aload_n 0, 1, 0, 0, 0, .int 0), (18, .getfield 22, 3, 6, 1, 232, .int 0), (21, .iload_n 2, 1, 0, 0, 0, .int 0), (22, .aaload, 1, 14, 0, 0, .int 0), (23, .iload_n 3, 1, 0, 0, 0, .int 0), (24, .iaload, 1, 0, 0, 0, .int 0), (25, .ifCond .le 12, 3, 0, 0, 0, .int 0), (28, .iload_n 1, 1, 0, 0, 0, .int 0), (29, .iconst 1, 1, 0, 0, 0, .int 1), (30, .iload_n 3, 1, 0, 0, 0, .int 0), (31, .bipush 6, 2, 0, 0, 0, .int 6), (33, .irem, 1, 0, 0, 0, .int 0), (34, .ishl, 1, 0, 0, 0, .int 0), (35, .ior, 1, 0, 0, 0, .int 0), (36, .istore_n 1, 1, 0, 0, 0, .int 0), (37, .iinc 3 1, 3, 0, 0, 0, .int 1), (40, .goto (-29), 3, 0, 0, 0, .int 0), (43, .iinc 2 1, 3, 0, 0, 0, .int 1), (46, .goto (-42), 3, 0, 0, 0, .int 0), (49, .iload_n 1, 1, 0, 0, 0, .int 0), (50, .ireturn, 1, 0, 0, 0, .int 0)]
set_option maxRecDepth 100000 in
theorem pg_X6_targetsOfLoads_k : pg_X6_targetsOfLoads.all (ds_okb mt_X6_targetsOfLoads.1.cls mt_X6_targetsOfLoads.2.1) = true := by decide +kernel
theorem ok_X6_targetsOfLoads : ds_good mt_X6_targetsOfLoads pg_X6_targetsOfLoads := ds_good_of pg_X6_targetsOfLoads_k (by decide +kernel)
def mt_X7_find : ds_M := (⟨"WayWeights$Ways", "find", "(LWayWeights$Net;[III)V"⟩, prog_9_method_2_code, 8, none, 2, 51)
def pg_X7_find_0 : List ds_I := [(0, .aload_n 0, 1, 0, 0, 0, .int 0), (1, .getfield 9, 3, 7, 0, 139, .int 0), (4, .sipush 1000, 3, 0, 0, 0, .int 1000), (7, .invokestatic 27, 3, 0, 0, 439, .int 0), (10, .aload_n 0, 1, 0, 0, 0, .int 0), (11, .getfield 9, 3, 7, 0, 139, .int 0), (14, .iload 4, 2, 0, 0, 0, .int 0), (16, .iconst 0, 1, 0, 0, 0, .int 0), (17, .iastore, 1, 0, 0, 0, .int 0), (18, .aload_n 0, 1, 0, 0, 0, .int 0), (19, .iconst 0, 1, 0, 0, 0, .int 0), (20, .putfield 33, 3, 7, 2, 143, .int 0), (23, .iconst 1, 1, 0, 0, 0, .int 1), (24, .aload_n 1, 1, 0, 0, 0, .int 0), (25, .getfield 37, 3, 1, 0, 72, .int 0), (28, .ishl, 1, 0, 0, 0, .int 0), (29, .iconst 1, 1, 0, 0, 0, .int 1), (30, .isub, 1, 0, 0, 0, .int 0), (31, .istore 5, 2, 0, 0, 0, .int 0), (33, .iconst 0, 1, 0, 0, 0, .int 0), (34, .istore 6, 2, 0, 0, 0, .int 0), (36, .iload 6, 2, 0, 0, 0, .int 0), (38, .aload_n 1, 1, 0, 0, 0, .int 0), (39, .getfield 37, 3, 1, 0, 72, .int 0), (42, .if_icmp .ge 68, 3, 0, 0, 0, .int 0), (45, .aload_n 0, 1, 0, 0, 0, .int 0), (46, .aload_n 1, 1, 0, 0, 0, .int 0), (47, .iload 5, 2, 0, 0, 0, .int 0), (49, .invokevirtual 42, 3, 0, 0, 440, .int 0), (52, .istore 7, 2, 0, 0, 0, .int 0), (54, .iload 7, 2, 0, 0, 0, .int 0), (56, .iconst (-1), 1, 0, 0, 0, .int (-1)), (57, .if_icmp .ne 6, 3, 0, 0, 0, .int 0), (60, .goto 50, 3, 0, 0, 0, .int 0), (63, .iload 5, 2, 0, 0, 0, .int 0), (65, .iconst 1, 1, 0, 0, 0, .int 1), (66, .iload 7, 2, 0, 0, 0, .int 0), (68, .ishl, 1, 0, 0, 0, .int 0), (69, .iconst (-1), 1, 0, 0, 0, .int (-1)), (70, .ixor, 1, 0, 0, 0, .int 0)]
set_option maxRecDepth 100000 in
theorem pg_X7_find_0_k : pg_X7_find_0.all (ds_okb mt_X7_find.1.cls mt_X7_find.2.1) = true := by decide +kernel
def pg_X7_find_1 : List ds_I := [(71, .iand, 1, 0, 0, 0, .int 0), (72, .istore 5, 2, 0, 0, 0, .int 0), (74, .aload_n 0, 1, 0, 0, 0, .int 0), (75, .getfield 15, 3, 7, 1, 141, .int 0), (78, .aload_n 0, 1, 0, 0, 0, .int 0), (79, .getfield 33, 3, 7, 2, 143, .int 0), (82, .iload 7, 2, 0, 0, 0, .int 0), (84, .iastore, 1, 0, 0, 0, .int 0), (85, .aload_n 0, 1, 0, 0, 0, .int 0), (86, .dup, 1, 0, 0, 0, .int 0), (87, .getfield 33, 3, 7, 2, 143, .int 0), (90, .iconst 1, 1, 0, 0, 0, .int 1), (91, .iadd, 1, 0, 0, 0, .int 0), (92, .putfield 33, 3, 7, 2, 143, .int 0), (95, .aload_n 0, 1, 0, 0, 0, .int 0), (96, .iload 7, 2, 0, 0, 0, .int 0), (98, .aload_n 1, 1, 0, 0, 0, .int 0), (99, .aload_n 2, 1, 0, 0, 0, .int 0), (100, .iload_n 3, 1, 0, 0, 0, .int 0), (101, .invokevirtual 46, 3, 0, 0, 444, .int 0), (104, .iinc 6 1, 3, 0, 0, 0, .int 1), (107, .goto (-71), 3, 0, 0, 0, .int 0), (110, .aload_n 0, 1, 0, 0, 0, .int 0), (111, .aload_n 1, 1, 0, 0, 0, .int 0), (112, .aload_n 2, 1, 0, 0, 0, .int 0), (113, .iload_n 3, 1, 0, 0, 0, .int 0), (114, .invokevirtual 50, 3, 0, 0, 448, .int 0), (117, .return_, 1, 0, 0, 0, .int 0)]
set_option maxRecDepth 100000 in
theorem pg_X7_find_1_k : pg_X7_find_1.all (ds_okb mt_X7_find.1.cls mt_X7_find.2.1) = true := by decide +kernel
def pg_X7_find : List ds_I := pg_X7_find_0 ++ (pg_X7_find_1)
theorem pg_X7_find_k : pg_X7_find.all (ds_okb mt_X7_find.1.cls mt_X7_find.2.1) = true := (ds_all_and pg_X7_find_0_k pg_X7_find_1_k)
theorem ok_X7_find : ds_good mt_X7_find pg_X7_find := ds_good_of pg_X7_find_k (by decide +kernel)
def mt_X7_nearest : ds_M := (⟨"WayWeights$Ways", "nearest", "(LWayWeights$Net;I)I"⟩, prog_9_method_3_code, 6, some .int, 0, 0)
def pg_X7_nearest : List ds_I := [(0, .iconst (-1), 1, 0, 0, 0, .int (-1)), (1, .istore_n 3, 1, 0, 0, 0, .int 0), (2, .sipush 1000, 3, 0, 0, 0, .int 1000), (5, .istore 4, 2, 0, 0, 0, .int 0), (7, .iconst 0, 1, 0, 0, 0, .int 0), (8, .istore 5, 2, 0, 0, 0, .int 0), (10, .iload 5, 2, 0, 0, 0, .int 0), (12, .aload_n 1, 1, 0, 0, 0, .int 0), (13, .getfield 37, 3, 1, 0, 72, .int 0), (16, .if_icmp .ge 43, 3, 0, 0, 0, .int 0), (19, .aload_n 0, 1, 0, 0, 0, .int 0), (20, .getfield 9, 3, 7, 0, 139, .int 0), (23, .iload 5, 2, 0, 0, 0, .int 0), (25, .iaload, 1, 0, 0, 0, .int 0), (26, .iload 4, 2, 0, 0, 0, .int 0), (28, .if_icmp .ge 25, 3, 0, 0, 0, .int 0), (31, .iload_n 2, 1, 0, 0, 0, .int 0), (32, .iload 5, 2, 0, 0, 0, .int 0), (34, .ishr, 1, 0, 0, 0, .int 0), (35, .iconst 1, 1, 0, 0, 0, .int 1), (36, .iand, 1, 0, 0, 0, .int 0), (37, .iconst 1, 1, 0, 0, 0, .int 1), (38, .if_icmp .ne 15, 3, 0, 0, 0, .int 0), (41, .iload 5, 2, 0, 0, 0, .int 0), (43, .istore_n 3, 1, 0, 0, 0, .int 0), (44, .aload_n 0, 1, 0, 0, 0, .int 0), (45, .getfield 9, 3, 7, 0, 139, .int 0), (48, .iload 5, 2, 0, 0, 0, .int 0), (50, .iaload, 1, 0, 0, 0, .int 0), (51, .istore 4, 2, 0, 0, 0, .int 0), (53, .iinc 5 1, 3, 0, 0, 0, .int 1), (56, .goto (-46), 3, 0, 0, 0, .int 0), (59, .iload_n 3, 1, 0, 0, 0, .int 0), (60, .ireturn, 1, 0, 0, 0, .int 0)]
set_option maxRecDepth 100000 in
theorem pg_X7_nearest_k : pg_X7_nearest.all (ds_okb mt_X7_nearest.1.cls mt_X7_nearest.2.1) = true := by decide +kernel
theorem ok_X7_nearest : ds_good mt_X7_nearest pg_X7_nearest := ds_good_of pg_X7_nearest_k (by decide +kernel)
def mt_X7_comeNearerBy : ds_M := (⟨"WayWeights$Ways", "comeNearerBy", "(ILWayWeights$Net;[II)V"⟩, prog_9_method_4_code, 10, none, 0, 0)
def pg_X7_comeNearerBy_0 : List ds_I := [(0, .iconst 0, 1, 0, 0, 0, .int 0), (1, .istore 5, 2, 0, 0, 0, .int 0), (3, .iload 5, 2, 0, 0, 0, .int 0), (5, .aload_n 2, 1, 0, 0, 0, .int 0), (6, .getfield 54, 3, 1, 1, 80, .int 0), (9, .if_icmp .ge 109, 3, 0, 0, 0, .int 0), (12, .aload_n 2, 1, 0, 0, 0, .int 0), (13, .getfield 57, 3, 1, 2, 85, .int 0), (16, .iload 5, 2, 0, 0, 0, .int 0), (18, .iaload, 1, 0, 0, 0, .int 0), (19, .istore 6, 2, 0, 0, 0, .int 0), (21, .aload_n 2, 1, 0, 0, 0, .int 0), (22, .getfield 60, 3, 1, 3, 89, .int 0), (25, .iload 5, 2, 0, 0, 0, .int 0), (27, .iaload, 1, 0, 0, 0, .int 0), (28, .istore 7, 2, 0, 0, 0, .int 0), (30, .iload 6, 2, 0, 0, 0, .int 0), (32, .iload_n 1, 1, 0, 0, 0, .int 0), (33, .if_icmp .eq 9, 3, 0, 0, 0, .int 0), (36, .iload 7, 2, 0, 0, 0, .int 0), (38, .iload_n 1, 1, 0, 0, 0, .int 0), (39, .if_icmp .ne 73, 3, 0, 0, 0, .int 0), (42, .iload 4, 2, 0, 0, 0, .int 0), (44, .iload 5, 2, 0, 0, 0, .int 0), (46, .ishr, 1, 0, 0, 0, .int 0), (47, .iconst 1, 1, 0, 0, 0, .int 1), (48, .iand, 1, 0, 0, 0, .int 0), (49, .iconst 1, 1, 0, 0, 0, .int 1), (50, .if_icmp .ne 62, 3, 0, 0, 0, .int 0), (53, .iload 6, 2, 0, 0, 0, .int 0), (55, .iload_n 1, 1, 0, 0, 0, .int 0), (56, .if_icmp .ne 8, 3, 0, 0, 0, .int 0), (59, .iload 7, 2, 0, 0, 0, .int 0), (61, .goto 5, 3, 0, 0, 0, .int 0), (64, .iload 6, 2, 0, 0, 0, .int 0), (66, .istore 8, 2, 0, 0, 0, .int 0), (68, .aload_n 0, 1, 0, 0, 0, .int 0), (69, .getfield 9, 3, 7, 0, 139, .int 0), (72, .iload_n 1, 1, 0, 0, 0, .int 0), (73, .iaload, 1, 0, 0, 0, .int 0)]
set_option maxRecDepth 100000 in
theorem pg_X7_comeNearerBy_0_k : pg_X7_comeNearerBy_0.all (ds_okb mt_X7_comeNearerBy.1.cls mt_X7_comeNearerBy.2.1) = true := by decide +kernel
def pg_X7_comeNearerBy_1 : List ds_I := [(74, .aload_n 3, 1, 0, 0, 0, .int 0), (75, .iload 5, 2, 0, 0, 0, .int 0), (77, .iaload, 1, 0, 0, 0, .int 0), (78, .iadd, 1, 0, 0, 0, .int 0), (79, .istore 9, 2, 0, 0, 0, .int 0), (81, .aload_n 0, 1, 0, 0, 0, .int 0), (82, .getfield 9, 3, 7, 0, 139, .int 0), (85, .iload 8, 2, 0, 0, 0, .int 0), (87, .iload 9, 2, 0, 0, 0, .int 0), (89, .aload_n 0, 1, 0, 0, 0, .int 0), (90, .getfield 9, 3, 7, 0, 139, .int 0), (93, .iload 8, 2, 0, 0, 0, .int 0), (95, .iaload, 1, 0, 0, 0, .int 0), (96, .if_icmp .ge 8, 3, 0, 0, 0, .int 0), (99, .iload 9, 2, 0, 0, 0, .int 0), (101, .goto 10, 3, 0, 0, 0, .int 0), (104, .aload_n 0, 1, 0, 0, 0, .int 0), (105, .getfield 9, 3, 7, 0, 139, .int 0), (108, .iload 8, 2, 0, 0, 0, .int 0), (110, .iaload, 1, 0, 0, 0, .int 0), (111, .iastore, 1, 0, 0, 0, .int 0), (112, .iinc 5 1, 3, 0, 0, 0, .int 1), (115, .goto (-112), 3, 0, 0, 0, .int 0), (118, .return_, 1, 0, 0, 0, .int 0)]
set_option maxRecDepth 100000 in
theorem pg_X7_comeNearerBy_1_k : pg_X7_comeNearerBy_1.all (ds_okb mt_X7_comeNearerBy.1.cls mt_X7_comeNearerBy.2.1) = true := by decide +kernel
def pg_X7_comeNearerBy : List ds_I := pg_X7_comeNearerBy_0 ++ (pg_X7_comeNearerBy_1)
theorem pg_X7_comeNearerBy_k : pg_X7_comeNearerBy.all (ds_okb mt_X7_comeNearerBy.1.cls mt_X7_comeNearerBy.2.1) = true := (ds_all_and pg_X7_comeNearerBy_0_k pg_X7_comeNearerBy_1_k)
theorem ok_X7_comeNearerBy : ds_good mt_X7_comeNearerBy pg_X7_comeNearerBy := ds_good_of pg_X7_comeNearerBy_k (by decide +kernel)
def mt_X7_findNext : ds_M := (⟨"WayWeights$Ways", "findNext", "(LWayWeights$Net;[II)V"⟩, prog_9_method_5_code, 9, none, 1, 23)
def pg_X7_findNext_0 : List ds_I := [(0, .aload_n 0, 1, 0, 0, 0, .int 0), (1, .getfield 18, 3, 7, 3, 145, .int 0), (4, .iconst 0, 1, 0, 0, 0, .int 0), (5, .invokestatic 27, 3, 0, 0, 439, .int 0), (8, .iconst 0, 1, 0, 0, 0, .int 0), (9, .istore 4, 2, 0, 0, 0, .int 0), (11, .iload 4, 2, 0, 0, 0, .int 0), (13, .aload_n 1, 1, 0, 0, 0, .int 0), (14, .getfield 54, 3, 1, 1, 80, .int 0), (17, .if_icmp .ge 147, 3, 0, 0, 0, .int 0), (20, .aload_n 1, 1, 0, 0, 0, .int 0), (21, .getfield 57, 3, 1, 2, 85, .int 0), (24, .iload 4, 2, 0, 0, 0, .int 0), (26, .iaload, 1, 0, 0, 0, .int 0), (27, .istore 5, 2, 0, 0, 0, .int 0), (29, .aload_n 1, 1, 0, 0, 0, .int 0), (30, .getfield 60, 3, 1, 3, 89, .int 0), (33, .iload 4, 2, 0, 0, 0, .int 0), (35, .iaload, 1, 0, 0, 0, .int 0), (36, .istore 6, 2, 0, 0, 0, .int 0), (38, .aload_n 0, 1, 0, 0, 0, .int 0), (39, .getfield 9, 3, 7, 0, 139, .int 0), (42, .iload 5, 2, 0, 0, 0, .int 0), (44, .iaload, 1, 0, 0, 0, .int 0), (45, .aload_n 0, 1, 0, 0, 0, .int 0), (46, .getfield 9, 3, 7, 0, 139, .int 0), (49, .iload 6, 2, 0, 0, 0, .int 0), (51, .iaload, 1, 0, 0, 0, .int 0), (52, .isub, 1, 0, 0, 0, .int 0), (53, .istore 7, 2, 0, 0, 0, .int 0), (55, .iload_n 3, 1, 0, 0, 0, .int 0), (56, .iload 4, 2, 0, 0, 0, .int 0), (58, .ishr, 1, 0, 0, 0, .int 0), (59, .iconst 1, 1, 0, 0, 0, .int 1), (60, .iand, 1, 0, 0, 0, .int 0), (61, .iconst 1, 1, 0, 0, 0, .int 1), (62, .if_icmp .ne 26, 3, 0, 0, 0, .int 0), (65, .iload 7, 2, 0, 0, 0, .int 0), (67, .aload_n 2, 1, 0, 0, 0, .int 0), (68, .iload 4, 2, 0, 0, 0, .int 0)]
set_option maxRecDepth 100000 in
theorem pg_X7_findNext_0_k : pg_X7_findNext_0.all (ds_okb mt_X7_findNext.1.cls mt_X7_findNext.2.1) = true := by decide +kernel
def pg_X7_findNext_1 : List ds_I := [(70, .iaload, 1, 0, 0, 0, .int 0), (71, .if_icmp .eq 13, 3, 0, 0, 0, .int 0), (74, .iload 7, 2, 0, 0, 0, .int 0), (76, .ineg, 1, 0, 0, 0, .int 0), (77, .aload_n 2, 1, 0, 0, 0, .int 0), (78, .iload 4, 2, 0, 0, 0, .int 0), (80, .iaload, 1, 0, 0, 0, .int 0), (81, .if_icmp .ne 7, 3, 0, 0, 0, .int 0), (84, .iconst 1, 1, 0, 0, 0, .int 1), (85, .goto 4, 3, 0, 0, 0, .int 0), (88, .iconst 0, 1, 0, 0, 0, .int 0), (89, .istore 8, 2, 0, 0, 0, .int 0), (91, .aload_n 0, 1, 0, 0, 0, .int 0), (92, .getfield 21, 3, 7, 4, 147, .int 0), (95, .iload 4, 2, 0, 0, 0, .int 0), (97, .iconst (-1), 1, 0, 0, 0, .int (-1)), (98, .iastore, 1, 0, 0, 0, .int 0), (99, .iload 8, 2, 0, 0, 0, .int 0), (101, .ifCond .eq 57, 3, 0, 0, 0, .int 0), (104, .aload_n 0, 1, 0, 0, 0, .int 0), (105, .getfield 21, 3, 7, 4, 147, .int 0), (108, .iload 4, 2, 0, 0, 0, .int 0), (110, .iload 7, 2, 0, 0, 0, .int 0), (112, .ifCond .le 8, 3, 0, 0, 0, .int 0), (115, .iload 5, 2, 0, 0, 0, .int 0), (117, .goto 5, 3, 0, 0, 0, .int 0), (120, .iload 6, 2, 0, 0, 0, .int 0), (122, .iastore, 1, 0, 0, 0, .int 0), (123, .aload_n 0, 1, 0, 0, 0, .int 0), (124, .getfield 24, 3, 7, 5, 151, .int 0), (127, .iload 4, 2, 0, 0, 0, .int 0), (129, .iload 7, 2, 0, 0, 0, .int 0), (131, .ifCond .le 8, 3, 0, 0, 0, .int 0), (134, .iload 6, 2, 0, 0, 0, .int 0), (136, .goto 5, 3, 0, 0, 0, .int 0), (139, .iload 5, 2, 0, 0, 0, .int 0), (141, .iastore, 1, 0, 0, 0, .int 0), (142, .aload_n 0, 1, 0, 0, 0, .int 0), (143, .getfield 18, 3, 7, 3, 145, .int 0), (146, .aload_n 0, 1, 0, 0, 0, .int 0)]
set_option maxRecDepth 100000 in
theorem pg_X7_findNext_1_k : pg_X7_findNext_1.all (ds_okb mt_X7_findNext.1.cls mt_X7_findNext.2.1) = true := by decide +kernel
def pg_X7_findNext_2 : List ds_I := [(147, .getfield 21, 3, 7, 4, 147, .int 0), (150, .iload 4, 2, 0, 0, 0, .int 0), (152, .iaload, 1, 0, 0, 0, .int 0), (153, .dup2, 1, 0, 0, 0, .int 0), (154, .iaload, 1, 0, 0, 0, .int 0), (155, .iconst 1, 1, 0, 0, 0, .int 1), (156, .iadd, 1, 0, 0, 0, .int 0), (157, .iastore, 1, 0, 0, 0, .int 0), (158, .iinc 4 1, 3, 0, 0, 0, .int 1), (161, .goto (-150), 3, 0, 0, 0, .int 0), (164, .return_, 1, 0, 0, 0, .int 0)]
set_option maxRecDepth 100000 in
theorem pg_X7_findNext_2_k : pg_X7_findNext_2.all (ds_okb mt_X7_findNext.1.cls mt_X7_findNext.2.1) = true := by decide +kernel
def pg_X7_findNext : List ds_I := pg_X7_findNext_0 ++ (pg_X7_findNext_1 ++ (pg_X7_findNext_2))
theorem pg_X7_findNext_k : pg_X7_findNext.all (ds_okb mt_X7_findNext.1.cls mt_X7_findNext.2.1) = true := (ds_all_and pg_X7_findNext_0_k (ds_all_and pg_X7_findNext_1_k pg_X7_findNext_2_k))
theorem ok_X7_findNext : ds_good mt_X7_findNext pg_X7_findNext := ds_good_of pg_X7_findNext_k (by decide +kernel)
def mt_J13_compare_74951 : ds_M := (⟨"java/lang/Long", "compare", "(JJ)I"⟩, prog_12_method_42_code, 4, some .int, 0, 0)
def pg_J13_compare_74951 : List ds_I := [(0, .lload_n 0, 1, 0, 0, 0, .int 0), (1, .lload_n 2, 1, 0, 0, 0, .int 0), (2, .lcmp, 1, 0, 0, 0, .int 0), (3, .ifCond .ge 7, 3, 0, 0, 0, .int 0), (6, .iconst (-1), 1, 0, 0, 0, .int (-1)), (7, .goto 14, 3, 0, 0, 0, .int 0), (10, .lload_n 0, 1, 0, 0, 0, .int 0), (11, .lload_n 2, 1, 0, 0, 0, .int 0), (12, .lcmp, 1, 0, 0, 0, .int 0), (13, .ifCond .ne 7, 3, 0, 0, 0, .int 0), (16, .iconst 0, 1, 0, 0, 0, .int 0), (17, .goto 4, 3, 0, 0, 0, .int 0), (20, .iconst 1, 1, 0, 0, 0, .int 1), (21, .ireturn, 1, 0, 0, 0, .int 0)]
set_option maxRecDepth 100000 in
theorem pg_J13_compare_74951_k : pg_J13_compare_74951.all (ds_okb mt_J13_compare_74951.1.cls mt_J13_compare_74951.2.1) = true := by decide +kernel
theorem ok_J13_compare_74951 : ds_good mt_J13_compare_74951 pg_J13_compare_74951 := ds_good_of pg_J13_compare_74951_k (by decide +kernel)
def mt_J9_min_f86c9 : ds_M := (⟨"java/lang/Math", "min", "(JJ)J"⟩, prog_13_method_70_code, 4, some .long, 0, 0)
def pg_J9_min_f86c9 : List ds_I := [(0, .lload_n 0, 1, 0, 0, 0, .int 0), (1, .lload_n 2, 1, 0, 0, 0, .int 0), (2, .lcmp, 1, 0, 0, 0, .int 0), (3, .ifCond .gt 7, 3, 0, 0, 0, .int 0), (6, .lload_n 0, 1, 0, 0, 0, .int 0), (7, .goto 4, 3, 0, 0, 0, .int 0), (10, .lload_n 2, 1, 0, 0, 0, .int 0), (11, .lreturn, 1, 0, 0, 0, .int 0)]
set_option maxRecDepth 100000 in
theorem pg_J9_min_f86c9_k : pg_J9_min_f86c9.all (ds_okb mt_J9_min_f86c9.1.cls mt_J9_min_f86c9.2.1) = true := by decide +kernel
theorem ok_J9_min_f86c9 : ds_good mt_J9_min_f86c9 pg_J9_min_f86c9 := ds_good_of pg_J9_min_f86c9_k (by decide +kernel)
def mt_J7_fill_d0a16 : ds_M := (⟨"java/util/Arrays", "fill", "([JJ)V"⟩, prog_15_method_101_code, 5, none, 0, 0)
def pg_J7_fill_d0a16 : List ds_I := [(0, .iconst 0, 1, 0, 0, 0, .int 0), (1, .istore_n 3, 1, 0, 0, 0, .int 0), (2, .aload_n 0, 1, 0, 0, 0, .int 0), (3, .arraylength, 1, 11, 0, 0, .int 0), (4, .istore 4, 2, 0, 0, 0, .int 0), (6, .iload_n 3, 1, 0, 0, 0, .int 0), (7, .iload 4, 2, 0, 0, 0, .int 0), (9, .if_icmp .ge 13, 3, 0, 0, 0, .int 0), (12, .aload_n 0, 1, 0, 0, 0, .int 0), (13, .iload_n 3, 1, 0, 0, 0, .int 0), (14, .lload_n 1, 1, 0, 0, 0, .int 0), (15, .lastore, 1, 0, 0, 0, .int 0), (16, .iinc 3 1, 3, 0, 0, 0, .int 1), (19, .goto (-13), 3, 0, 0, 0, .int 0), (22, .return_, 1, 0, 0, 0, .int 0)]
set_option maxRecDepth 100000 in
theorem pg_J7_fill_d0a16_k : pg_J7_fill_d0a16.all (ds_okb mt_J7_fill_d0a16.1.cls mt_J7_fill_d0a16.2.1) = true := by decide +kernel
theorem ok_J7_fill_d0a16 : ds_good mt_J7_fill_d0a16 pg_J7_fill_d0a16 := ds_good_of pg_J7_fill_d0a16_k (by decide +kernel)
def mt_J7_fill_53178 : ds_M := (⟨"java/util/Arrays", "fill", "([II)V"⟩, prog_15_method_103_code, 4, none, 0, 0)
def pg_J7_fill_53178 : List ds_I := [(0, .iconst 0, 1, 0, 0, 0, .int 0), (1, .istore_n 2, 1, 0, 0, 0, .int 0), (2, .aload_n 0, 1, 0, 0, 0, .int 0), (3, .arraylength, 1, 10, 0, 0, .int 0), (4, .istore_n 3, 1, 0, 0, 0, .int 0), (5, .iload_n 2, 1, 0, 0, 0, .int 0), (6, .iload_n 3, 1, 0, 0, 0, .int 0), (7, .if_icmp .ge 13, 3, 0, 0, 0, .int 0), (10, .aload_n 0, 1, 0, 0, 0, .int 0), (11, .iload_n 2, 1, 0, 0, 0, .int 0), (12, .iload_n 1, 1, 0, 0, 0, .int 0), (13, .iastore, 1, 0, 0, 0, .int 0), (14, .iinc 2 1, 3, 0, 0, 0, .int 1), (17, .goto (-12), 3, 0, 0, 0, .int 0), (20, .return_, 1, 0, 0, 0, .int 0)]
set_option maxRecDepth 100000 in
theorem pg_J7_fill_53178_k : pg_J7_fill_53178.all (ds_okb mt_J7_fill_53178.1.cls mt_J7_fill_53178.2.1) = true := by decide +kernel
theorem ok_J7_fill_53178 : ds_good mt_J7_fill_53178 pg_J7_fill_53178 := ds_good_of pg_J7_fill_53178_k (by decide +kernel)
end
section
def mt_X2_firstRing : ds_M := (⟨"WayWeights$News", "firstRing", "(II)I"⟩, prog_4_method_2_code, 4, some .int, 5, 127)
def pg_X2_firstRing : List ds_I := [(0, .aload_n 0, 1, 0, 0, 0, .int 0), (1, .getfield 21, 3, 2, 0, 309, .int 0), (4, .getfield 29, 3, 1, 5, 95, .int 0), (7, .iload_n 1, 1, 0, 0, 0, .int 0), (8, .iaload, 1, 0, 0, 0, .int 0), (9, .istore_n 3, 1, 0, 0, 0, .int 0), (10, .aload_n 0, 1, 0, 0, 0, .int 0), (11, .iload_n 1, 1, 0, 0, 0, .int 0), (12, .iload_n 3, 1, 0, 0, 0, .int 0), (13, .invokevirtual 34, 3, 0, 0, 641, .int 0), (16, .aload_n 0, 1, 0, 0, 0, .int 0), (17, .iload_n 1, 1, 0, 0, 0, .int 0), (18, .iload_n 2, 1, 0, 0, 0, .int 0), (19, .invokevirtual 34, 3, 0, 0, 641, .int 0), (22, .aload_n 0, 1, 0, 0, 0, .int 0), (23, .iload_n 3, 1, 0, 0, 0, .int 0), (24, .iload_n 2, 1, 0, 0, 0, .int 0), (25, .invokevirtual 38, 3, 0, 0, 654, .int 0), (28, .ireturn, 1, 0, 0, 0, .int 0)]
set_option maxRecDepth 100000 in
theorem pg_X2_firstRing_k : pg_X2_firstRing.all (ds_okb mt_X2_firstRing.1.cls mt_X2_firstRing.2.1) = true := by decide +kernel
theorem ok_X2_firstRing : ds_good mt_X2_firstRing pg_X2_firstRing := ds_good_of pg_X2_firstRing_k (by decide +kernel)
def mt_X2_countChanges : ds_M := (⟨"WayWeights$News", "countChanges", "(II)I"⟩, prog_4_method_3_code, 3, some .int, 6, 151)
def pg_X2_countChanges : List ds_I := [(0, .aload_n 0, 1, 0, 0, 0, .int 0), (1, .iload_n 1, 1, 0, 0, 0, .int 0), (2, .iload_n 2, 1, 0, 0, 0, .int 0), (3, .invokevirtual 42, 3, 0, 0, 670, .int 0), (6, .aload_n 0, 1, 0, 0, 0, .int 0), (7, .getfield 18, 3, 2, 4, 313, .int 0), (10, .aload_n 0, 1, 0, 0, 0, .int 0), (11, .getfield 21, 3, 2, 0, 309, .int 0), (14, .getfield 29, 3, 1, 5, 95, .int 0), (17, .iload_n 1, 1, 0, 0, 0, .int 0), (18, .iaload, 1, 0, 0, 0, .int 0), (19, .iaload, 1, 0, 0, 0, .int 0), (20, .ireturn, 1, 0, 0, 0, .int 0)]
set_option maxRecDepth 100000 in
theorem pg_X2_countChanges_k : pg_X2_countChanges.all (ds_okb mt_X2_countChanges.1.cls mt_X2_countChanges.2.1) = true := by decide +kernel
theorem ok_X2_countChanges : ds_good mt_X2_countChanges pg_X2_countChanges := ds_good_of pg_X2_countChanges_k (by decide +kernel)
def mt_X2_valueAt : ds_M := (⟨"WayWeights$News", "valueAt", "(III)I"⟩, prog_4_method_4_code, 6, some .int, 6, 151)
def pg_X2_valueAt : List ds_I := [(0, .aload_n 0, 1, 0, 0, 0, .int 0), (1, .iload_n 1, 1, 0, 0, 0, .int 0), (2, .iload_n 2, 1, 0, 0, 0, .int 0), (3, .invokevirtual 42, 3, 0, 0, 670, .int 0), (6, .aload_n 0, 1, 0, 0, 0, .int 0), (7, .getfield 21, 3, 2, 0, 309, .int 0), (10, .getfield 29, 3, 1, 5, 95, .int 0), (13, .iload_n 1, 1, 0, 0, 0, .int 0), (14, .iaload, 1, 0, 0, 0, .int 0), (15, .istore 4, 2, 0, 0, 0, .int 0), (17, .iload_n 3, 1, 0, 0, 0, .int 0), (18, .ifCond .lt 14, 3, 0, 0, 0, .int 0), (21, .iload_n 3, 1, 0, 0, 0, .int 0), (22, .aload_n 0, 1, 0, 0, 0, .int 0), (23, .getfield 18, 3, 2, 4, 313, .int 0), (26, .iload 4, 2, 0, 0, 0, .int 0), (28, .iaload, 1, 0, 0, 0, .int 0), (29, .if_icmp .lt 6, 3, 0, 0, 0, .int 0), (32, .bipush (-6), 2, 0, 0, 0, .int (-6)), (34, .ireturn, 1, 0, 0, 0, .int 0), (35, .iconst 0, 1, 0, 0, 0, .int 0), (36, .istore 5, 2, 0, 0, 0, .int 0), (38, .iload 5, 2, 0, 0, 0, .int 0), (40, .iload_n 3, 1, 0, 0, 0, .int 0), (41, .if_icmp .gt 17, 3, 0, 0, 0, .int 0), (44, .aload_n 0, 1, 0, 0, 0, .int 0), (45, .iload 4, 2, 0, 0, 0, .int 0), (47, .invokevirtual 45, 3, 0, 0, 687, .int 0), (50, .istore 4, 2, 0, 0, 0, .int 0), (52, .iinc 5 1, 3, 0, 0, 0, .int 1), (55, .goto (-17), 3, 0, 0, 0, .int 0), (58, .iload 4, 2, 0, 0, 0, .int 0), (60, .ireturn, 1, 0, 0, 0, .int 0)]
set_option maxRecDepth 100000 in
theorem pg_X2_valueAt_k : pg_X2_valueAt.all (ds_okb mt_X2_valueAt.1.cls mt_X2_valueAt.2.1) = true := by decide +kernel
theorem ok_X2_valueAt : ds_good mt_X2_valueAt pg_X2_valueAt := ds_good_of pg_X2_valueAt_k (by decide +kernel)
def mt_X2_leastNearer : ds_M := (⟨"WayWeights$News", "leastNearer", "(I)I"⟩, prog_4_method_5_code, 3, some .int, 3, 72)
def pg_X2_leastNearer : List ds_I := [(0, .iconst 1, 1, 0, 0, 0, .int 1), (1, .istore_n 2, 1, 0, 0, 0, .int 0), (2, .iload_n 2, 1, 0, 0, 0, .int 0), (3, .bipush 20, 2, 0, 0, 0, .int 20), (5, .if_icmp .gt 39, 3, 0, 0, 0, .int 0), (8, .aload_n 0, 1, 0, 0, 0, .int 0), (9, .getfield 18, 3, 2, 4, 313, .int 0), (12, .iload_n 2, 1, 0, 0, 0, .int 0), (13, .iaload, 1, 0, 0, 0, .int 0), (14, .aload_n 0, 1, 0, 0, 0, .int 0), (15, .getfield 18, 3, 2, 4, 313, .int 0), (18, .iload_n 1, 1, 0, 0, 0, .int 0), (19, .iaload, 1, 0, 0, 0, .int 0), (20, .iconst 1, 1, 0, 0, 0, .int 1), (21, .isub, 1, 0, 0, 0, .int 0), (22, .if_icmp .ne 16, 3, 0, 0, 0, .int 0), (25, .aload_n 0, 1, 0, 0, 0, .int 0), (26, .iload_n 1, 1, 0, 0, 0, .int 0), (27, .iload_n 2, 1, 0, 0, 0, .int 0), (28, .invokevirtual 38, 3, 0, 0, 654, .int 0), (31, .bipush (-6), 2, 0, 0, 0, .int (-6)), (33, .if_icmp .ne 5, 3, 0, 0, 0, .int 0), (36, .iload_n 2, 1, 0, 0, 0, .int 0), (37, .ireturn, 1, 0, 0, 0, .int 0), (38, .iinc 2 1, 3, 0, 0, 0, .int 1), (41, .goto (-39), 3, 0, 0, 0, .int 0), (44, .iload_n 1, 1, 0, 0, 0, .int 0), (45, .ireturn, 1, 0, 0, 0, .int 0)]
set_option maxRecDepth 100000 in
theorem pg_X2_leastNearer_k : pg_X2_leastNearer.all (ds_okb mt_X2_leastNearer.1.cls mt_X2_leastNearer.2.1) = true := by decide +kernel
theorem ok_X2_leastNearer : ds_good mt_X2_leastNearer pg_X2_leastNearer := ds_good_of pg_X2_leastNearer_k (by decide +kernel)
def mt_X2_measure : ds_M := (⟨"WayWeights$News", "measure", "(II)V"⟩, prog_4_method_6_code, 5, none, 5, 127)
def pg_X2_measure_0 : List ds_I := [(0, .iconst 1, 1, 0, 0, 0, .int 1), (1, .istore_n 3, 1, 0, 0, 0, .int 0), (2, .iload_n 3, 1, 0, 0, 0, .int 0), (3, .bipush 20, 2, 0, 0, 0, .int 20), (5, .if_icmp .gt 15, 3, 0, 0, 0, .int 0), (8, .aload_n 0, 1, 0, 0, 0, .int 0), (9, .iload_n 1, 1, 0, 0, 0, .int 0), (10, .iload_n 3, 1, 0, 0, 0, .int 0), (11, .invokevirtual 34, 3, 0, 0, 641, .int 0), (14, .iinc 3 1, 3, 0, 0, 0, .int 1), (17, .goto (-15), 3, 0, 0, 0, .int 0), (20, .aload_n 0, 1, 0, 0, 0, .int 0), (21, .getfield 18, 3, 2, 4, 313, .int 0), (24, .bipush (-6), 2, 0, 0, 0, .int (-6)), (26, .invokestatic 49, 3, 0, 0, 674, .int 0), (29, .aload_n 0, 1, 0, 0, 0, .int 0), (30, .getfield 18, 3, 2, 4, 313, .int 0), (33, .iload_n 2, 1, 0, 0, 0, .int 0), (34, .iconst 0, 1, 0, 0, 0, .int 0), (35, .iastore, 1, 0, 0, 0, .int 0), (36, .iconst 0, 1, 0, 0, 0, .int 0), (37, .istore_n 3, 1, 0, 0, 0, .int 0), (38, .iload_n 3, 1, 0, 0, 0, .int 0), (39, .bipush 20, 2, 0, 0, 0, .int 20), (41, .if_icmp .ge 61, 3, 0, 0, 0, .int 0), (44, .aload_n 0, 1, 0, 0, 0, .int 0), (45, .getfield 18, 3, 2, 4, 313, .int 0), (48, .aload_n 0, 1, 0, 0, 0, .int 0), (49, .getfield 21, 3, 2, 0, 309, .int 0), (52, .getfield 29, 3, 1, 5, 95, .int 0), (55, .iload_n 1, 1, 0, 0, 0, .int 0), (56, .iaload, 1, 0, 0, 0, .int 0), (57, .iaload, 1, 0, 0, 0, .int 0), (58, .bipush (-6), 2, 0, 0, 0, .int (-6)), (60, .if_icmp .ne 42, 3, 0, 0, 0, .int 0), (63, .iconst 1, 1, 0, 0, 0, .int 1), (64, .istore 4, 2, 0, 0, 0, .int 0), (66, .iload 4, 2, 0, 0, 0, .int 0), (68, .bipush 20, 2, 0, 0, 0, .int 20), (70, .if_icmp .gt 26, 3, 0, 0, 0, .int 0)]
set_option maxRecDepth 100000 in
theorem pg_X2_measure_0_k : pg_X2_measure_0.all (ds_okb mt_X2_measure.1.cls mt_X2_measure.2.1) = true := by decide +kernel
def pg_X2_measure_1 : List ds_I := [(73, .aload_n 0, 1, 0, 0, 0, .int 0), (74, .getfield 18, 3, 2, 4, 313, .int 0), (77, .iload 4, 2, 0, 0, 0, .int 0), (79, .iaload, 1, 0, 0, 0, .int 0), (80, .iload_n 3, 1, 0, 0, 0, .int 0), (81, .if_icmp .ne 9, 3, 0, 0, 0, .int 0), (84, .aload_n 0, 1, 0, 0, 0, .int 0), (85, .iload 4, 2, 0, 0, 0, .int 0), (87, .invokevirtual 55, 3, 0, 0, 675, .int 0), (90, .iinc 4 1, 3, 0, 0, 0, .int 1), (93, .goto (-27), 3, 0, 0, 0, .int 0), (96, .iinc 3 1, 3, 0, 0, 0, .int 1), (99, .goto (-61), 3, 0, 0, 0, .int 0), (102, .return_, 1, 0, 0, 0, .int 0)]
set_option maxRecDepth 100000 in
theorem pg_X2_measure_1_k : pg_X2_measure_1.all (ds_okb mt_X2_measure.1.cls mt_X2_measure.2.1) = true := by decide +kernel
def pg_X2_measure : List ds_I := pg_X2_measure_0 ++ (pg_X2_measure_1)
theorem pg_X2_measure_k : pg_X2_measure.all (ds_okb mt_X2_measure.1.cls mt_X2_measure.2.1) = true := (ds_all_and pg_X2_measure_0_k pg_X2_measure_1_k)
theorem ok_X2_measure : ds_good mt_X2_measure pg_X2_measure := ds_good_of pg_X2_measure_k (by decide +kernel)
def mt_X2_meetFrom : ds_M := (⟨"WayWeights$News", "meetFrom", "(I)V"⟩, prog_4_method_7_code, 3, none, 3, 72)
def pg_X2_meetFrom : List ds_I := [(0, .iconst 1, 1, 0, 0, 0, .int 1), (1, .istore_n 2, 1, 0, 0, 0, .int 0), (2, .iload_n 2, 1, 0, 0, 0, .int 0), (3, .bipush 20, 2, 0, 0, 0, .int 20), (5, .if_icmp .gt 45, 3, 0, 0, 0, .int 0), (8, .aload_n 0, 1, 0, 0, 0, .int 0), (9, .getfield 18, 3, 2, 4, 313, .int 0), (12, .iload_n 2, 1, 0, 0, 0, .int 0), (13, .iaload, 1, 0, 0, 0, .int 0), (14, .bipush (-6), 2, 0, 0, 0, .int (-6)), (16, .if_icmp .ne 28, 3, 0, 0, 0, .int 0), (19, .aload_n 0, 1, 0, 0, 0, .int 0), (20, .iload_n 1, 1, 0, 0, 0, .int 0), (21, .iload_n 2, 1, 0, 0, 0, .int 0), (22, .invokevirtual 38, 3, 0, 0, 654, .int 0), (25, .bipush (-6), 2, 0, 0, 0, .int (-6)), (27, .if_icmp .ne 17, 3, 0, 0, 0, .int 0), (30, .aload_n 0, 1, 0, 0, 0, .int 0), (31, .getfield 18, 3, 2, 4, 313, .int 0), (34, .iload_n 2, 1, 0, 0, 0, .int 0), (35, .aload_n 0, 1, 0, 0, 0, .int 0), (36, .getfield 18, 3, 2, 4, 313, .int 0), (39, .iload_n 1, 1, 0, 0, 0, .int 0), (40, .iaload, 1, 0, 0, 0, .int 0), (41, .iconst 1, 1, 0, 0, 0, .int 1), (42, .iadd, 1, 0, 0, 0, .int 0), (43, .iastore, 1, 0, 0, 0, .int 0), (44, .iinc 2 1, 3, 0, 0, 0, .int 1), (47, .goto (-45), 3, 0, 0, 0, .int 0), (50, .return_, 1, 0, 0, 0, .int 0)]
set_option maxRecDepth 100000 in
theorem pg_X2_meetFrom_k : pg_X2_meetFrom.all (ds_okb mt_X2_meetFrom.1.cls mt_X2_meetFrom.2.1) = true := by decide +kernel
theorem ok_X2_meetFrom : ds_good mt_X2_meetFrom pg_X2_meetFrom := ds_good_of pg_X2_meetFrom_k (by decide +kernel)
def mt_X2_learn : ds_M := (⟨"WayWeights$News", "learn", "(II)V"⟩, prog_4_method_8_code, 4, none, 4, 104)
def pg_X2_learn_0 : List ds_I := [(0, .aload_n 0, 1, 0, 0, 0, .int 0), (1, .getfield 21, 3, 2, 0, 309, .int 0), (4, .getfield 29, 3, 1, 5, 95, .int 0), (7, .iconst 0, 1, 0, 0, 0, .int 0), (8, .aload_n 0, 1, 0, 0, 0, .int 0), (9, .getfield 9, 3, 2, 2, 311, .int 0), (12, .iconst 0, 1, 0, 0, 0, .int 0), (13, .bipush 10, 2, 0, 0, 0, .int 10), (15, .invokestatic 59, 3, 0, 0, 645, .int 0), (18, .aload_n 0, 1, 0, 0, 0, .int 0), (19, .getfield 9, 3, 2, 2, 311, .int 0), (22, .iload_n 1, 1, 0, 0, 0, .int 0), (23, .iload_n 2, 1, 0, 0, 0, .int 0), (24, .iastore, 1, 0, 0, 0, .int 0), (25, .aload_n 0, 1, 0, 0, 0, .int 0), (26, .getfield 25, 3, 2, 1, 310, .int 0), (29, .aload_n 0, 1, 0, 0, 0, .int 0), (30, .getfield 21, 3, 2, 0, 309, .int 0), (33, .aload_n 0, 1, 0, 0, 0, .int 0), (34, .getfield 9, 3, 2, 2, 311, .int 0), (37, .iconst (-1), 1, 0, 0, 0, .int (-1)), (38, .iconst 1, 1, 0, 0, 0, .int 1), (39, .aload_n 0, 1, 0, 0, 0, .int 0), (40, .getfield 21, 3, 2, 0, 309, .int 0), (43, .getfield 65, 3, 1, 0, 75, .int 0), (46, .ishl, 1, 0, 0, 0, .int 0), (47, .iconst 1, 1, 0, 0, 0, .int 1), (48, .isub, 1, 0, 0, 0, .int 0), (49, .invokevirtual 69, 3, 0, 0, 646, .int 0), (52, .iconst 0, 1, 0, 0, 0, .int 0), (53, .istore_n 3, 1, 0, 0, 0, .int 0), (54, .iload_n 3, 1, 0, 0, 0, .int 0), (55, .aload_n 0, 1, 0, 0, 0, .int 0), (56, .getfield 21, 3, 2, 0, 309, .int 0), (59, .getfield 65, 3, 1, 0, 75, .int 0), (62, .if_icmp .ge 24, 3, 0, 0, 0, .int 0), (65, .aload_n 0, 1, 0, 0, 0, .int 0), (66, .iload_n 2, 1, 0, 0, 0, .int 0), (67, .iload_n 3, 1, 0, 0, 0, .int 0), (68, .aload_n 0, 1, 0, 0, 0, .int 0)]
set_option maxRecDepth 100000 in
theorem pg_X2_learn_0_k : pg_X2_learn_0.all (ds_okb mt_X2_learn.1.cls mt_X2_learn.2.1) = true := by decide +kernel
def pg_X2_learn_1 : List ds_I := [(69, .getfield 25, 3, 2, 1, 310, .int 0), (72, .getfield 75, 3, 4, 0, 169, .int 0), (75, .iload_n 3, 1, 0, 0, 0, .int 0), (76, .aaload, 1, 13, 0, 0, .int 0), (77, .invokevirtual 79, 3, 0, 0, 647, .int 0), (80, .iinc 3 1, 3, 0, 0, 0, .int 1), (83, .goto (-29), 3, 0, 0, 0, .int 0), (86, .return_, 1, 0, 0, 0, .int 0)]
set_option maxRecDepth 100000 in
theorem pg_X2_learn_1_k : pg_X2_learn_1.all (ds_okb mt_X2_learn.1.cls mt_X2_learn.2.1) = true := by decide +kernel
def pg_X2_learn : List ds_I := pg_X2_learn_0 ++ (pg_X2_learn_1)
theorem pg_X2_learn_k : pg_X2_learn.all (ds_okb mt_X2_learn.1.cls mt_X2_learn.2.1) = true := (ds_all_and pg_X2_learn_0_k pg_X2_learn_1_k)
theorem ok_X2_learn : ds_good mt_X2_learn pg_X2_learn := ds_good_of pg_X2_learn_k (by decide +kernel)
def mt_X2_learnSteps : ds_M := (⟨"WayWeights$News", "learnSteps", "(IILWayWeights$Ways;)V"⟩, prog_4_method_9_code, 5, none, 1, 22)
def pg_X2_learnSteps_0 : List ds_I := [(0, .iconst 0, 1, 0, 0, 0, .int 0), (1, .istore 4, 2, 0, 0, 0, .int 0), (3, .iload 4, 2, 0, 0, 0, .int 0), (5, .aload_n 0, 1, 0, 0, 0, .int 0), (6, .getfield 21, 3, 2, 0, 309, .int 0), (9, .getfield 65, 3, 1, 0, 75, .int 0), (12, .if_icmp .ge 22, 3, 0, 0, 0, .int 0), (15, .aload_n 0, 1, 0, 0, 0, .int 0), (16, .getfield 15, 3, 2, 3, 312, .int 0), (19, .iload_n 1, 1, 0, 0, 0, .int 0), (20, .iload_n 2, 1, 0, 0, 0, .int 0), (21, .iload 4, 2, 0, 0, 0, .int 0), (23, .invokestatic 83, 3, 0, 0, 651, .int 0), (26, .iconst 0, 1, 0, 0, 0, .int 0), (27, .iastore, 1, 0, 0, 0, .int 0), (28, .iinc 4 1, 3, 0, 0, 0, .int 1), (31, .goto (-28), 3, 0, 0, 0, .int 0), (34, .iconst 0, 1, 0, 0, 0, .int 0), (35, .istore 4, 2, 0, 0, 0, .int 0), (37, .iload 4, 2, 0, 0, 0, .int 0), (39, .aload_n 0, 1, 0, 0, 0, .int 0), (40, .getfield 21, 3, 2, 0, 309, .int 0), (43, .getfield 87, 3, 1, 1, 83, .int 0), (46, .if_icmp .ge 49, 3, 0, 0, 0, .int 0), (49, .aload_n 3, 1, 0, 0, 0, .int 0), (50, .getfield 90, 3, 7, 4, 149, .int 0), (53, .iload 4, 2, 0, 0, 0, .int 0), (55, .iaload, 1, 0, 0, 0, .int 0), (56, .iconst (-1), 1, 0, 0, 0, .int (-1)), (57, .if_icmp .eq 32, 3, 0, 0, 0, .int 0), (60, .aload_n 0, 1, 0, 0, 0, .int 0), (61, .getfield 15, 3, 2, 3, 312, .int 0), (64, .iload_n 1, 1, 0, 0, 0, .int 0), (65, .iload_n 2, 1, 0, 0, 0, .int 0), (66, .aload_n 3, 1, 0, 0, 0, .int 0), (67, .getfield 90, 3, 7, 4, 149, .int 0), (70, .iload 4, 2, 0, 0, 0, .int 0), (72, .iaload, 1, 0, 0, 0, .int 0), (73, .invokestatic 83, 3, 0, 0, 651, .int 0), (76, .dup2, 1, 0, 0, 0, .int 0)]
set_option maxRecDepth 100000 in
theorem pg_X2_learnSteps_0_k : pg_X2_learnSteps_0.all (ds_okb mt_X2_learnSteps.1.cls mt_X2_learnSteps.2.1) = true := by decide +kernel
def pg_X2_learnSteps_1 : List ds_I := [(77, .iaload, 1, 0, 0, 0, .int 0), (78, .iconst 1, 1, 0, 0, 0, .int 1), (79, .aload_n 3, 1, 0, 0, 0, .int 0), (80, .getfield 95, 3, 7, 5, 153, .int 0), (83, .iload 4, 2, 0, 0, 0, .int 0), (85, .iaload, 1, 0, 0, 0, .int 0), (86, .ishl, 1, 0, 0, 0, .int 0), (87, .ior, 1, 0, 0, 0, .int 0), (88, .iastore, 1, 0, 0, 0, .int 0), (89, .iinc 4 1, 3, 0, 0, 0, .int 1), (92, .goto (-55), 3, 0, 0, 0, .int 0), (95, .return_, 1, 0, 0, 0, .int 0)]
set_option maxRecDepth 100000 in
theorem pg_X2_learnSteps_1_k : pg_X2_learnSteps_1.all (ds_okb mt_X2_learnSteps.1.cls mt_X2_learnSteps.2.1) = true := by decide +kernel
def pg_X2_learnSteps : List ds_I := pg_X2_learnSteps_0 ++ (pg_X2_learnSteps_1)
theorem pg_X2_learnSteps_k : pg_X2_learnSteps.all (ds_okb mt_X2_learnSteps.1.cls mt_X2_learnSteps.2.1) = true := (ds_all_and pg_X2_learnSteps_0_k pg_X2_learnSteps_1_k)
theorem ok_X2_learnSteps : ds_good mt_X2_learnSteps pg_X2_learnSteps := ds_good_of pg_X2_learnSteps_k (by decide +kernel)
def mt_X2_leastRing : ds_M := (⟨"WayWeights$News", "leastRing", "(II)I"⟩, prog_4_method_10_code, 4, some .int, 2, 49)
def pg_X2_leastRing : List ds_I := [(0, .iconst 0, 1, 0, 0, 0, .int 0), (1, .istore_n 3, 1, 0, 0, 0, .int 0), (2, .iload_n 3, 1, 0, 0, 0, .int 0), (3, .aload_n 0, 1, 0, 0, 0, .int 0), (4, .getfield 21, 3, 2, 0, 309, .int 0), (7, .getfield 65, 3, 1, 0, 75, .int 0), (10, .if_icmp .ge 21, 3, 0, 0, 0, .int 0), (13, .aload_n 0, 1, 0, 0, 0, .int 0), (14, .iload_n 1, 1, 0, 0, 0, .int 0), (15, .iload_n 2, 1, 0, 0, 0, .int 0), (16, .iload_n 3, 1, 0, 0, 0, .int 0), (17, .invokevirtual 98, 3, 0, 0, 658, .int 0), (20, .ifCond .eq 5, 3, 0, 0, 0, .int 0), (23, .iload_n 3, 1, 0, 0, 0, .int 0), (24, .ireturn, 1, 0, 0, 0, .int 0), (25, .iinc 3 1, 3, 0, 0, 0, .int 1), (28, .goto (-26), 3, 0, 0, 0, .int 0), (31, .bipush (-6), 2, 0, 0, 0, .int (-6)), (33, .ireturn, 1, 0, 0, 0, .int 0)]
set_option maxRecDepth 100000 in
theorem pg_X2_leastRing_k : pg_X2_leastRing.all (ds_okb mt_X2_leastRing.1.cls mt_X2_leastRing.2.1) = true := by decide +kernel
theorem ok_X2_leastRing : ds_good mt_X2_leastRing pg_X2_leastRing := ds_good_of pg_X2_leastRing_k (by decide +kernel)
def mt_X2_hasRing : ds_M := (⟨"WayWeights$News", "hasRing", "(III)Z"⟩, prog_4_method_11_code, 8, some .boolean, 1, 22)
def pg_X2_hasRing_0 : List ds_I := [(0, .iconst 1, 1, 0, 0, 0, .int 1), (1, .aload_n 0, 1, 0, 0, 0, .int 0), (2, .getfield 21, 3, 2, 0, 309, .int 0), (5, .getfield 65, 3, 1, 0, 75, .int 0), (8, .ishl, 1, 0, 0, 0, .int 0), (9, .iconst 1, 1, 0, 0, 0, .int 1), (10, .isub, 1, 0, 0, 0, .int 0), (11, .istore 4, 2, 0, 0, 0, .int 0), (13, .iconst 0, 1, 0, 0, 0, .int 0), (14, .istore 5, 2, 0, 0, 0, .int 0), (16, .iload 5, 2, 0, 0, 0, .int 0), (18, .aload_n 0, 1, 0, 0, 0, .int 0), (19, .getfield 21, 3, 2, 0, 309, .int 0), (22, .getfield 65, 3, 1, 0, 75, .int 0), (25, .if_icmp .ge 81, 3, 0, 0, 0, .int 0), (28, .iload 4, 2, 0, 0, 0, .int 0), (30, .ifCond .eq 76, 3, 0, 0, 0, .int 0), (33, .iconst 0, 1, 0, 0, 0, .int 0), (34, .istore 6, 2, 0, 0, 0, .int 0), (36, .iload 6, 2, 0, 0, 0, .int 0), (38, .aload_n 0, 1, 0, 0, 0, .int 0), (39, .getfield 21, 3, 2, 0, 309, .int 0), (42, .getfield 65, 3, 1, 0, 75, .int 0), (45, .if_icmp .ge 55, 3, 0, 0, 0, .int 0), (48, .aload_n 0, 1, 0, 0, 0, .int 0), (49, .getfield 15, 3, 2, 3, 312, .int 0), (52, .iload_n 1, 1, 0, 0, 0, .int 0), (53, .iload_n 3, 1, 0, 0, 0, .int 0), (54, .iload 6, 2, 0, 0, 0, .int 0), (56, .invokestatic 83, 3, 0, 0, 651, .int 0), (59, .iaload, 1, 0, 0, 0, .int 0), (60, .aload_n 0, 1, 0, 0, 0, .int 0), (61, .getfield 15, 3, 2, 3, 312, .int 0), (64, .iload_n 2, 1, 0, 0, 0, .int 0), (65, .iload_n 3, 1, 0, 0, 0, .int 0), (66, .iload 6, 2, 0, 0, 0, .int 0), (68, .invokestatic 83, 3, 0, 0, 651, .int 0), (71, .iaload, 1, 0, 0, 0, .int 0), (72, .ior, 1, 0, 0, 0, .int 0), (73, .istore 7, 2, 0, 0, 0, .int 0)]
set_option maxRecDepth 100000 in
theorem pg_X2_hasRing_0_k : pg_X2_hasRing_0.all (ds_okb mt_X2_hasRing.1.cls mt_X2_hasRing.2.1) = true := by decide +kernel
def pg_X2_hasRing_1 : List ds_I := [(75, .iload 7, 2, 0, 0, 0, .int 0), (77, .iload 4, 2, 0, 0, 0, .int 0), (79, .iand, 1, 0, 0, 0, .int 0), (80, .ifCond .ne 14, 3, 0, 0, 0, .int 0), (83, .iload 4, 2, 0, 0, 0, .int 0), (85, .iconst 1, 1, 0, 0, 0, .int 1), (86, .iload 6, 2, 0, 0, 0, .int 0), (88, .ishl, 1, 0, 0, 0, .int 0), (89, .iconst (-1), 1, 0, 0, 0, .int (-1)), (90, .ixor, 1, 0, 0, 0, .int 0), (91, .iand, 1, 0, 0, 0, .int 0), (92, .istore 4, 2, 0, 0, 0, .int 0), (94, .iinc 6 1, 3, 0, 0, 0, .int 1), (97, .goto (-61), 3, 0, 0, 0, .int 0), (100, .iinc 5 1, 3, 0, 0, 0, .int 1), (103, .goto (-87), 3, 0, 0, 0, .int 0), (106, .iload 4, 2, 0, 0, 0, .int 0), (108, .ifCond .eq 7, 3, 0, 0, 0, .int 0), (111, .iconst 1, 1, 0, 0, 0, .int 1), (112, .goto 4, 3, 0, 0, 0, .int 0), (115, .iconst 0, 1, 0, 0, 0, .int 0), (116, .ireturn, 1, 0, 0, 0, .int 0)]
set_option maxRecDepth 100000 in
theorem pg_X2_hasRing_1_k : pg_X2_hasRing_1.all (ds_okb mt_X2_hasRing.1.cls mt_X2_hasRing.2.1) = true := by decide +kernel
def pg_X2_hasRing : List ds_I := pg_X2_hasRing_0 ++ (pg_X2_hasRing_1)
theorem pg_X2_hasRing_k : pg_X2_hasRing.all (ds_okb mt_X2_hasRing.1.cls mt_X2_hasRing.2.1) = true := (ds_all_and pg_X2_hasRing_0_k pg_X2_hasRing_1_k)
theorem ok_X2_hasRing : ds_good mt_X2_hasRing pg_X2_hasRing := ds_good_of pg_X2_hasRing_k (by decide +kernel)
def mt_X2_place : ds_M := (⟨"WayWeights$News", "place", "(III)I"⟩, prog_4_method_12_code, 3, some .int, 0, 0)
def pg_X2_place : List ds_I := [(0, .iload_n 0, 1, 0, 0, 0, .int 0), (1, .bipush 36, 2, 0, 0, 0, .int 36), (3, .imul, 1, 0, 0, 0, .int 0), (4, .iload_n 1, 1, 0, 0, 0, .int 0), (5, .bipush 6, 2, 0, 0, 0, .int 6), (7, .imul, 1, 0, 0, 0, .int 0), (8, .iadd, 1, 0, 0, 0, .int 0), (9, .iload_n 2, 1, 0, 0, 0, .int 0), (10, .iadd, 1, 0, 0, 0, .int 0), (11, .ireturn, 1, 0, 0, 0, .int 0)]
set_option maxRecDepth 100000 in
theorem pg_X2_place_k : pg_X2_place.all (ds_okb mt_X2_place.1.cls mt_X2_place.2.1) = true := by decide +kernel
theorem ok_X2_place : ds_good mt_X2_place pg_X2_place := ds_good_of pg_X2_place_k (by decide +kernel)
def mt_X5_forget : ds_M := (⟨"WayWeights$Seeker", "forget", "()V"⟩, prog_7_method_2_code, 1, none, 0, 0)
def pg_X5_forget : List ds_I := [(0, .aload_n 0, 1, 0, 0, 0, .int 0), (1, .iconst 0, 1, 0, 0, 0, .int 0), (2, .putfield 39, 3, 5, 2, 261, .int 0), (5, .return_, 1, 0, 0, 0, .int 0)]
set_option maxRecDepth 100000 in
theorem pg_X5_forget_k : pg_X5_forget.all (ds_okb mt_X5_forget.1.cls mt_X5_forget.2.1) = true := by decide +kernel
theorem ok_X5_forget : ds_good mt_X5_forget pg_X5_forget := ds_good_of pg_X5_forget_k (by decide +kernel)
def mt_X5_search : ds_M := (⟨"WayWeights$Seeker", "search", "(II)V"⟩, prog_7_method_3_code, 6, none, 6, 156)
def pg_X5_search_0 : List ds_I := [(0, .aload_n 0, 1, 0, 0, 0, .int 0), (1, .iload_n 1, 1, 0, 0, 0, .int 0), (2, .putfield 43, 3, 5, 6, 269, .int 0), (5, .aload_n 0, 1, 0, 0, 0, .int 0), (6, .aload_n 0, 1, 0, 0, 0, .int 0), (7, .getfield 35, 3, 5, 1, 260, .int 0), (10, .invokevirtual 47, 3, 0, 0, 584, .int 0), (13, .putfield 53, 3, 5, 9, 272, .int 0), (16, .aload_n 0, 1, 0, 0, 0, .int 0), (17, .iconst 0, 1, 0, 0, 0, .int 0), (18, .putfield 56, 3, 5, 10, 273, .int 0), (21, .aload_n 0, 1, 0, 0, 0, .int 0), (22, .iconst 0, 1, 0, 0, 0, .int 0), (23, .putfield 59, 3, 5, 3, 263, .int 0), (26, .aload_n 0, 1, 0, 0, 0, .int 0), (27, .invokevirtual 62, 3, 0, 0, 585, .int 0), (30, .aload_n 0, 1, 0, 0, 0, .int 0), (31, .getfield 31, 3, 5, 0, 259, .int 0), (34, .getfield 65, 3, 1, 5, 97, .int 0), (37, .iconst 0, 1, 0, 0, 0, .int 0), (38, .aload_n 0, 1, 0, 0, 0, .int 0), (39, .getfield 25, 3, 5, 11, 274, .int 0), (42, .iconst 0, 1, 0, 0, 0, .int 0), (43, .bipush 10, 2, 0, 0, 0, .int 10), (45, .invokestatic 70, 3, 0, 0, 590, .int 0), (48, .aload_n 0, 1, 0, 0, 0, .int 0), (49, .getfield 31, 3, 5, 0, 259, .int 0), (52, .getfield 65, 3, 1, 5, 97, .int 0), (55, .iconst 0, 1, 0, 0, 0, .int 0), (56, .aload_n 0, 1, 0, 0, 0, .int 0), (57, .getfield 9, 3, 5, 4, 265, .int 0), (60, .iconst 0, 1, 0, 0, 0, .int 0), (61, .bipush 10, 2, 0, 0, 0, .int 10), (63, .invokestatic 70, 3, 0, 0, 590, .int 0), (66, .aload_n 0, 1, 0, 0, 0, .int 0), (67, .getfield 35, 3, 5, 1, 260, .int 0), (70, .aload_n 0, 1, 0, 0, 0, .int 0), (71, .getfield 31, 3, 5, 0, 259, .int 0), (74, .getfield 65, 3, 1, 5, 97, .int 0), (77, .aload_n 0, 1, 0, 0, 0, .int 0)]
set_option maxRecDepth 100000 in
theorem pg_X5_search_0_k : pg_X5_search_0.all (ds_okb mt_X5_search.1.cls mt_X5_search.2.1) = true := by decide +kernel
def pg_X5_search_1 : List ds_I := [(78, .getfield 18, 3, 5, 5, 267, .int 0), (81, .invokevirtual 76, 3, 0, 0, 593, .int 0), (84, .aload_n 0, 1, 0, 0, 0, .int 0), (85, .invokevirtual 80, 3, 0, 0, 594, .int 0), (88, .istore_n 3, 1, 0, 0, 0, .int 0), (89, .iconst 0, 1, 0, 0, 0, .int 0), (90, .istore 4, 2, 0, 0, 0, .int 0), (92, .iload 4, 2, 0, 0, 0, .int 0), (94, .iload_n 3, 1, 0, 0, 0, .int 0), (95, .if_icmp .ge 69, 3, 0, 0, 0, .int 0), (98, .aload_n 0, 1, 0, 0, 0, .int 0), (99, .iload 4, 2, 0, 0, 0, .int 0), (101, .invokevirtual 83, 3, 0, 0, 602, .int 0), (104, .istore 5, 2, 0, 0, 0, .int 0), (106, .iload 5, 2, 0, 0, 0, .int 0), (108, .ifCond .le 50, 3, 0, 0, 0, .int 0), (111, .iload 5, 2, 0, 0, 0, .int 0), (113, .iload_n 2, 1, 0, 0, 0, .int 0), (114, .if_icmp .gt 44, 3, 0, 0, 0, .int 0), (117, .aload_n 0, 1, 0, 0, 0, .int 0), (118, .iload 5, 2, 0, 0, 0, .int 0), (120, .invokevirtual 87, 3, 0, 0, 606, .int 0), (123, .ifCond .eq 35, 3, 0, 0, 0, .int 0), (126, .aload_n 0, 1, 0, 0, 0, .int 0), (127, .iload 5, 2, 0, 0, 0, .int 0), (129, .putfield 59, 3, 5, 3, 263, .int 0), (132, .aload_n 0, 1, 0, 0, 0, .int 0), (133, .getfield 18, 3, 5, 5, 267, .int 0), (136, .aload_n 0, 1, 0, 0, 0, .int 0), (137, .getfield 28, 3, 5, 12, 275, .int 0), (140, .invokevirtual 91, 3, 0, 0, 614, .int 0), (143, .aload_n 0, 1, 0, 0, 0, .int 0), (144, .getfield 25, 3, 5, 11, 274, .int 0), (147, .iconst 0, 1, 0, 0, 0, .int 0), (148, .aload_n 0, 1, 0, 0, 0, .int 0), (149, .getfield 9, 3, 5, 4, 265, .int 0), (152, .iconst 0, 1, 0, 0, 0, .int 0), (153, .bipush 10, 2, 0, 0, 0, .int 10), (155, .invokestatic 70, 3, 0, 0, 590, .int 0), (158, .iinc 4 1, 3, 0, 0, 0, .int 1)]
set_option maxRecDepth 100000 in
theorem pg_X5_search_1_k : pg_X5_search_1.all (ds_okb mt_X5_search.1.cls mt_X5_search.2.1) = true := by decide +kernel
def pg_X5_search_2 : List ds_I := [(161, .goto (-69), 3, 0, 0, 0, .int 0), (164, .aload_n 0, 1, 0, 0, 0, .int 0), (165, .iconst 1, 1, 0, 0, 0, .int 1), (166, .putfield 39, 3, 5, 2, 261, .int 0), (169, .return_, 1, 0, 0, 0, .int 0)]
set_option maxRecDepth 100000 in
theorem pg_X5_search_2_k : pg_X5_search_2.all (ds_okb mt_X5_search.1.cls mt_X5_search.2.1) = true := by decide +kernel
def pg_X5_search : List ds_I := pg_X5_search_0 ++ (pg_X5_search_1 ++ (pg_X5_search_2))
theorem pg_X5_search_k : pg_X5_search.all (ds_okb mt_X5_search.1.cls mt_X5_search.2.1) = true := (ds_all_and pg_X5_search_0_k (ds_all_and pg_X5_search_1_k pg_X5_search_2_k))
theorem ok_X5_search : ds_good mt_X5_search pg_X5_search := ds_good_of pg_X5_search_k (by decide +kernel)
def mt_X5_chooseFree : ds_M := (⟨"WayWeights$Seeker", "chooseFree", "()V"⟩, prog_7_method_4_code, 2, none, 1, 21)
def pg_X5_chooseFree : List ds_I := [(0, .aload_n 0, 1, 0, 0, 0, .int 0), (1, .iconst 0, 1, 0, 0, 0, .int 0), (2, .putfield 95, 3, 5, 7, 270, .int 0), (5, .iconst 0, 1, 0, 0, 0, .int 0), (6, .istore_n 1, 1, 0, 0, 0, .int 0), (7, .iload_n 1, 1, 0, 0, 0, .int 0), (8, .aload_n 0, 1, 0, 0, 0, .int 0), (9, .getfield 31, 3, 5, 0, 259, .int 0), (12, .getfield 98, 3, 1, 1, 81, .int 0), (15, .if_icmp .ge 59, 3, 0, 0, 0, .int 0), (18, .aload_n 0, 1, 0, 0, 0, .int 0), (19, .getfield 95, 3, 5, 7, 270, .int 0), (22, .iconst 5, 1, 0, 0, 0, .int 5), (23, .if_icmp .ge 51, 3, 0, 0, 0, .int 0), (26, .aload_n 0, 1, 0, 0, 0, .int 0), (27, .getfield 31, 3, 5, 0, 259, .int 0), (30, .getfield 101, 3, 1, 6, 100, .int 0), (33, .aload_n 0, 1, 0, 0, 0, .int 0), (34, .getfield 31, 3, 5, 0, 259, .int 0), (37, .getfield 104, 3, 1, 7, 104, .int 0), (40, .ior, 1, 0, 0, 0, .int 0), (41, .iload_n 1, 1, 0, 0, 0, .int 0), (42, .invokestatic 107, 3, 0, 0, 0, .int 0), (45, .ifCond .ne 23, 3, 0, 0, 0, .int 0), (48, .aload_n 0, 1, 0, 0, 0, .int 0), (49, .getfield 22, 3, 5, 8, 271, .int 0), (52, .aload_n 0, 1, 0, 0, 0, .int 0), (53, .getfield 95, 3, 5, 7, 270, .int 0), (56, .iload_n 1, 1, 0, 0, 0, .int 0), (57, .iastore, 1, 0, 0, 0, .int 0), (58, .aload_n 0, 1, 0, 0, 0, .int 0), (59, .dup, 1, 0, 0, 0, .int 0), (60, .getfield 95, 3, 5, 7, 270, .int 0), (63, .iconst 1, 1, 0, 0, 0, .int 1), (64, .iadd, 1, 0, 0, 0, .int 0), (65, .putfield 95, 3, 5, 7, 270, .int 0), (68, .iinc 1 1, 3, 0, 0, 0, .int 1), (71, .goto (-64), 3, 0, 0, 0, .int 0), (74, .return_, 1, 0, 0, 0, .int 0)]
set_option maxRecDepth 100000 in
theorem pg_X5_chooseFree_k : pg_X5_chooseFree.all (ds_okb mt_X5_chooseFree.1.cls mt_X5_chooseFree.2.1) = true := by decide +kernel
theorem ok_X5_chooseFree : ds_good mt_X5_chooseFree pg_X5_chooseFree := ds_good_of pg_X5_chooseFree_k (by decide +kernel)
def mt_X5_countChoices : ds_M := (⟨"WayWeights$Seeker", "countChoices", "()I"⟩, prog_7_method_5_code, 3, some .int, 1, 21)
def pg_X5_countChoices : List ds_I := [(0, .iconst 1, 1, 0, 0, 0, .int 1), (1, .istore_n 1, 1, 0, 0, 0, .int 0), (2, .iconst 0, 1, 0, 0, 0, .int 0), (3, .istore_n 2, 1, 0, 0, 0, .int 0), (4, .iload_n 2, 1, 0, 0, 0, .int 0), (5, .aload_n 0, 1, 0, 0, 0, .int 0), (6, .getfield 95, 3, 5, 7, 270, .int 0), (9, .if_icmp .ge 22, 3, 0, 0, 0, .int 0), (12, .iload_n 1, 1, 0, 0, 0, .int 0), (13, .aload_n 0, 1, 0, 0, 0, .int 0), (14, .aload_n 0, 1, 0, 0, 0, .int 0), (15, .getfield 22, 3, 5, 8, 271, .int 0), (18, .iload_n 2, 1, 0, 0, 0, .int 0), (19, .iaload, 1, 0, 0, 0, .int 0), (20, .invokevirtual 111, 3, 0, 0, 598, .int 0), (23, .imul, 1, 0, 0, 0, .int 0), (24, .istore_n 1, 1, 0, 0, 0, .int 0), (25, .iinc 2 1, 3, 0, 0, 0, .int 1), (28, .goto (-24), 3, 0, 0, 0, .int 0), (31, .iload_n 1, 1, 0, 0, 0, .int 0), (32, .ireturn, 1, 0, 0, 0, .int 0)]
set_option maxRecDepth 100000 in
theorem pg_X5_countChoices_k : pg_X5_countChoices.all (ds_okb mt_X5_countChoices.1.cls mt_X5_countChoices.2.1) = true := by decide +kernel
theorem ok_X5_countChoices : ds_good mt_X5_countChoices pg_X5_countChoices := ds_good_of pg_X5_countChoices_k (by decide +kernel)
def mt_X5_choicesOf : ds_M := (⟨"WayWeights$Seeker", "choicesOf", "(I)I"⟩, prog_7_method_6_code, 2, some .int, 0, 0)
def pg_X5_choicesOf : List ds_I := [(0, .aload_n 0, 1, 0, 0, 0, .int 0), (1, .getfield 31, 3, 5, 0, 259, .int 0), (4, .getfield 65, 3, 1, 5, 97, .int 0), (7, .iload_n 1, 1, 0, 0, 0, .int 0), (8, .iaload, 1, 0, 0, 0, .int 0), (9, .aload_n 0, 1, 0, 0, 0, .int 0), (10, .getfield 43, 3, 5, 6, 269, .int 0), (13, .if_icmp .le 12, 3, 0, 0, 0, .int 0), (16, .aload_n 0, 1, 0, 0, 0, .int 0), (17, .getfield 43, 3, 5, 6, 269, .int 0), (20, .iconst 1, 1, 0, 0, 0, .int 1), (21, .iadd, 1, 0, 0, 0, .int 0), (22, .goto 7, 3, 0, 0, 0, .int 0), (25, .aload_n 0, 1, 0, 0, 0, .int 0), (26, .getfield 43, 3, 5, 6, 269, .int 0), (29, .ireturn, 1, 0, 0, 0, .int 0)]
set_option maxRecDepth 100000 in
theorem pg_X5_choicesOf_k : pg_X5_choicesOf.all (ds_okb mt_X5_choicesOf.1.cls mt_X5_choicesOf.2.1) = true := by decide +kernel
theorem ok_X5_choicesOf : ds_good mt_X5_choicesOf pg_X5_choicesOf := ds_good_of pg_X5_choicesOf_k (by decide +kernel)
def mt_X5_choose : ds_M := (⟨"WayWeights$Seeker", "choose", "(I)I"⟩, prog_7_method_7_code, 8, some .int, 1, 21)
def pg_X5_choose_0 : List ds_I := [(0, .iconst 0, 1, 0, 0, 0, .int 0), (1, .istore_n 2, 1, 0, 0, 0, .int 0), (2, .iload_n 1, 1, 0, 0, 0, .int 0), (3, .istore_n 3, 1, 0, 0, 0, .int 0), (4, .aload_n 0, 1, 0, 0, 0, .int 0), (5, .getfield 95, 3, 5, 7, 270, .int 0), (8, .iconst 1, 1, 0, 0, 0, .int 1), (9, .isub, 1, 0, 0, 0, .int 0), (10, .istore 4, 2, 0, 0, 0, .int 0), (12, .iload 4, 2, 0, 0, 0, .int 0), (14, .ifCond .lt 116, 3, 0, 0, 0, .int 0), (17, .aload_n 0, 1, 0, 0, 0, .int 0), (18, .getfield 22, 3, 5, 8, 271, .int 0), (21, .iload 4, 2, 0, 0, 0, .int 0), (23, .iaload, 1, 0, 0, 0, .int 0), (24, .istore 5, 2, 0, 0, 0, .int 0), (26, .aload_n 0, 1, 0, 0, 0, .int 0), (27, .iload 5, 2, 0, 0, 0, .int 0), (29, .invokevirtual 111, 3, 0, 0, 598, .int 0), (32, .istore 6, 2, 0, 0, 0, .int 0), (34, .iload 6, 2, 0, 0, 0, .int 0), (36, .ifCond .le 10, 3, 0, 0, 0, .int 0), (39, .iload_n 3, 1, 0, 0, 0, .int 0), (40, .iload 6, 2, 0, 0, 0, .int 0), (42, .irem, 1, 0, 0, 0, .int 0), (43, .goto 4, 3, 0, 0, 0, .int 0), (46, .iconst 0, 1, 0, 0, 0, .int 0), (47, .istore 7, 2, 0, 0, 0, .int 0), (49, .iload 6, 2, 0, 0, 0, .int 0), (51, .ifCond .le 10, 3, 0, 0, 0, .int 0), (54, .iload_n 3, 1, 0, 0, 0, .int 0), (55, .iload 6, 2, 0, 0, 0, .int 0), (57, .idiv, 1, 0, 0, 0, .int 0), (58, .goto 4, 3, 0, 0, 0, .int 0), (61, .iconst 0, 1, 0, 0, 0, .int 0), (62, .istore_n 3, 1, 0, 0, 0, .int 0), (63, .aload_n 0, 1, 0, 0, 0, .int 0), (64, .getfield 25, 3, 5, 11, 274, .int 0), (67, .iload 5, 2, 0, 0, 0, .int 0), (69, .iload 7, 2, 0, 0, 0, .int 0)]
set_option maxRecDepth 100000 in
theorem pg_X5_choose_0_k : pg_X5_choose_0.all (ds_okb mt_X5_choose.1.cls mt_X5_choose.2.1) = true := by decide +kernel
def pg_X5_choose_1 : List ds_I := [(71, .aload_n 0, 1, 0, 0, 0, .int 0), (72, .getfield 43, 3, 5, 6, 269, .int 0), (75, .if_icmp .ge 10, 3, 0, 0, 0, .int 0), (78, .iload 7, 2, 0, 0, 0, .int 0), (80, .iconst 1, 1, 0, 0, 0, .int 1), (81, .iadd, 1, 0, 0, 0, .int 0), (82, .goto 13, 3, 0, 0, 0, .int 0), (85, .aload_n 0, 1, 0, 0, 0, .int 0), (86, .getfield 31, 3, 5, 0, 259, .int 0), (89, .getfield 65, 3, 1, 5, 97, .int 0), (92, .iload 5, 2, 0, 0, 0, .int 0), (94, .iaload, 1, 0, 0, 0, .int 0), (95, .iastore, 1, 0, 0, 0, .int 0), (96, .iload_n 2, 1, 0, 0, 0, .int 0), (97, .aload_n 0, 1, 0, 0, 0, .int 0), (98, .getfield 25, 3, 5, 11, 274, .int 0), (101, .iload 5, 2, 0, 0, 0, .int 0), (103, .iaload, 1, 0, 0, 0, .int 0), (104, .aload_n 0, 1, 0, 0, 0, .int 0), (105, .getfield 31, 3, 5, 0, 259, .int 0), (108, .getfield 65, 3, 1, 5, 97, .int 0), (111, .iload 5, 2, 0, 0, 0, .int 0), (113, .iaload, 1, 0, 0, 0, .int 0), (114, .if_icmp .ne 7, 3, 0, 0, 0, .int 0), (117, .iconst 0, 1, 0, 0, 0, .int 0), (118, .goto 4, 3, 0, 0, 0, .int 0), (121, .iconst 1, 1, 0, 0, 0, .int 1), (122, .iadd, 1, 0, 0, 0, .int 0), (123, .istore_n 2, 1, 0, 0, 0, .int 0), (124, .iinc 4 (-1), 3, 0, 0, 0, .int (-1)), (127, .goto (-115), 3, 0, 0, 0, .int 0), (130, .iload_n 2, 1, 0, 0, 0, .int 0), (131, .ireturn, 1, 0, 0, 0, .int 0)]
set_option maxRecDepth 100000 in
theorem pg_X5_choose_1_k : pg_X5_choose_1.all (ds_okb mt_X5_choose.1.cls mt_X5_choose.2.1) = true := by decide +kernel
def pg_X5_choose : List ds_I := pg_X5_choose_0 ++ (pg_X5_choose_1)
theorem pg_X5_choose_k : pg_X5_choose.all (ds_okb mt_X5_choose.1.cls mt_X5_choose.2.1) = true := (ds_all_and pg_X5_choose_0_k pg_X5_choose_1_k)
theorem ok_X5_choose : ds_good mt_X5_choose pg_X5_choose := ds_good_of pg_X5_choose_k (by decide +kernel)
def mt_X5_isBetter : ds_M := (⟨"WayWeights$Seeker", "isBetter", "(I)Z"⟩, prog_7_method_8_code, 6, some .boolean, 5, 131)
def pg_X5_isBetter_0 : List ds_I := [(0, .aload_n 0, 1, 0, 0, 0, .int 0), (1, .getfield 28, 3, 5, 12, 275, .int 0), (4, .invokevirtual 114, 3, 0, 0, 610, .int 0), (7, .aload_n 0, 1, 0, 0, 0, .int 0), (8, .getfield 35, 3, 5, 1, 260, .int 0), (11, .invokevirtual 117, 3, 0, 0, 611, .int 0), (14, .istore_n 2, 1, 0, 0, 0, .int 0), (15, .iconst 0, 1, 0, 0, 0, .int 0), (16, .istore_n 3, 1, 0, 0, 0, .int 0), (17, .iload_n 3, 1, 0, 0, 0, .int 0), (18, .iload_n 2, 1, 0, 0, 0, .int 0), (19, .if_icmp .ge 98, 3, 0, 0, 0, .int 0), (22, .aload_n 0, 1, 0, 0, 0, .int 0), (23, .getfield 56, 3, 5, 10, 273, .int 0), (26, .iload_n 3, 1, 0, 0, 0, .int 0), (27, .iadd, 1, 0, 0, 0, .int 0), (28, .iload_n 2, 1, 0, 0, 0, .int 0), (29, .if_icmp .ge 12, 3, 0, 0, 0, .int 0), (32, .aload_n 0, 1, 0, 0, 0, .int 0), (33, .getfield 56, 3, 5, 10, 273, .int 0), (36, .iload_n 3, 1, 0, 0, 0, .int 0), (37, .iadd, 1, 0, 0, 0, .int 0), (38, .goto 11, 3, 0, 0, 0, .int 0), (41, .aload_n 0, 1, 0, 0, 0, .int 0), (42, .getfield 56, 3, 5, 10, 273, .int 0), (45, .iload_n 3, 1, 0, 0, 0, .int 0), (46, .iadd, 1, 0, 0, 0, .int 0), (47, .iload_n 2, 1, 0, 0, 0, .int 0), (48, .isub, 1, 0, 0, 0, .int 0), (49, .istore 4, 2, 0, 0, 0, .int 0), (51, .aload_n 0, 1, 0, 0, 0, .int 0), (52, .getfield 35, 3, 5, 1, 260, .int 0), (55, .aload_n 0, 1, 0, 0, 0, .int 0), (56, .getfield 25, 3, 5, 11, 274, .int 0), (59, .iload 4, 2, 0, 0, 0, .int 0), (61, .aload_n 0, 1, 0, 0, 0, .int 0), (62, .getfield 53, 3, 5, 9, 272, .int 0), (65, .aload_n 0, 1, 0, 0, 0, .int 0), (66, .getfield 28, 3, 5, 12, 275, .int 0), (69, .invokevirtual 120, 3, 0, 0, 612, .int 0)]
set_option maxRecDepth 100000 in
theorem pg_X5_isBetter_0_k : pg_X5_isBetter_0.all (ds_okb mt_X5_isBetter.1.cls mt_X5_isBetter.2.1) = true := by decide +kernel
def pg_X5_isBetter_1 : List ds_I := [(72, .aload_n 0, 1, 0, 0, 0, .int 0), (73, .getfield 28, 3, 5, 12, 275, .int 0), (76, .aload_n 0, 1, 0, 0, 0, .int 0), (77, .getfield 18, 3, 5, 5, 267, .int 0), (80, .invokevirtual 124, 3, 0, 0, 613, .int 0), (83, .istore 5, 2, 0, 0, 0, .int 0), (85, .iload 5, 2, 0, 0, 0, .int 0), (87, .ifCond .gt 16, 3, 0, 0, 0, .int 0), (90, .iload 5, 2, 0, 0, 0, .int 0), (92, .ifCond .ne 19, 3, 0, 0, 0, .int 0), (95, .iload_n 1, 1, 0, 0, 0, .int 0), (96, .aload_n 0, 1, 0, 0, 0, .int 0), (97, .getfield 59, 3, 5, 3, 263, .int 0), (100, .if_icmp .lt 11, 3, 0, 0, 0, .int 0), (103, .aload_n 0, 1, 0, 0, 0, .int 0), (104, .iload 4, 2, 0, 0, 0, .int 0), (106, .putfield 56, 3, 5, 10, 273, .int 0), (109, .iconst 0, 1, 0, 0, 0, .int 0), (110, .ireturn, 1, 0, 0, 0, .int 0), (111, .iinc 3 1, 3, 0, 0, 0, .int 1), (114, .goto (-97), 3, 0, 0, 0, .int 0), (117, .iconst 1, 1, 0, 0, 0, .int 1), (118, .ireturn, 1, 0, 0, 0, .int 0)]
set_option maxRecDepth 100000 in
theorem pg_X5_isBetter_1_k : pg_X5_isBetter_1.all (ds_okb mt_X5_isBetter.1.cls mt_X5_isBetter.2.1) = true := by decide +kernel
def pg_X5_isBetter : List ds_I := pg_X5_isBetter_0 ++ (pg_X5_isBetter_1)
theorem pg_X5_isBetter_k : pg_X5_isBetter.all (ds_okb mt_X5_isBetter.1.cls mt_X5_isBetter.2.1) = true := (ds_all_and pg_X5_isBetter_0_k pg_X5_isBetter_1_k)
theorem ok_X5_isBetter : ds_good mt_X5_isBetter pg_X5_isBetter := ds_good_of pg_X5_isBetter_k (by decide +kernel)
end
section
def mt_X8_boxes : ds_M := (⟨"WayWeights", "boxes", "(I)I"⟩, prog_1_method_2_code, 4, some .int, 1, 23)
def pg_X8_boxes : List ds_I := [(0, .iload_n 1, 1, 0, 0, 0, .int 0), (1, .iconst 2, 1, 0, 0, 0, .int 2), (2, .if_icmp .lt 9, 3, 0, 0, 0, .int 0), (5, .iload_n 1, 1, 0, 0, 0, .int 0), (6, .bipush 6, 2, 0, 0, 0, .int 6), (8, .if_icmp .le 6, 3, 0, 0, 0, .int 0), (11, .bipush (-2), 2, 0, 0, 0, .int (-2)), (13, .ireturn, 1, 0, 0, 0, .int 0), (14, .aload_n 0, 1, 0, 0, 0, .int 0), (15, .getfield 12, 3, 8, 0, 325, .int 0), (18, .getfield 73, 3, 1, 0, 71, .int 0), (21, .istore_n 2, 1, 0, 0, 0, .int 0), (22, .aload_n 0, 1, 0, 0, 0, .int 0), (23, .getfield 12, 3, 8, 0, 325, .int 0), (26, .iload_n 1, 1, 0, 0, 0, .int 0), (27, .invokevirtual 77, 3, 0, 0, 357, .int 0), (30, .iconst 0, 1, 0, 0, 0, .int 0), (31, .istore_n 3, 1, 0, 0, 0, .int 0), (32, .iload_n 3, 1, 0, 0, 0, .int 0), (33, .iconst 3, 1, 0, 0, 0, .int 3), (34, .if_icmp .ge 19, 3, 0, 0, 0, .int 0), (37, .aload_n 0, 1, 0, 0, 0, .int 0), (38, .getfield 18, 3, 8, 1, 326, .int 0), (41, .iload_n 3, 1, 0, 0, 0, .int 0), (42, .aaload, 1, 14, 0, 0, .int 0), (43, .iconst 0, 1, 0, 0, 0, .int 0), (44, .invokestatic 81, 3, 0, 0, 361, .int 0), (47, .iinc 3 1, 3, 0, 0, 0, .int 1), (50, .goto (-18), 3, 0, 0, 0, .int 0), (53, .aload_n 0, 1, 0, 0, 0, .int 0), (54, .getfield 56, 3, 8, 6, 331, .int 0), (57, .invokevirtual 87, 3, 0, 0, 364, .int 0), (60, .iload_n 2, 1, 0, 0, 0, .int 0), (61, .ireturn, 1, 0, 0, 0, .int 0)]
set_option maxRecDepth 100000 in
theorem pg_X8_boxes_k : pg_X8_boxes.all (ds_okb mt_X8_boxes.1.cls mt_X8_boxes.2.1) = true := by decide +kernel
theorem ok_X8_boxes : ds_good mt_X8_boxes pg_X8_boxes := ds_good_of pg_X8_boxes_k (by decide +kernel)
def mt_X8_line : ds_M := (⟨"WayWeights", "line", "(IIII)I"⟩, prog_1_method_3_code, 5, some .int, 2, 43)
def pg_X8_line : List ds_I := [(0, .aload_n 0, 1, 0, 0, 0, .int 0), (1, .getfield 12, 3, 8, 0, 325, .int 0), (4, .iload_n 1, 1, 0, 0, 0, .int 0), (5, .iload_n 2, 1, 0, 0, 0, .int 0), (6, .invokevirtual 90, 3, 0, 0, 372, .int 0), (9, .ifCond .ne 5, 3, 0, 0, 0, .int 0), (12, .iconst (-1), 1, 0, 0, 0, .int (-1)), (13, .ireturn, 1, 0, 0, 0, .int 0), (14, .iload_n 3, 1, 0, 0, 0, .int 0), (15, .iconst 1, 1, 0, 0, 0, .int 1), (16, .if_icmp .lt 17, 3, 0, 0, 0, .int 0), (19, .iload_n 3, 1, 0, 0, 0, .int 0), (20, .bipush 100, 2, 0, 0, 0, .int 100), (22, .if_icmp .gt 11, 3, 0, 0, 0, .int 0), (25, .iload 4, 2, 0, 0, 0, .int 0), (27, .invokestatic 94, 3, 0, 0, 380, .int 0), (30, .ifCond .ne 6, 3, 0, 0, 0, .int 0), (33, .bipush (-2), 2, 0, 0, 0, .int (-2)), (35, .ireturn, 1, 0, 0, 0, .int 0), (36, .aload_n 0, 1, 0, 0, 0, .int 0), (37, .getfield 12, 3, 8, 0, 325, .int 0), (40, .getfield 98, 3, 1, 1, 79, .int 0), (43, .bipush 10, 2, 0, 0, 0, .int 10), (45, .if_icmp .lt 6, 3, 0, 0, 0, .int 0), (48, .bipush (-4), 2, 0, 0, 0, .int (-4)), (50, .ireturn, 1, 0, 0, 0, .int 0), (51, .aload_n 0, 1, 0, 0, 0, .int 0), (52, .getfield 56, 3, 8, 6, 331, .int 0), (55, .invokevirtual 87, 3, 0, 0, 364, .int 0), (58, .aload_n 0, 1, 0, 0, 0, .int 0), (59, .getfield 12, 3, 8, 0, 325, .int 0), (62, .iload_n 1, 1, 0, 0, 0, .int 0), (63, .iload_n 2, 1, 0, 0, 0, .int 0), (64, .iload_n 3, 1, 0, 0, 0, .int 0), (65, .iload 4, 2, 0, 0, 0, .int 0), (67, .invokevirtual 101, 3, 0, 0, 383, .int 0), (70, .ireturn, 1, 0, 0, 0, .int 0)]
set_option maxRecDepth 100000 in
theorem pg_X8_line_k : pg_X8_line.all (ds_okb mt_X8_line.1.cls mt_X8_line.2.1) = true := by decide +kernel
theorem ok_X8_line : ds_good mt_X8_line pg_X8_line := ds_good_of pg_X8_line_k (by decide +kernel)
def mt_X8_about : ds_M := (⟨"WayWeights", "about", "(II)I"⟩, prog_1_method_4_code, 3, some .int, 1, 21)
def pg_X8_about_0 : List ds_I := [(0, .aload_n 0, 1, 0, 0, 0, .int 0), (1, .getfield 12, 3, 8, 0, 325, .int 0), (4, .iload_n 1, 1, 0, 0, 0, .int 0), (5, .invokevirtual 105, 3, 0, 0, 391, .int 0), (8, .ifCond .ne 5, 3, 0, 0, 0, .int 0), (11, .iconst (-1), 1, 0, 0, 0, .int (-1)), (12, .ireturn, 1, 0, 0, 0, .int 0), (13, .iload_n 2, 1, 0, 0, 0, .int 0), (14, .tableswitch 102 0 5 #[38, 48, 58, 68, 78, 90], 38, 0, 0, 0, .int 0), (52, .aload_n 0, 1, 0, 0, 0, .int 0), (53, .getfield 12, 3, 8, 0, 325, .int 0), (56, .getfield 108, 3, 1, 2, 86, .int 0), (59, .iload_n 1, 1, 0, 0, 0, .int 0), (60, .iaload, 1, 0, 0, 0, .int 0), (61, .ireturn, 1, 0, 0, 0, .int 0), (62, .aload_n 0, 1, 0, 0, 0, .int 0), (63, .getfield 12, 3, 8, 0, 325, .int 0), (66, .getfield 111, 3, 1, 3, 90, .int 0), (69, .iload_n 1, 1, 0, 0, 0, .int 0), (70, .iaload, 1, 0, 0, 0, .int 0), (71, .ireturn, 1, 0, 0, 0, .int 0), (72, .aload_n 0, 1, 0, 0, 0, .int 0), (73, .getfield 12, 3, 8, 0, 325, .int 0), (76, .getfield 114, 3, 1, 4, 93, .int 0), (79, .iload_n 1, 1, 0, 0, 0, .int 0), (80, .iaload, 1, 0, 0, 0, .int 0), (81, .ireturn, 1, 0, 0, 0, .int 0), (82, .aload_n 0, 1, 0, 0, 0, .int 0), (83, .getfield 12, 3, 8, 0, 325, .int 0), (86, .getfield 117, 3, 1, 5, 98, .int 0), (89, .iload_n 1, 1, 0, 0, 0, .int 0), (90, .iaload, 1, 0, 0, 0, .int 0), (91, .ireturn, 1, 0, 0, 0, .int 0), (92, .aload_n 0, 1, 0, 0, 0, .int 0), (93, .getfield 12, 3, 8, 0, 325, .int 0), (96, .getfield 120, 3, 1, 6, 101, .int 0), (99, .iload_n 1, 1, 0, 0, 0, .int 0), (100, .invokestatic 123, 3, 0, 0, 395, .int 0), (103, .ireturn, 1, 0, 0, 0, .int 0), (104, .aload_n 0, 1, 0, 0, 0, .int 0)]
set_option maxRecDepth 100000 in
theorem pg_X8_about_0_k : pg_X8_about_0.all (ds_okb mt_X8_about.1.cls mt_X8_about.2.1) = true := by decide +kernel
def pg_X8_about_1 : List ds_I := [(105, .getfield 12, 3, 8, 0, 325, .int 0), (108, .getfield 127, 3, 1, 7, 105, .int 0), (111, .iload_n 1, 1, 0, 0, 0, .int 0), (112, .invokestatic 123, 3, 0, 0, 395, .int 0), (115, .ireturn, 1, 0, 0, 0, .int 0), (116, .bipush (-2), 2, 0, 0, 0, .int (-2)), (118, .ireturn, 1, 0, 0, 0, .int 0)]
set_option maxRecDepth 100000 in
theorem pg_X8_about_1_k : pg_X8_about_1.all (ds_okb mt_X8_about.1.cls mt_X8_about.2.1) = true := by decide +kernel
def pg_X8_about : List ds_I := pg_X8_about_0 ++ (pg_X8_about_1)
theorem pg_X8_about_k : pg_X8_about.all (ds_okb mt_X8_about.1.cls mt_X8_about.2.1) = true := (ds_all_and pg_X8_about_0_k pg_X8_about_1_k)
theorem ok_X8_about : ds_good mt_X8_about pg_X8_about := ds_good_of pg_X8_about_k (by decide +kernel)
def mt_X8_weigh : ds_M := (⟨"WayWeights", "weigh", "(II)I"⟩, prog_1_method_5_code, 4, some .int, 1, 21)
def pg_X8_weigh : List ds_I := [(0, .aload_n 0, 1, 0, 0, 0, .int 0), (1, .getfield 12, 3, 8, 0, 325, .int 0), (4, .iload_n 1, 1, 0, 0, 0, .int 0), (5, .invokevirtual 105, 3, 0, 0, 391, .int 0), (8, .ifCond .ne 5, 3, 0, 0, 0, .int 0), (11, .iconst (-1), 1, 0, 0, 0, .int (-1)), (12, .ireturn, 1, 0, 0, 0, .int 0), (13, .iload_n 2, 1, 0, 0, 0, .int 0), (14, .invokestatic 94, 3, 0, 0, 380, .int 0), (17, .ifCond .ne 6, 3, 0, 0, 0, .int 0), (20, .bipush (-2), 2, 0, 0, 0, .int (-2)), (22, .ireturn, 1, 0, 0, 0, .int 0), (23, .aload_n 0, 1, 0, 0, 0, .int 0), (24, .getfield 12, 3, 8, 0, 325, .int 0), (27, .getfield 120, 3, 1, 6, 101, .int 0), (30, .iload_n 1, 1, 0, 0, 0, .int 0), (31, .invokestatic 123, 3, 0, 0, 395, .int 0), (34, .iconst 1, 1, 0, 0, 0, .int 1), (35, .if_icmp .ne 6, 3, 0, 0, 0, .int 0), (38, .bipush (-5), 2, 0, 0, 0, .int (-5)), (40, .ireturn, 1, 0, 0, 0, .int 0), (41, .aload_n 0, 1, 0, 0, 0, .int 0), (42, .getfield 12, 3, 8, 0, 325, .int 0), (45, .getfield 117, 3, 1, 5, 98, .int 0), (48, .iload_n 1, 1, 0, 0, 0, .int 0), (49, .iaload, 1, 0, 0, 0, .int 0), (50, .istore_n 3, 1, 0, 0, 0, .int 0), (51, .aload_n 0, 1, 0, 0, 0, .int 0), (52, .getfield 12, 3, 8, 0, 325, .int 0), (55, .getfield 117, 3, 1, 5, 98, .int 0), (58, .iload_n 1, 1, 0, 0, 0, .int 0), (59, .iload_n 2, 1, 0, 0, 0, .int 0), (60, .iastore, 1, 0, 0, 0, .int 0), (61, .aload_n 0, 1, 0, 0, 0, .int 0), (62, .getfield 56, 3, 8, 6, 331, .int 0), (65, .invokevirtual 87, 3, 0, 0, 364, .int 0), (68, .iload_n 3, 1, 0, 0, 0, .int 0), (69, .ireturn, 1, 0, 0, 0, .int 0)]
set_option maxRecDepth 100000 in
theorem pg_X8_weigh_k : pg_X8_weigh.all (ds_okb mt_X8_weigh.1.cls mt_X8_weigh.2.1) = true := by decide +kernel
theorem ok_X8_weigh : ds_good mt_X8_weigh pg_X8_weigh := ds_good_of pg_X8_weigh_k (by decide +kernel)
def mt_X8_mark : ds_M := (⟨"WayWeights", "mark", "(IIZ)I"⟩, prog_1_method_6_code, 5, some .int, 1, 22)
def pg_X8_mark_0 : List ds_I := [(0, .aload_n 0, 1, 0, 0, 0, .int 0), (1, .getfield 12, 3, 8, 0, 325, .int 0), (4, .iload_n 1, 1, 0, 0, 0, .int 0), (5, .invokevirtual 105, 3, 0, 0, 391, .int 0), (8, .ifCond .ne 5, 3, 0, 0, 0, .int 0), (11, .iconst (-1), 1, 0, 0, 0, .int (-1)), (12, .ireturn, 1, 0, 0, 0, .int 0), (13, .iload_n 2, 1, 0, 0, 0, .int 0), (14, .invokestatic 130, 3, 0, 0, 406, .int 0), (17, .ifCond .ne 6, 3, 0, 0, 0, .int 0), (20, .bipush (-2), 2, 0, 0, 0, .int (-2)), (22, .ireturn, 1, 0, 0, 0, .int 0), (23, .iload_n 2, 1, 0, 0, 0, .int 0), (24, .ifCond .ne 13, 3, 0, 0, 0, .int 0), (27, .aload_n 0, 1, 0, 0, 0, .int 0), (28, .getfield 12, 3, 8, 0, 325, .int 0), (31, .getfield 120, 3, 1, 6, 101, .int 0), (34, .goto 10, 3, 0, 0, 0, .int 0), (37, .aload_n 0, 1, 0, 0, 0, .int 0), (38, .getfield 12, 3, 8, 0, 325, .int 0), (41, .getfield 127, 3, 1, 7, 105, .int 0), (44, .iload_n 1, 1, 0, 0, 0, .int 0), (45, .invokestatic 123, 3, 0, 0, 395, .int 0), (48, .istore 4, 2, 0, 0, 0, .int 0), (50, .iload_n 2, 1, 0, 0, 0, .int 0), (51, .ifCond .ne 25, 3, 0, 0, 0, .int 0), (54, .aload_n 0, 1, 0, 0, 0, .int 0), (55, .getfield 12, 3, 8, 0, 325, .int 0), (58, .aload_n 0, 1, 0, 0, 0, .int 0), (59, .getfield 12, 3, 8, 0, 325, .int 0), (62, .getfield 120, 3, 1, 6, 101, .int 0), (65, .iload_n 1, 1, 0, 0, 0, .int 0), (66, .iload_n 3, 1, 0, 0, 0, .int 0), (67, .invokestatic 133, 3, 0, 0, 409, .int 0), (70, .putfield 120, 3, 1, 6, 101, .int 0), (73, .goto 22, 3, 0, 0, 0, .int 0), (76, .aload_n 0, 1, 0, 0, 0, .int 0), (77, .getfield 12, 3, 8, 0, 325, .int 0), (80, .aload_n 0, 1, 0, 0, 0, .int 0), (81, .getfield 12, 3, 8, 0, 325, .int 0)]
set_option maxRecDepth 100000 in
theorem pg_X8_mark_0_k : pg_X8_mark_0.all (ds_okb mt_X8_mark.1.cls mt_X8_mark.2.1) = true := by decide +kernel
def pg_X8_mark_1 : List ds_I := [(84, .getfield 127, 3, 1, 7, 105, .int 0), (87, .iload_n 1, 1, 0, 0, 0, .int 0), (88, .iload_n 3, 1, 0, 0, 0, .int 0), (89, .invokestatic 133, 3, 0, 0, 409, .int 0), (92, .putfield 127, 3, 1, 7, 105, .int 0), (95, .aload_n 0, 1, 0, 0, 0, .int 0), (96, .getfield 56, 3, 8, 6, 331, .int 0), (99, .invokevirtual 87, 3, 0, 0, 364, .int 0), (102, .iload 4, 2, 0, 0, 0, .int 0), (104, .ireturn, 1, 0, 0, 0, .int 0)]
set_option maxRecDepth 100000 in
theorem pg_X8_mark_1_k : pg_X8_mark_1.all (ds_okb mt_X8_mark.1.cls mt_X8_mark.2.1) = true := by decide +kernel
def pg_X8_mark : List ds_I := pg_X8_mark_0 ++ (pg_X8_mark_1)
theorem pg_X8_mark_k : pg_X8_mark.all (ds_okb mt_X8_mark.1.cls mt_X8_mark.2.1) = true := (ds_all_and pg_X8_mark_0_k pg_X8_mark_1_k)
theorem ok_X8_mark : ds_good mt_X8_mark pg_X8_mark := ds_good_of pg_X8_mark_k (by decide +kernel)
def mt_X8_load : ds_M := (⟨"WayWeights", "load", "(IIII)I"⟩, prog_1_method_7_code, 6, some .int, 2, 43)
def pg_X8_load_0 : List ds_I := [(0, .iload_n 1, 1, 0, 0, 0, .int 0), (1, .invokestatic 137, 3, 0, 0, 416, .int 0), (4, .ifCond .eq 15, 3, 0, 0, 0, .int 0), (7, .aload_n 0, 1, 0, 0, 0, .int 0), (8, .getfield 12, 3, 8, 0, 325, .int 0), (11, .iload_n 2, 1, 0, 0, 0, .int 0), (12, .iload_n 3, 1, 0, 0, 0, .int 0), (13, .invokevirtual 90, 3, 0, 0, 372, .int 0), (16, .ifCond .ne 5, 3, 0, 0, 0, .int 0), (19, .iconst (-1), 1, 0, 0, 0, .int (-1)), (20, .ireturn, 1, 0, 0, 0, .int 0), (21, .iload 4, 2, 0, 0, 0, .int 0), (23, .ifCond .lt 10, 3, 0, 0, 0, .int 0), (26, .iload 4, 2, 0, 0, 0, .int 0), (28, .bipush 50, 2, 0, 0, 0, .int 50), (30, .if_icmp .le 6, 3, 0, 0, 0, .int 0), (33, .bipush (-2), 2, 0, 0, 0, .int (-2)), (35, .ireturn, 1, 0, 0, 0, .int 0), (36, .aload_n 0, 1, 0, 0, 0, .int 0), (37, .getfield 18, 3, 8, 1, 326, .int 0), (40, .iload_n 1, 1, 0, 0, 0, .int 0), (41, .aaload, 1, 14, 0, 0, .int 0), (42, .iload_n 2, 1, 0, 0, 0, .int 0), (43, .iload_n 3, 1, 0, 0, 0, .int 0), (44, .invokestatic 140, 3, 0, 0, 419, .int 0), (47, .iaload, 1, 0, 0, 0, .int 0), (48, .istore 5, 2, 0, 0, 0, .int 0), (50, .aload_n 0, 1, 0, 0, 0, .int 0), (51, .getfield 18, 3, 8, 1, 326, .int 0), (54, .iload_n 1, 1, 0, 0, 0, .int 0), (55, .aaload, 1, 14, 0, 0, .int 0), (56, .iload_n 2, 1, 0, 0, 0, .int 0), (57, .iload_n 3, 1, 0, 0, 0, .int 0), (58, .invokestatic 140, 3, 0, 0, 419, .int 0), (61, .iload 4, 2, 0, 0, 0, .int 0), (63, .iastore, 1, 0, 0, 0, .int 0), (64, .aload_n 0, 1, 0, 0, 0, .int 0), (65, .getfield 56, 3, 8, 6, 331, .int 0), (68, .invokevirtual 87, 3, 0, 0, 364, .int 0), (71, .iload 5, 2, 0, 0, 0, .int 0)]
set_option maxRecDepth 100000 in
theorem pg_X8_load_0_k : pg_X8_load_0.all (ds_okb mt_X8_load.1.cls mt_X8_load.2.1) = true := by decide +kernel
def pg_X8_load_1 : List ds_I := [(73, .ireturn, 1, 0, 0, 0, .int 0)]
set_option maxRecDepth 100000 in
theorem pg_X8_load_1_k : pg_X8_load_1.all (ds_okb mt_X8_load.1.cls mt_X8_load.2.1) = true := by decide +kernel
def pg_X8_load : List ds_I := pg_X8_load_0 ++ (pg_X8_load_1)
theorem pg_X8_load_k : pg_X8_load.all (ds_okb mt_X8_load.1.cls mt_X8_load.2.1) = true := (ds_all_and pg_X8_load_0_k pg_X8_load_1_k)
theorem ok_X8_load : ds_good mt_X8_load pg_X8_load := ds_good_of pg_X8_load_k (by decide +kernel)
def mt_X8_least : ds_M := (⟨"WayWeights", "least", "(II)I"⟩, prog_1_method_8_code, 4, some .int, 4, 100)
def pg_X8_least : List ds_I := [(0, .aload_n 0, 1, 0, 0, 0, .int 0), (1, .getfield 12, 3, 8, 0, 325, .int 0), (4, .iload_n 1, 1, 0, 0, 0, .int 0), (5, .invokevirtual 143, 3, 0, 0, 426, .int 0), (8, .ifCond .eq 14, 3, 0, 0, 0, .int 0), (11, .aload_n 0, 1, 0, 0, 0, .int 0), (12, .getfield 12, 3, 8, 0, 325, .int 0), (15, .iload_n 2, 1, 0, 0, 0, .int 0), (16, .invokevirtual 143, 3, 0, 0, 426, .int 0), (19, .ifCond .ne 5, 3, 0, 0, 0, .int 0), (22, .iconst (-1), 1, 0, 0, 0, .int (-1)), (23, .ireturn, 1, 0, 0, 0, .int 0), (24, .aload_n 0, 1, 0, 0, 0, .int 0), (25, .getfield 24, 3, 8, 2, 327, .int 0), (28, .aload_n 0, 1, 0, 0, 0, .int 0), (29, .getfield 12, 3, 8, 0, 325, .int 0), (32, .iload_n 2, 1, 0, 0, 0, .int 0), (33, .invokevirtual 146, 3, 0, 0, 427, .int 0), (36, .astore_n 3, 1, 0, 0, 0, .int 0), (37, .aload_n 3, 1, 0, 0, 0, .int 0), (38, .getfield 150, 3, 7, 0, 140, .int 0), (41, .iload_n 1, 1, 0, 0, 0, .int 0), (42, .iaload, 1, 0, 0, 0, .int 0), (43, .sipush 1000, 3, 0, 0, 0, .int 1000), (46, .if_icmp .ge 12, 3, 0, 0, 0, .int 0), (49, .aload_n 3, 1, 0, 0, 0, .int 0), (50, .getfield 150, 3, 7, 0, 140, .int 0), (53, .iload_n 1, 1, 0, 0, 0, .int 0), (54, .iaload, 1, 0, 0, 0, .int 0), (55, .goto 5, 3, 0, 0, 0, .int 0), (58, .bipush (-6), 2, 0, 0, 0, .int (-6)), (60, .ireturn, 1, 0, 0, 0, .int 0)]
set_option maxRecDepth 100000 in
theorem pg_X8_least_k : pg_X8_least.all (ds_okb mt_X8_least.1.cls mt_X8_least.2.1) = true := by decide +kernel
theorem ok_X8_least : ds_good mt_X8_least pg_X8_least := ds_good_of pg_X8_least_k (by decide +kernel)
def mt_X8_next : ds_M := (⟨"WayWeights", "next", "(II)I"⟩, prog_1_method_9_code, 6, some .int, 4, 100)
def pg_X8_next_0 : List ds_I := [(0, .aload_n 0, 1, 0, 0, 0, .int 0), (1, .getfield 12, 3, 8, 0, 325, .int 0), (4, .iload_n 1, 1, 0, 0, 0, .int 0), (5, .invokevirtual 143, 3, 0, 0, 426, .int 0), (8, .ifCond .eq 14, 3, 0, 0, 0, .int 0), (11, .aload_n 0, 1, 0, 0, 0, .int 0), (12, .getfield 12, 3, 8, 0, 325, .int 0), (15, .iload_n 2, 1, 0, 0, 0, .int 0), (16, .invokevirtual 143, 3, 0, 0, 426, .int 0), (19, .ifCond .ne 5, 3, 0, 0, 0, .int 0), (22, .iconst (-1), 1, 0, 0, 0, .int (-1)), (23, .ireturn, 1, 0, 0, 0, .int 0), (24, .aload_n 0, 1, 0, 0, 0, .int 0), (25, .getfield 24, 3, 8, 2, 327, .int 0), (28, .aload_n 0, 1, 0, 0, 0, .int 0), (29, .getfield 12, 3, 8, 0, 325, .int 0), (32, .iload_n 2, 1, 0, 0, 0, .int 0), (33, .invokevirtual 146, 3, 0, 0, 427, .int 0), (36, .astore_n 3, 1, 0, 0, 0, .int 0), (37, .iconst 0, 1, 0, 0, 0, .int 0), (38, .istore 4, 2, 0, 0, 0, .int 0), (40, .iconst 0, 1, 0, 0, 0, .int 0), (41, .istore 5, 2, 0, 0, 0, .int 0), (43, .iload 5, 2, 0, 0, 0, .int 0), (45, .aload_n 0, 1, 0, 0, 0, .int 0), (46, .getfield 12, 3, 8, 0, 325, .int 0), (49, .getfield 98, 3, 1, 1, 79, .int 0), (52, .if_icmp .ge 29, 3, 0, 0, 0, .int 0), (55, .aload_n 3, 1, 0, 0, 0, .int 0), (56, .getfield 155, 3, 7, 4, 150, .int 0), (59, .iload 5, 2, 0, 0, 0, .int 0), (61, .iaload, 1, 0, 0, 0, .int 0), (62, .iload_n 1, 1, 0, 0, 0, .int 0), (63, .if_icmp .ne 12, 3, 0, 0, 0, .int 0), (66, .iload 4, 2, 0, 0, 0, .int 0), (68, .iconst 1, 1, 0, 0, 0, .int 1), (69, .iload 5, 2, 0, 0, 0, .int 0), (71, .ishl, 1, 0, 0, 0, .int 0), (72, .ior, 1, 0, 0, 0, .int 0), (73, .istore 4, 2, 0, 0, 0, .int 0)]
set_option maxRecDepth 100000 in
theorem pg_X8_next_0_k : pg_X8_next_0.all (ds_okb mt_X8_next.1.cls mt_X8_next.2.1) = true := by decide +kernel
def pg_X8_next_1 : List ds_I := [(75, .iinc 5 1, 3, 0, 0, 0, .int 1), (78, .goto (-35), 3, 0, 0, 0, .int 0), (81, .iload 4, 2, 0, 0, 0, .int 0), (83, .ireturn, 1, 0, 0, 0, .int 0)]
set_option maxRecDepth 100000 in
theorem pg_X8_next_1_k : pg_X8_next_1.all (ds_okb mt_X8_next.1.cls mt_X8_next.2.1) = true := by decide +kernel
def pg_X8_next : List ds_I := pg_X8_next_0 ++ (pg_X8_next_1)
theorem pg_X8_next_k : pg_X8_next.all (ds_okb mt_X8_next.1.cls mt_X8_next.2.1) = true := (ds_all_and pg_X8_next_0_k pg_X8_next_1_k)
theorem ok_X8_next : ds_good mt_X8_next pg_X8_next := ds_good_of pg_X8_next_k (by decide +kernel)
def mt_X8_share : ds_M := (⟨"WayWeights", "share", "(IIIII)J"⟩, prog_1_method_10_code, 6, some .long, 4, 100)
def pg_X8_share_0 : List ds_I := [(0, .aload_n 0, 1, 0, 0, 0, .int 0), (1, .getfield 12, 3, 8, 0, 325, .int 0), (4, .iload_n 1, 1, 0, 0, 0, .int 0), (5, .invokevirtual 143, 3, 0, 0, 426, .int 0), (8, .ifCond .eq 25, 3, 0, 0, 0, .int 0), (11, .aload_n 0, 1, 0, 0, 0, .int 0), (12, .getfield 12, 3, 8, 0, 325, .int 0), (15, .iload_n 2, 1, 0, 0, 0, .int 0), (16, .invokevirtual 143, 3, 0, 0, 426, .int 0), (19, .ifCond .eq 14, 3, 0, 0, 0, .int 0), (22, .aload_n 0, 1, 0, 0, 0, .int 0), (23, .getfield 12, 3, 8, 0, 325, .int 0), (26, .iload_n 3, 1, 0, 0, 0, .int 0), (27, .invokevirtual 105, 3, 0, 0, 391, .int 0), (30, .ifCond .ne 7, 3, 0, 0, 0, .int 0), (33, .ldc2_w 158, 3, 0, 0, 460, .long (-1000000000000000001)), (36, .lreturn, 1, 0, 0, 0, .int 0), (37, .iload 4, 2, 0, 0, 0, .int 0), (39, .invokestatic 130, 3, 0, 0, 406, .int 0), (42, .ifCond .eq 11, 3, 0, 0, 0, .int 0), (45, .iload 5, 2, 0, 0, 0, .int 0), (47, .invokestatic 130, 3, 0, 0, 406, .int 0), (50, .ifCond .ne 7, 3, 0, 0, 0, .int 0), (53, .ldc2_w 160, 3, 0, 0, 461, .long (-1000000000000000002)), (56, .lreturn, 1, 0, 0, 0, .int 0), (57, .aload_n 0, 1, 0, 0, 0, .int 0), (58, .getfield 31, 3, 8, 3, 328, .int 0), (61, .aload_n 0, 1, 0, 0, 0, .int 0), (62, .getfield 12, 3, 8, 0, 325, .int 0), (65, .aload_n 0, 1, 0, 0, 0, .int 0), (66, .getfield 24, 3, 8, 2, 327, .int 0), (69, .aload_n 0, 1, 0, 0, 0, .int 0), (70, .getfield 12, 3, 8, 0, 325, .int 0), (73, .iload_n 2, 1, 0, 0, 0, .int 0), (74, .invokevirtual 146, 3, 0, 0, 427, .int 0), (77, .iload_n 1, 1, 0, 0, 0, .int 0), (78, .invokevirtual 162, 3, 0, 0, 462, .int 0), (81, .aload_n 0, 1, 0, 0, 0, .int 0), (82, .getfield 31, 3, 8, 3, 328, .int 0), (85, .getfield 166, 3, 0, 1, 183, .int 0)]
set_option maxRecDepth 100000 in
theorem pg_X8_share_0_k : pg_X8_share_0.all (ds_okb mt_X8_share.1.cls mt_X8_share.2.1) = true := by decide +kernel
def pg_X8_share_1 : List ds_I := [(88, .iload_n 3, 1, 0, 0, 0, .int 0), (89, .iload 4, 2, 0, 0, 0, .int 0), (91, .invokestatic 170, 3, 0, 0, 478, .int 0), (94, .laload, 1, 0, 0, 0, .int 0), (95, .ldc2_w 173, 3, 0, 0, 481, .long 151200), (98, .iload 5, 2, 0, 0, 0, .int 0), (100, .invokestatic 175, 3, 0, 0, 482, .int 0), (103, .lreturn, 1, 0, 0, 0, .int 0)]
set_option maxRecDepth 100000 in
theorem pg_X8_share_1_k : pg_X8_share_1.all (ds_okb mt_X8_share.1.cls mt_X8_share.2.1) = true := by decide +kernel
def pg_X8_share : List ds_I := pg_X8_share_0 ++ (pg_X8_share_1)
theorem pg_X8_share_k : pg_X8_share.all (ds_okb mt_X8_share.1.cls mt_X8_share.2.1) = true := (ds_all_and pg_X8_share_0_k pg_X8_share_1_k)
theorem ok_X8_share : ds_good mt_X8_share pg_X8_share := ds_good_of pg_X8_share_k (by decide +kernel)
def mt_X8_on : ds_M := (⟨"WayWeights", "on", "(IIII)J"⟩, prog_1_method_11_code, 5, some .long, 5, 126)
def pg_X8_on_0 : List ds_I := [(0, .iload_n 1, 1, 0, 0, 0, .int 0), (1, .invokestatic 137, 3, 0, 0, 416, .int 0), (4, .ifCond .eq 14, 3, 0, 0, 0, .int 0), (7, .aload_n 0, 1, 0, 0, 0, .int 0), (8, .getfield 12, 3, 8, 0, 325, .int 0), (11, .iload_n 2, 1, 0, 0, 0, .int 0), (12, .invokevirtual 105, 3, 0, 0, 391, .int 0), (15, .ifCond .ne 7, 3, 0, 0, 0, .int 0), (18, .ldc2_w 158, 3, 0, 0, 460, .long (-1000000000000000001)), (21, .lreturn, 1, 0, 0, 0, .int 0), (22, .iload_n 3, 1, 0, 0, 0, .int 0), (23, .invokestatic 130, 3, 0, 0, 406, .int 0), (26, .ifCond .eq 11, 3, 0, 0, 0, .int 0), (29, .iload 4, 2, 0, 0, 0, .int 0), (31, .invokestatic 130, 3, 0, 0, 406, .int 0), (34, .ifCond .ne 7, 3, 0, 0, 0, .int 0), (37, .ldc2_w 160, 3, 0, 0, 461, .long (-1000000000000000002)), (40, .lreturn, 1, 0, 0, 0, .int 0), (41, .aload_n 0, 1, 0, 0, 0, .int 0), (42, .getfield 24, 3, 8, 2, 327, .int 0), (45, .aload_n 0, 1, 0, 0, 0, .int 0), (46, .getfield 12, 3, 8, 0, 325, .int 0), (49, .iconst (-1), 1, 0, 0, 0, .int (-1)), (50, .invokevirtual 179, 3, 0, 0, 492, .int 0), (53, .aload_n 0, 1, 0, 0, 0, .int 0), (54, .getfield 31, 3, 8, 3, 328, .int 0), (57, .aload_n 0, 1, 0, 0, 0, .int 0), (58, .getfield 12, 3, 8, 0, 325, .int 0), (61, .aload_n 0, 1, 0, 0, 0, .int 0), (62, .getfield 24, 3, 8, 2, 327, .int 0), (65, .aload_n 0, 1, 0, 0, 0, .int 0), (66, .getfield 18, 3, 8, 1, 326, .int 0), (69, .iload_n 1, 1, 0, 0, 0, .int 0), (70, .aaload, 1, 14, 0, 0, .int 0), (71, .invokevirtual 183, 3, 0, 0, 501, .int 0), (74, .aload_n 0, 1, 0, 0, 0, .int 0), (75, .getfield 31, 3, 8, 3, 328, .int 0), (78, .getfield 166, 3, 0, 1, 183, .int 0), (81, .iload_n 2, 1, 0, 0, 0, .int 0), (82, .iload_n 3, 1, 0, 0, 0, .int 0)]
set_option maxRecDepth 100000 in
theorem pg_X8_on_0_k : pg_X8_on_0.all (ds_okb mt_X8_on.1.cls mt_X8_on.2.1) = true := by decide +kernel
def pg_X8_on_1 : List ds_I := [(83, .invokestatic 170, 3, 0, 0, 478, .int 0), (86, .laload, 1, 0, 0, 0, .int 0), (87, .ldc2_w 173, 3, 0, 0, 481, .long 151200), (90, .iload 4, 2, 0, 0, 0, .int 0), (92, .invokestatic 175, 3, 0, 0, 482, .int 0), (95, .lreturn, 1, 0, 0, 0, .int 0)]
set_option maxRecDepth 100000 in
theorem pg_X8_on_1_k : pg_X8_on_1.all (ds_okb mt_X8_on.1.cls mt_X8_on.2.1) = true := by decide +kernel
def pg_X8_on : List ds_I := pg_X8_on_0 ++ (pg_X8_on_1)
theorem pg_X8_on_k : pg_X8_on.all (ds_okb mt_X8_on.1.cls mt_X8_on.2.1) = true := (ds_all_and pg_X8_on_0_k pg_X8_on_1_k)
theorem ok_X8_on : ds_good mt_X8_on pg_X8_on := ds_good_of pg_X8_on_k (by decide +kernel)
def mt_X8_worst : ds_M := (⟨"WayWeights", "worst", "(II)J"⟩, prog_1_method_12_code, 3, some .long, 6, 147)
def pg_X8_worst_0 : List ds_I := [(0, .iload_n 1, 1, 0, 0, 0, .int 0), (1, .invokestatic 137, 3, 0, 0, 416, .int 0), (4, .ifCond .ne 7, 3, 0, 0, 0, .int 0), (7, .ldc2_w 158, 3, 0, 0, 460, .long (-1000000000000000001)), (10, .lreturn, 1, 0, 0, 0, .int 0), (11, .iload_n 2, 1, 0, 0, 0, .int 0), (12, .ifCond .lt 8, 3, 0, 0, 0, .int 0), (15, .iload_n 2, 1, 0, 0, 0, .int 0), (16, .iconst 3, 1, 0, 0, 0, .int 3), (17, .if_icmp .le 7, 3, 0, 0, 0, .int 0), (20, .ldc2_w 160, 3, 0, 0, 461, .long (-1000000000000000002)), (23, .lreturn, 1, 0, 0, 0, .int 0), (24, .aload_n 0, 1, 0, 0, 0, .int 0), (25, .iload_n 1, 1, 0, 0, 0, .int 0), (26, .invokevirtual 187, 3, 0, 0, 514, .int 0), (29, .iload_n 2, 1, 0, 0, 0, .int 0), (30, .iconst 2, 1, 0, 0, 0, .int 2), (31, .if_icmp .ne 12, 3, 0, 0, 0, .int 0), (34, .aload_n 0, 1, 0, 0, 0, .int 0), (35, .getfield 38, 3, 8, 4, 329, .int 0), (38, .getfield 190, 3, 3, 2, 201, .int 0), (41, .i2l, 1, 0, 0, 0, .int 0), (42, .lreturn, 1, 0, 0, 0, .int 0), (43, .iload_n 2, 1, 0, 0, 0, .int 0), (44, .iconst 3, 1, 0, 0, 0, .int 3), (45, .if_icmp .ne 12, 3, 0, 0, 0, .int 0), (48, .aload_n 0, 1, 0, 0, 0, .int 0), (49, .getfield 38, 3, 8, 4, 329, .int 0), (52, .getfield 193, 3, 3, 3, 203, .int 0), (55, .i2l, 1, 0, 0, 0, .int 0), (56, .lreturn, 1, 0, 0, 0, .int 0), (57, .aload_n 0, 1, 0, 0, 0, .int 0), (58, .getfield 38, 3, 8, 4, 329, .int 0), (61, .getfield 196, 3, 3, 0, 197, .int 0), (64, .ldc2_w 173, 3, 0, 0, 481, .long 151200), (67, .aload_n 0, 1, 0, 0, 0, .int 0), (68, .getfield 38, 3, 8, 4, 329, .int 0), (71, .getfield 199, 3, 3, 1, 199, .int 0), (74, .i2l, 1, 0, 0, 0, .int 0), (75, .lmul, 1, 0, 0, 0, .int 0)]
set_option maxRecDepth 100000 in
theorem pg_X8_worst_0_k : pg_X8_worst_0.all (ds_okb mt_X8_worst.1.cls mt_X8_worst.2.1) = true := by decide +kernel
def pg_X8_worst_1 : List ds_I := [(76, .iload_n 2, 1, 0, 0, 0, .int 0), (77, .invokestatic 175, 3, 0, 0, 482, .int 0), (80, .lreturn, 1, 0, 0, 0, .int 0)]
set_option maxRecDepth 100000 in
theorem pg_X8_worst_1_k : pg_X8_worst_1.all (ds_okb mt_X8_worst.1.cls mt_X8_worst.2.1) = true := by decide +kernel
def pg_X8_worst : List ds_I := pg_X8_worst_0 ++ (pg_X8_worst_1)
theorem pg_X8_worst_k : pg_X8_worst.all (ds_okb mt_X8_worst.1.cls mt_X8_worst.2.1) = true := (ds_all_and pg_X8_worst_0_k pg_X8_worst_1_k)
theorem ok_X8_worst : ds_good mt_X8_worst pg_X8_worst := ds_good_of pg_X8_worst_k (by decide +kernel)
def mt_X8_guard : ds_M := (⟨"WayWeights", "guard", "(Z)I"⟩, prog_1_method_13_code, 3, some .int, 1, 20)
def pg_X8_guard : List ds_I := [(0, .aload_n 0, 1, 0, 0, 0, .int 0), (1, .getfield 47, 3, 8, 5, 330, .int 0), (4, .getfield 201, 3, 6, 2, 234, .int 0), (7, .ifCond .eq 7, 3, 0, 0, 0, .int 0), (10, .iconst 1, 1, 0, 0, 0, .int 1), (11, .goto 4, 3, 0, 0, 0, .int 0), (14, .iconst 0, 1, 0, 0, 0, .int 0), (15, .istore_n 2, 1, 0, 0, 0, .int 0), (16, .aload_n 0, 1, 0, 0, 0, .int 0), (17, .getfield 47, 3, 8, 5, 330, .int 0), (20, .iload_n 1, 1, 0, 0, 0, .int 0), (21, .putfield 201, 3, 6, 2, 234, .int 0), (24, .aload_n 0, 1, 0, 0, 0, .int 0), (25, .getfield 56, 3, 8, 6, 331, .int 0), (28, .invokevirtual 87, 3, 0, 0, 364, .int 0), (31, .iload_n 2, 1, 0, 0, 0, .int 0), (32, .ireturn, 1, 0, 0, 0, .int 0)]
set_option maxRecDepth 100000 in
theorem pg_X8_guard_k : pg_X8_guard.all (ds_okb mt_X8_guard.1.cls mt_X8_guard.2.1) = true := by decide +kernel
theorem ok_X8_guard : ds_good mt_X8_guard pg_X8_guard := ds_good_of pg_X8_guard_k (by decide +kernel)
def mt_X8_all : ds_M := (⟨"WayWeights", "all", "(I)J"⟩, prog_1_method_14_code, 2, some .long, 6, 156)
def pg_X8_all_0 : List ds_I := [(0, .iload_n 1, 1, 0, 0, 0, .int 0), (1, .ifCond .lt 8, 3, 0, 0, 0, .int 0), (4, .iload_n 1, 1, 0, 0, 0, .int 0), (5, .iconst 3, 1, 0, 0, 0, .int 3), (6, .if_icmp .le 7, 3, 0, 0, 0, .int 0), (9, .ldc2_w 160, 3, 0, 0, 461, .long (-1000000000000000002)), (12, .lreturn, 1, 0, 0, 0, .int 0), (13, .aload_n 0, 1, 0, 0, 0, .int 0), (14, .getfield 47, 3, 8, 5, 330, .int 0), (17, .aload_n 0, 1, 0, 0, 0, .int 0), (18, .getfield 12, 3, 8, 0, 325, .int 0), (21, .getfield 117, 3, 1, 5, 98, .int 0), (24, .aload_n 0, 1, 0, 0, 0, .int 0), (25, .getfield 38, 3, 8, 4, 329, .int 0), (28, .invokevirtual 205, 3, 0, 0, 535, .int 0), (31, .iload_n 1, 1, 0, 0, 0, .int 0), (32, .iconst 2, 1, 0, 0, 0, .int 2), (33, .if_icmp .ne 12, 3, 0, 0, 0, .int 0), (36, .aload_n 0, 1, 0, 0, 0, .int 0), (37, .getfield 38, 3, 8, 4, 329, .int 0), (40, .getfield 209, 3, 3, 4, 206, .int 0), (43, .i2l, 1, 0, 0, 0, .int 0), (44, .lreturn, 1, 0, 0, 0, .int 0), (45, .iload_n 1, 1, 0, 0, 0, .int 0), (46, .iconst 3, 1, 0, 0, 0, .int 3), (47, .if_icmp .ne 29, 3, 0, 0, 0, .int 0), (50, .aload_n 0, 1, 0, 0, 0, .int 0), (51, .getfield 38, 3, 8, 4, 329, .int 0), (54, .getfield 212, 3, 3, 5, 209, .int 0), (57, .iconst (-1), 1, 0, 0, 0, .int (-1)), (58, .if_icmp .ne 9, 3, 0, 0, 0, .int 0), (61, .ldc2_w 215, 3, 0, 0, 567, .long (-6)), (64, .goto 11, 3, 0, 0, 0, .int 0), (67, .aload_n 0, 1, 0, 0, 0, .int 0), (68, .getfield 38, 3, 8, 4, 329, .int 0), (71, .getfield 212, 3, 3, 5, 209, .int 0), (74, .i2l, 1, 0, 0, 0, .int 0), (75, .lreturn, 1, 0, 0, 0, .int 0), (76, .aload_n 0, 1, 0, 0, 0, .int 0), (77, .getfield 38, 3, 8, 4, 329, .int 0)]
set_option maxRecDepth 100000 in
theorem pg_X8_all_0_k : pg_X8_all_0.all (ds_okb mt_X8_all.1.cls mt_X8_all.2.1) = true := by decide +kernel
def pg_X8_all_1 : List ds_I := [(80, .getfield 196, 3, 3, 0, 197, .int 0), (83, .ldc2_w 173, 3, 0, 0, 481, .long 151200), (86, .aload_n 0, 1, 0, 0, 0, .int 0), (87, .getfield 38, 3, 8, 4, 329, .int 0), (90, .getfield 199, 3, 3, 1, 199, .int 0), (93, .i2l, 1, 0, 0, 0, .int 0), (94, .lmul, 1, 0, 0, 0, .int 0), (95, .iload_n 1, 1, 0, 0, 0, .int 0), (96, .invokestatic 175, 3, 0, 0, 482, .int 0), (99, .lreturn, 1, 0, 0, 0, .int 0)]
set_option maxRecDepth 100000 in
theorem pg_X8_all_1_k : pg_X8_all_1.all (ds_okb mt_X8_all.1.cls mt_X8_all.2.1) = true := by decide +kernel
def pg_X8_all : List ds_I := pg_X8_all_0 ++ (pg_X8_all_1)
theorem pg_X8_all_k : pg_X8_all.all (ds_okb mt_X8_all.1.cls mt_X8_all.2.1) = true := (ds_all_and pg_X8_all_0_k pg_X8_all_1_k)
theorem ok_X8_all : ds_good mt_X8_all pg_X8_all := ds_good_of pg_X8_all_k (by decide +kernel)
def mt_X8_parted : ds_M := (⟨"WayWeights", "parted", "(II)I"⟩, prog_1_method_15_code, 6, some .int, 5, 126)
def pg_X8_parted_0 : List ds_I := [(0, .iload_n 1, 1, 0, 0, 0, .int 0), (1, .invokestatic 137, 3, 0, 0, 416, .int 0), (4, .ifCond .eq 19, 3, 0, 0, 0, .int 0), (7, .iload_n 2, 1, 0, 0, 0, .int 0), (8, .iconst (-1), 1, 0, 0, 0, .int (-1)), (9, .if_icmp .eq 16, 3, 0, 0, 0, .int 0), (12, .aload_n 0, 1, 0, 0, 0, .int 0), (13, .getfield 12, 3, 8, 0, 325, .int 0), (16, .iload_n 2, 1, 0, 0, 0, .int 0), (17, .invokevirtual 105, 3, 0, 0, 391, .int 0), (20, .ifCond .ne 5, 3, 0, 0, 0, .int 0), (23, .iconst (-1), 1, 0, 0, 0, .int (-1)), (24, .ireturn, 1, 0, 0, 0, .int 0), (25, .aload_n 0, 1, 0, 0, 0, .int 0), (26, .getfield 24, 3, 8, 2, 327, .int 0), (29, .aload_n 0, 1, 0, 0, 0, .int 0), (30, .getfield 12, 3, 8, 0, 325, .int 0), (33, .iload_n 2, 1, 0, 0, 0, .int 0), (34, .invokevirtual 179, 3, 0, 0, 492, .int 0), (37, .iconst 0, 1, 0, 0, 0, .int 0), (38, .istore_n 3, 1, 0, 0, 0, .int 0), (39, .iconst 0, 1, 0, 0, 0, .int 0), (40, .istore 4, 2, 0, 0, 0, .int 0), (42, .iload 4, 2, 0, 0, 0, .int 0), (44, .aload_n 0, 1, 0, 0, 0, .int 0), (45, .getfield 12, 3, 8, 0, 325, .int 0), (48, .getfield 73, 3, 1, 0, 71, .int 0), (51, .if_icmp .ge 69, 3, 0, 0, 0, .int 0), (54, .iconst 0, 1, 0, 0, 0, .int 0), (55, .istore 5, 2, 0, 0, 0, .int 0), (57, .iload 5, 2, 0, 0, 0, .int 0), (59, .aload_n 0, 1, 0, 0, 0, .int 0), (60, .getfield 12, 3, 8, 0, 325, .int 0), (63, .getfield 73, 3, 1, 0, 71, .int 0), (66, .if_icmp .ge 48, 3, 0, 0, 0, .int 0), (69, .aload_n 0, 1, 0, 0, 0, .int 0), (70, .getfield 24, 3, 8, 2, 327, .int 0), (73, .getfield 217, 3, 4, 0, 170, .int 0), (76, .iload 5, 2, 0, 0, 0, .int 0), (78, .aaload, 1, 13, 0, 0, .int 0)]
set_option maxRecDepth 100000 in
theorem pg_X8_parted_0_k : pg_X8_parted_0.all (ds_okb mt_X8_parted.1.cls mt_X8_parted.2.1) = true := by decide +kernel
def pg_X8_parted_1 : List ds_I := [(79, .getfield 150, 3, 7, 0, 140, .int 0), (82, .iload 4, 2, 0, 0, 0, .int 0), (84, .iaload, 1, 0, 0, 0, .int 0), (85, .sipush 1000, 3, 0, 0, 0, .int 1000), (88, .if_icmp .ne 20, 3, 0, 0, 0, .int 0), (91, .iload_n 3, 1, 0, 0, 0, .int 0), (92, .aload_n 0, 1, 0, 0, 0, .int 0), (93, .getfield 18, 3, 8, 1, 326, .int 0), (96, .iload_n 1, 1, 0, 0, 0, .int 0), (97, .aaload, 1, 14, 0, 0, .int 0), (98, .iload 4, 2, 0, 0, 0, .int 0), (100, .iload 5, 2, 0, 0, 0, .int 0), (102, .invokestatic 140, 3, 0, 0, 419, .int 0), (105, .iaload, 1, 0, 0, 0, .int 0), (106, .iadd, 1, 0, 0, 0, .int 0), (107, .istore_n 3, 1, 0, 0, 0, .int 0), (108, .iinc 5 1, 3, 0, 0, 0, .int 1), (111, .goto (-54), 3, 0, 0, 0, .int 0), (114, .iinc 4 1, 3, 0, 0, 0, .int 1), (117, .goto (-75), 3, 0, 0, 0, .int 0), (120, .iload_n 3, 1, 0, 0, 0, .int 0), (121, .ireturn, 1, 0, 0, 0, .int 0)]
set_option maxRecDepth 100000 in
theorem pg_X8_parted_1_k : pg_X8_parted_1.all (ds_okb mt_X8_parted.1.cls mt_X8_parted.2.1) = true := by decide +kernel
def pg_X8_parted : List ds_I := pg_X8_parted_0 ++ (pg_X8_parted_1)
theorem pg_X8_parted_k : pg_X8_parted.all (ds_okb mt_X8_parted.1.cls mt_X8_parted.2.1) = true := (ds_all_and pg_X8_parted_0_k pg_X8_parted_1_k)
theorem ok_X8_parted : ds_good mt_X8_parted pg_X8_parted := ds_good_of pg_X8_parted_k (by decide +kernel)
def mt_X8_who : ds_M := (⟨"WayWeights", "who", "(III)I"⟩, prog_1_method_16_code, 11, some .int, 5, 126)
def pg_X8_who_0 : List ds_I := [(0, .iload_n 1, 1, 0, 0, 0, .int 0), (1, .invokestatic 137, 3, 0, 0, 416, .int 0), (4, .ifCond .eq 14, 3, 0, 0, 0, .int 0), (7, .aload_n 0, 1, 0, 0, 0, .int 0), (8, .getfield 12, 3, 8, 0, 325, .int 0), (11, .iload_n 2, 1, 0, 0, 0, .int 0), (12, .invokevirtual 105, 3, 0, 0, 391, .int 0), (15, .ifCond .ne 5, 3, 0, 0, 0, .int 0), (18, .iconst (-1), 1, 0, 0, 0, .int (-1)), (19, .ireturn, 1, 0, 0, 0, .int 0), (20, .iload_n 3, 1, 0, 0, 0, .int 0), (21, .invokestatic 130, 3, 0, 0, 406, .int 0), (24, .ifCond .ne 6, 3, 0, 0, 0, .int 0), (27, .bipush (-2), 2, 0, 0, 0, .int (-2)), (29, .ireturn, 1, 0, 0, 0, .int 0), (30, .aload_n 0, 1, 0, 0, 0, .int 0), (31, .getfield 24, 3, 8, 2, 327, .int 0), (34, .aload_n 0, 1, 0, 0, 0, .int 0), (35, .getfield 12, 3, 8, 0, 325, .int 0), (38, .iconst (-1), 1, 0, 0, 0, .int (-1)), (39, .invokevirtual 179, 3, 0, 0, 492, .int 0), (42, .lconst 0, 1, 0, 0, 0, .long 0), (43, .lstore 4, 2, 0, 0, 0, .int 0), (45, .bipush (-6), 2, 0, 0, 0, .int (-6)), (47, .istore 6, 2, 0, 0, 0, .int 0), (49, .iconst 0, 1, 0, 0, 0, .int 0), (50, .istore 7, 2, 0, 0, 0, .int 0), (52, .iload 7, 2, 0, 0, 0, .int 0), (54, .aload_n 0, 1, 0, 0, 0, .int 0), (55, .getfield 12, 3, 8, 0, 325, .int 0), (58, .getfield 73, 3, 1, 0, 71, .int 0), (61, .if_icmp .ge 106, 3, 0, 0, 0, .int 0), (64, .iconst 0, 1, 0, 0, 0, .int 0), (65, .istore 8, 2, 0, 0, 0, .int 0), (67, .iload 8, 2, 0, 0, 0, .int 0), (69, .aload_n 0, 1, 0, 0, 0, .int 0), (70, .getfield 12, 3, 8, 0, 325, .int 0), (73, .getfield 73, 3, 1, 0, 71, .int 0), (76, .if_icmp .ge 85, 3, 0, 0, 0, .int 0), (79, .aload_n 0, 1, 0, 0, 0, .int 0)]
set_option maxRecDepth 100000 in
theorem pg_X8_who_0_k : pg_X8_who_0.all (ds_okb mt_X8_who.1.cls mt_X8_who.2.1) = true := by decide +kernel
def pg_X8_who_1 : List ds_I := [(80, .getfield 31, 3, 8, 3, 328, .int 0), (83, .aload_n 0, 1, 0, 0, 0, .int 0), (84, .getfield 12, 3, 8, 0, 325, .int 0), (87, .aload_n 0, 1, 0, 0, 0, .int 0), (88, .getfield 24, 3, 8, 2, 327, .int 0), (91, .getfield 217, 3, 4, 0, 170, .int 0), (94, .iload 8, 2, 0, 0, 0, .int 0), (96, .aaload, 1, 13, 0, 0, .int 0), (97, .iload 7, 2, 0, 0, 0, .int 0), (99, .invokevirtual 162, 3, 0, 0, 462, .int 0), (102, .aload_n 0, 1, 0, 0, 0, .int 0), (103, .getfield 18, 3, 8, 1, 326, .int 0), (106, .iload_n 1, 1, 0, 0, 0, .int 0), (107, .aaload, 1, 14, 0, 0, .int 0), (108, .iload 7, 2, 0, 0, 0, .int 0), (110, .iload 8, 2, 0, 0, 0, .int 0), (112, .invokestatic 140, 3, 0, 0, 419, .int 0), (115, .iaload, 1, 0, 0, 0, .int 0), (116, .i2l, 1, 0, 0, 0, .int 0), (117, .aload_n 0, 1, 0, 0, 0, .int 0), (118, .getfield 31, 3, 8, 3, 328, .int 0), (121, .getfield 166, 3, 0, 1, 183, .int 0), (124, .iload_n 2, 1, 0, 0, 0, .int 0), (125, .iload_n 3, 1, 0, 0, 0, .int 0), (126, .invokestatic 170, 3, 0, 0, 478, .int 0), (129, .laload, 1, 0, 0, 0, .int 0), (130, .lmul, 1, 0, 0, 0, .int 0), (131, .lstore 9, 2, 0, 0, 0, .int 0), (133, .lload 9, 2, 0, 0, 0, .int 0), (135, .lload 4, 2, 0, 0, 0, .int 0), (137, .lcmp, 1, 0, 0, 0, .int 0), (138, .ifCond .le 17, 3, 0, 0, 0, .int 0), (141, .lload 9, 2, 0, 0, 0, .int 0), (143, .lstore 4, 2, 0, 0, 0, .int 0), (145, .bipush 10, 2, 0, 0, 0, .int 10), (147, .iload 7, 2, 0, 0, 0, .int 0), (149, .imul, 1, 0, 0, 0, .int 0), (150, .iload 8, 2, 0, 0, 0, .int 0), (152, .iadd, 1, 0, 0, 0, .int 0), (153, .istore 6, 2, 0, 0, 0, .int 0)]
set_option maxRecDepth 100000 in
theorem pg_X8_who_1_k : pg_X8_who_1.all (ds_okb mt_X8_who.1.cls mt_X8_who.2.1) = true := by decide +kernel
def pg_X8_who_2 : List ds_I := [(155, .iinc 8 1, 3, 0, 0, 0, .int 1), (158, .goto (-91), 3, 0, 0, 0, .int 0), (161, .iinc 7 1, 3, 0, 0, 0, .int 1), (164, .goto (-112), 3, 0, 0, 0, .int 0), (167, .iload 6, 2, 0, 0, 0, .int 0), (169, .ireturn, 1, 0, 0, 0, .int 0)]
set_option maxRecDepth 100000 in
theorem pg_X8_who_2_k : pg_X8_who_2.all (ds_okb mt_X8_who.1.cls mt_X8_who.2.1) = true := by decide +kernel
def pg_X8_who : List ds_I := pg_X8_who_0 ++ (pg_X8_who_1 ++ (pg_X8_who_2))
theorem pg_X8_who_k : pg_X8_who.all (ds_okb mt_X8_who.1.cls mt_X8_who.2.1) = true := (ds_all_and pg_X8_who_0_k (ds_all_and pg_X8_who_1_k pg_X8_who_2_k))
theorem ok_X8_who : ds_good mt_X8_who pg_X8_who := ds_good_of pg_X8_who_k (by decide +kernel)
def mt_X8_seek : ds_M := (⟨"WayWeights", "seek", "(II)I"⟩, prog_1_method_17_code, 3, some .int, 7, 181)
def pg_X8_seek : List ds_I := [(0, .iload_n 1, 1, 0, 0, 0, .int 0), (1, .iconst 1, 1, 0, 0, 0, .int 1), (2, .if_icmp .lt 18, 3, 0, 0, 0, .int 0), (5, .iload_n 1, 1, 0, 0, 0, .int 0), (6, .iconst 2, 1, 0, 0, 0, .int 2), (7, .if_icmp .gt 13, 3, 0, 0, 0, .int 0), (10, .iload_n 2, 1, 0, 0, 0, .int 0), (11, .ifCond .lt 9, 3, 0, 0, 0, .int 0), (14, .iload_n 2, 1, 0, 0, 0, .int 0), (15, .bipush 10, 2, 0, 0, 0, .int 10), (17, .if_icmp .le 6, 3, 0, 0, 0, .int 0), (20, .bipush (-2), 2, 0, 0, 0, .int (-2)), (22, .ireturn, 1, 0, 0, 0, .int 0), (23, .aload_n 0, 1, 0, 0, 0, .int 0), (24, .getfield 56, 3, 8, 6, 331, .int 0), (27, .iload_n 1, 1, 0, 0, 0, .int 0), (28, .iload_n 2, 1, 0, 0, 0, .int 0), (29, .invokevirtual 221, 3, 0, 0, 580, .int 0), (32, .aload_n 0, 1, 0, 0, 0, .int 0), (33, .getfield 56, 3, 8, 6, 331, .int 0), (36, .getfield 225, 3, 5, 3, 264, .int 0), (39, .ireturn, 1, 0, 0, 0, .int 0)]
set_option maxRecDepth 100000 in
theorem pg_X8_seek_k : pg_X8_seek.all (ds_okb mt_X8_seek.1.cls mt_X8_seek.2.1) = true := by decide +kernel
theorem ok_X8_seek : ds_good mt_X8_seek pg_X8_seek := ds_good_of pg_X8_seek_k (by decide +kernel)
def mt_X8_sought : ds_M := (⟨"WayWeights", "sought", "(I)I"⟩, prog_1_method_18_code, 2, some .int, 1, 21)
def pg_X8_sought : List ds_I := [(0, .aload_n 0, 1, 0, 0, 0, .int 0), (1, .getfield 56, 3, 8, 6, 331, .int 0), (4, .getfield 228, 3, 5, 2, 262, .int 0), (7, .ifCond .ne 6, 3, 0, 0, 0, .int 0), (10, .bipush (-3), 2, 0, 0, 0, .int (-3)), (12, .ireturn, 1, 0, 0, 0, .int 0), (13, .aload_n 0, 1, 0, 0, 0, .int 0), (14, .getfield 12, 3, 8, 0, 325, .int 0), (17, .iload_n 1, 1, 0, 0, 0, .int 0), (18, .invokevirtual 105, 3, 0, 0, 391, .int 0), (21, .ifCond .ne 5, 3, 0, 0, 0, .int 0), (24, .iconst (-1), 1, 0, 0, 0, .int (-1)), (25, .ireturn, 1, 0, 0, 0, .int 0), (26, .aload_n 0, 1, 0, 0, 0, .int 0), (27, .getfield 56, 3, 8, 6, 331, .int 0), (30, .getfield 231, 3, 5, 4, 266, .int 0), (33, .iload_n 1, 1, 0, 0, 0, .int 0), (34, .iaload, 1, 0, 0, 0, .int 0), (35, .ireturn, 1, 0, 0, 0, .int 0)]
set_option maxRecDepth 100000 in
theorem pg_X8_sought_k : pg_X8_sought.all (ds_okb mt_X8_sought.1.cls mt_X8_sought.2.1) = true := by decide +kernel
theorem ok_X8_sought : ds_good mt_X8_sought pg_X8_sought := ds_good_of pg_X8_sought_k (by decide +kernel)
def mt_X8_better : ds_M := (⟨"WayWeights", "better", "(I)J"⟩, prog_1_method_19_code, 2, some .long, 2, 52)
def pg_X8_better : List ds_I := [(0, .aload_n 0, 1, 0, 0, 0, .int 0), (1, .getfield 56, 3, 8, 6, 331, .int 0), (4, .getfield 228, 3, 5, 2, 262, .int 0), (7, .ifCond .ne 7, 3, 0, 0, 0, .int 0), (10, .ldc2_w 234, 3, 0, 0, 623, .long (-1000000000000000003)), (13, .lreturn, 1, 0, 0, 0, .int 0), (14, .iload_n 1, 1, 0, 0, 0, .int 0), (15, .invokestatic 130, 3, 0, 0, 406, .int 0), (18, .ifCond .ne 7, 3, 0, 0, 0, .int 0), (21, .ldc2_w 160, 3, 0, 0, 461, .long (-1000000000000000002)), (24, .lreturn, 1, 0, 0, 0, .int 0), (25, .aload_n 0, 1, 0, 0, 0, .int 0), (26, .getfield 56, 3, 8, 6, 331, .int 0), (29, .getfield 236, 3, 5, 5, 268, .int 0), (32, .getfield 196, 3, 3, 0, 197, .int 0), (35, .ldc2_w 173, 3, 0, 0, 481, .long 151200), (38, .aload_n 0, 1, 0, 0, 0, .int 0), (39, .getfield 56, 3, 8, 6, 331, .int 0), (42, .getfield 236, 3, 5, 5, 268, .int 0), (45, .getfield 199, 3, 3, 1, 199, .int 0), (48, .i2l, 1, 0, 0, 0, .int 0), (49, .lmul, 1, 0, 0, 0, .int 0), (50, .iload_n 1, 1, 0, 0, 0, .int 0), (51, .invokestatic 175, 3, 0, 0, 482, .int 0), (54, .lreturn, 1, 0, 0, 0, .int 0)]
set_option maxRecDepth 100000 in
theorem pg_X8_better_k : pg_X8_better.all (ds_okb mt_X8_better.1.cls mt_X8_better.2.1) = true := by decide +kernel
theorem ok_X8_better : ds_good mt_X8_better pg_X8_better := ds_good_of pg_X8_better_k (by decide +kernel)
def mt_X8_take : ds_M := (⟨"WayWeights", "take", "()I"⟩, prog_1_method_20_code, 1, some .int, 1, 26)
def pg_X8_take : List ds_I := [(0, .aload_n 0, 1, 0, 0, 0, .int 0), (1, .getfield 56, 3, 8, 6, 331, .int 0), (4, .getfield 228, 3, 5, 2, 262, .int 0), (7, .ifCond .ne 6, 3, 0, 0, 0, .int 0), (10, .bipush (-3), 2, 0, 0, 0, .int (-3)), (12, .ireturn, 1, 0, 0, 0, .int 0), (13, .aload_n 0, 1, 0, 0, 0, .int 0), (14, .getfield 56, 3, 8, 6, 331, .int 0), (17, .getfield 231, 3, 5, 4, 266, .int 0), (20, .iconst 0, 1, 0, 0, 0, .int 0), (21, .aload_n 0, 1, 0, 0, 0, .int 0), (22, .getfield 12, 3, 8, 0, 325, .int 0), (25, .getfield 117, 3, 1, 5, 98, .int 0), (28, .iconst 0, 1, 0, 0, 0, .int 0), (29, .bipush 10, 2, 0, 0, 0, .int 10), (31, .invokestatic 239, 3, 0, 0, 628, .int 0), (34, .aload_n 0, 1, 0, 0, 0, .int 0), (35, .getfield 56, 3, 8, 6, 331, .int 0), (38, .invokevirtual 87, 3, 0, 0, 364, .int 0), (41, .aload_n 0, 1, 0, 0, 0, .int 0), (42, .getfield 56, 3, 8, 6, 331, .int 0), (45, .getfield 225, 3, 5, 3, 264, .int 0), (48, .ireturn, 1, 0, 0, 0, .int 0)]
set_option maxRecDepth 100000 in
theorem pg_X8_take_k : pg_X8_take.all (ds_okb mt_X8_take.1.cls mt_X8_take.2.1) = true := by decide +kernel
theorem ok_X8_take : ds_good mt_X8_take pg_X8_take := ds_good_of pg_X8_take_k (by decide +kernel)
def mt_X8_ring : ds_M := (⟨"WayWeights", "ring", "(II)I"⟩, prog_1_method_21_code, 4, some .int, 6, 150)
def pg_X8_ring : List ds_I := [(0, .aload_n 0, 1, 0, 0, 0, .int 0), (1, .iload_n 1, 1, 0, 0, 0, .int 0), (2, .iload_n 2, 1, 0, 0, 0, .int 0), (3, .invokevirtual 245, 3, 0, 0, 633, .int 0), (6, .istore_n 3, 1, 0, 0, 0, .int 0), (7, .iload_n 3, 1, 0, 0, 0, .int 0), (8, .ifCond .eq 7, 3, 0, 0, 0, .int 0), (11, .iload_n 3, 1, 0, 0, 0, .int 0), (12, .goto 12, 3, 0, 0, 0, .int 0), (15, .aload_n 0, 1, 0, 0, 0, .int 0), (16, .getfield 65, 3, 8, 7, 332, .int 0), (19, .iload_n 1, 1, 0, 0, 0, .int 0), (20, .iload_n 2, 1, 0, 0, 0, .int 0), (21, .invokevirtual 248, 3, 0, 0, 637, .int 0), (24, .ireturn, 1, 0, 0, 0, .int 0)]
set_option maxRecDepth 100000 in
theorem pg_X8_ring_k : pg_X8_ring.all (ds_okb mt_X8_ring.1.cls mt_X8_ring.2.1) = true := by decide +kernel
theorem ok_X8_ring : ds_good mt_X8_ring pg_X8_ring := ds_good_of pg_X8_ring_k (by decide +kernel)
def mt_X8_between : ds_M := (⟨"WayWeights", "between", "(II)I"⟩, prog_1_method_22_code, 4, some .int, 7, 173)
def pg_X8_between : List ds_I := [(0, .aload_n 0, 1, 0, 0, 0, .int 0), (1, .iload_n 1, 1, 0, 0, 0, .int 0), (2, .iload_n 2, 1, 0, 0, 0, .int 0), (3, .invokevirtual 245, 3, 0, 0, 633, .int 0), (6, .istore_n 3, 1, 0, 0, 0, .int 0), (7, .iload_n 3, 1, 0, 0, 0, .int 0), (8, .ifCond .eq 7, 3, 0, 0, 0, .int 0), (11, .iload_n 3, 1, 0, 0, 0, .int 0), (12, .goto 12, 3, 0, 0, 0, .int 0), (15, .aload_n 0, 1, 0, 0, 0, .int 0), (16, .getfield 65, 3, 8, 7, 332, .int 0), (19, .iload_n 1, 1, 0, 0, 0, .int 0), (20, .iload_n 2, 1, 0, 0, 0, .int 0), (21, .invokevirtual 251, 3, 0, 0, 666, .int 0), (24, .ireturn, 1, 0, 0, 0, .int 0)]
set_option maxRecDepth 100000 in
theorem pg_X8_between_k : pg_X8_between.all (ds_okb mt_X8_between.1.cls mt_X8_between.2.1) = true := by decide +kernel
theorem ok_X8_between : ds_good mt_X8_between pg_X8_between := ds_good_of pg_X8_between_k (by decide +kernel)
def mt_X8_value : ds_M := (⟨"WayWeights", "value", "(III)I"⟩, prog_1_method_23_code, 5, some .int, 7, 176)
def pg_X8_value : List ds_I := [(0, .aload_n 0, 1, 0, 0, 0, .int 0), (1, .iload_n 1, 1, 0, 0, 0, .int 0), (2, .iload_n 2, 1, 0, 0, 0, .int 0), (3, .invokevirtual 245, 3, 0, 0, 633, .int 0), (6, .istore 4, 2, 0, 0, 0, .int 0), (8, .iload 4, 2, 0, 0, 0, .int 0), (10, .ifCond .eq 8, 3, 0, 0, 0, .int 0), (13, .iload 4, 2, 0, 0, 0, .int 0), (15, .goto 13, 3, 0, 0, 0, .int 0), (18, .aload_n 0, 1, 0, 0, 0, .int 0), (19, .getfield 65, 3, 8, 7, 332, .int 0), (22, .iload_n 1, 1, 0, 0, 0, .int 0), (23, .iload_n 2, 1, 0, 0, 0, .int 0), (24, .iload_n 3, 1, 0, 0, 0, .int 0), (25, .invokevirtual 254, 3, 0, 0, 683, .int 0), (28, .ireturn, 1, 0, 0, 0, .int 0)]
set_option maxRecDepth 100000 in
theorem pg_X8_value_k : pg_X8_value.all (ds_okb mt_X8_value.1.cls mt_X8_value.2.1) = true := by decide +kernel
theorem ok_X8_value : ds_good mt_X8_value pg_X8_value := ds_good_of pg_X8_value_k (by decide +kernel)
def mt_X8_grow : ds_M := (⟨"WayWeights", "grow", "(II)J"⟩, prog_1_method_24_code, 3, some .long, 6, 147)
def pg_X8_grow : List ds_I := [(0, .iload_n 1, 1, 0, 0, 0, .int 0), (1, .invokestatic 137, 3, 0, 0, 416, .int 0), (4, .ifCond .ne 7, 3, 0, 0, 0, .int 0), (7, .ldc2_w 158, 3, 0, 0, 460, .long (-1000000000000000001)), (10, .lreturn, 1, 0, 0, 0, .int 0), (11, .iload_n 2, 1, 0, 0, 0, .int 0), (12, .invokestatic 130, 3, 0, 0, 406, .int 0), (15, .ifCond .ne 7, 3, 0, 0, 0, .int 0), (18, .ldc2_w 160, 3, 0, 0, 461, .long (-1000000000000000002)), (21, .lreturn, 1, 0, 0, 0, .int 0), (22, .aload_n 0, 1, 0, 0, 0, .int 0), (23, .iload_n 1, 1, 0, 0, 0, .int 0), (24, .invokevirtual 187, 3, 0, 0, 514, .int 0), (27, .aload_n 0, 1, 0, 0, 0, .int 0), (28, .getfield 38, 3, 8, 4, 329, .int 0), (31, .getfield 196, 3, 3, 0, 197, .int 0), (34, .lconst 0, 1, 0, 0, 0, .long 0), (35, .lcmp, 1, 0, 0, 0, .int 0), (36, .ifCond .ne 7, 3, 0, 0, 0, .int 0), (39, .ldc2_w 258, 3, 0, 0, 695, .long (-1000000000000000006)), (42, .lreturn, 1, 0, 0, 0, .int 0), (43, .ldc2_w 173, 3, 0, 0, 481, .long 151200), (46, .aload_n 0, 1, 0, 0, 0, .int 0), (47, .getfield 38, 3, 8, 4, 329, .int 0), (50, .getfield 199, 3, 3, 1, 199, .int 0), (53, .i2l, 1, 0, 0, 0, .int 0), (54, .lmul, 1, 0, 0, 0, .int 0), (55, .aload_n 0, 1, 0, 0, 0, .int 0), (56, .getfield 38, 3, 8, 4, 329, .int 0), (59, .getfield 196, 3, 3, 0, 197, .int 0), (62, .iload_n 2, 1, 0, 0, 0, .int 0), (63, .invokestatic 175, 3, 0, 0, 482, .int 0), (66, .lreturn, 1, 0, 0, 0, .int 0)]
set_option maxRecDepth 100000 in
theorem pg_X8_grow_k : pg_X8_grow.all (ds_okb mt_X8_grow.1.cls mt_X8_grow.2.1) = true := by decide +kernel
theorem ok_X8_grow : ds_good mt_X8_grow pg_X8_grow := ds_good_of pg_X8_grow_k (by decide +kernel)
def mt_X8_year : ds_M := (⟨"WayWeights", "year", "(II)I"⟩, prog_1_method_25_code, 4, some .int, 5, 126)
def pg_X8_year_0 : List ds_I := [(0, .iload_n 1, 1, 0, 0, 0, .int 0), (1, .invokestatic 137, 3, 0, 0, 416, .int 0), (4, .ifCond .ne 5, 3, 0, 0, 0, .int 0), (7, .iconst (-1), 1, 0, 0, 0, .int (-1)), (8, .ireturn, 1, 0, 0, 0, .int 0), (9, .iload_n 2, 1, 0, 0, 0, .int 0), (10, .iconst 1, 1, 0, 0, 0, .int 1), (11, .if_icmp .lt 9, 3, 0, 0, 0, .int 0), (14, .iload_n 2, 1, 0, 0, 0, .int 0), (15, .bipush 100, 2, 0, 0, 0, .int 100), (17, .if_icmp .le 6, 3, 0, 0, 0, .int 0), (20, .bipush (-2), 2, 0, 0, 0, .int (-2)), (22, .ireturn, 1, 0, 0, 0, .int 0), (23, .aload_n 0, 1, 0, 0, 0, .int 0), (24, .getfield 24, 3, 8, 2, 327, .int 0), (27, .aload_n 0, 1, 0, 0, 0, .int 0), (28, .getfield 12, 3, 8, 0, 325, .int 0), (31, .iconst (-1), 1, 0, 0, 0, .int (-1)), (32, .invokevirtual 179, 3, 0, 0, 492, .int 0), (35, .aload_n 0, 1, 0, 0, 0, .int 0), (36, .getfield 18, 3, 8, 1, 326, .int 0), (39, .iload_n 1, 1, 0, 0, 0, .int 0), (40, .aaload, 1, 14, 0, 0, .int 0), (41, .iconst 0, 1, 0, 0, 0, .int 0), (42, .aload_n 0, 1, 0, 0, 0, .int 0), (43, .getfield 69, 3, 8, 8, 333, .int 0), (46, .iconst 0, 1, 0, 0, 0, .int 0), (47, .bipush 36, 2, 0, 0, 0, .int 36), (49, .invokestatic 239, 3, 0, 0, 628, .int 0), (52, .iconst 0, 1, 0, 0, 0, .int 0), (53, .istore_n 3, 1, 0, 0, 0, .int 0), (54, .iload_n 3, 1, 0, 0, 0, .int 0), (55, .bipush 100, 2, 0, 0, 0, .int 100), (57, .if_icmp .ge 67, 3, 0, 0, 0, .int 0), (60, .aload_n 0, 1, 0, 0, 0, .int 0), (61, .getfield 31, 3, 8, 3, 328, .int 0), (64, .aload_n 0, 1, 0, 0, 0, .int 0), (65, .getfield 12, 3, 8, 0, 325, .int 0), (68, .aload_n 0, 1, 0, 0, 0, .int 0), (69, .getfield 24, 3, 8, 2, 327, .int 0)]
set_option maxRecDepth 100000 in
theorem pg_X8_year_0_k : pg_X8_year_0.all (ds_okb mt_X8_year.1.cls mt_X8_year.2.1) = true := by decide +kernel
def pg_X8_year_1 : List ds_I := [(72, .aload_n 0, 1, 0, 0, 0, .int 0), (73, .getfield 69, 3, 8, 8, 333, .int 0), (76, .invokevirtual 183, 3, 0, 0, 501, .int 0), (79, .aload_n 0, 1, 0, 0, 0, .int 0), (80, .getfield 38, 3, 8, 4, 329, .int 0), (83, .invokevirtual 260, 3, 0, 0, 518, .int 0), (86, .aload_n 0, 1, 0, 0, 0, .int 0), (87, .getfield 38, 3, 8, 4, 329, .int 0), (90, .aload_n 0, 1, 0, 0, 0, .int 0), (91, .getfield 12, 3, 8, 0, 325, .int 0), (94, .aload_n 0, 1, 0, 0, 0, .int 0), (95, .getfield 31, 3, 8, 3, 328, .int 0), (98, .invokevirtual 263, 3, 0, 0, 522, .int 0), (101, .aload_n 0, 1, 0, 0, 0, .int 0), (102, .getfield 38, 3, 8, 4, 329, .int 0), (105, .invokevirtual 267, 3, 0, 0, 700, .int 0), (108, .ifCond .eq 5, 3, 0, 0, 0, .int 0), (111, .iload_n 3, 1, 0, 0, 0, .int 0), (112, .ireturn, 1, 0, 0, 0, .int 0), (113, .aload_n 0, 1, 0, 0, 0, .int 0), (114, .iload_n 2, 1, 0, 0, 0, .int 0), (115, .invokevirtual 271, 3, 0, 0, 705, .int 0), (118, .iinc 3 1, 3, 0, 0, 0, .int 1), (121, .goto (-67), 3, 0, 0, 0, .int 0), (124, .bipush (-6), 2, 0, 0, 0, .int (-6)), (126, .ireturn, 1, 0, 0, 0, .int 0)]
set_option maxRecDepth 100000 in
theorem pg_X8_year_1_k : pg_X8_year_1.all (ds_okb mt_X8_year.1.cls mt_X8_year.2.1) = true := by decide +kernel
def pg_X8_year : List ds_I := pg_X8_year_0 ++ (pg_X8_year_1)
theorem pg_X8_year_k : pg_X8_year.all (ds_okb mt_X8_year.1.cls mt_X8_year.2.1) = true := (ds_all_and pg_X8_year_0_k pg_X8_year_1_k)
theorem ok_X8_year : ds_good mt_X8_year pg_X8_year := ds_good_of pg_X8_year_k (by decide +kernel)
def mt_X8_told : ds_M := (⟨"WayWeights", "told", "(I)I"⟩, prog_1_method_26_code, 2, some .int, 1, 23)
def pg_X8_told : List ds_I := [(0, .iload_n 1, 1, 0, 0, 0, .int 0), (1, .tableswitch 103 0 7 #[47, 55, 63, 71, 79, 95, 95, 95], 47, 0, 0, 0, .int 0), (48, .aload_n 0, 1, 0, 0, 0, .int 0), (49, .getfield 12, 3, 8, 0, 325, .int 0), (52, .getfield 73, 3, 1, 0, 71, .int 0), (55, .ireturn, 1, 0, 0, 0, .int 0), (56, .aload_n 0, 1, 0, 0, 0, .int 0), (57, .getfield 12, 3, 8, 0, 325, .int 0), (60, .getfield 98, 3, 1, 1, 79, .int 0), (63, .ireturn, 1, 0, 0, 0, .int 0), (64, .aload_n 0, 1, 0, 0, 0, .int 0), (65, .getfield 12, 3, 8, 0, 325, .int 0), (68, .getfield 120, 3, 1, 6, 101, .int 0), (71, .ireturn, 1, 0, 0, 0, .int 0), (72, .aload_n 0, 1, 0, 0, 0, .int 0), (73, .getfield 12, 3, 8, 0, 325, .int 0), (76, .getfield 127, 3, 1, 7, 105, .int 0), (79, .ireturn, 1, 0, 0, 0, .int 0), (80, .aload_n 0, 1, 0, 0, 0, .int 0), (81, .getfield 47, 3, 8, 5, 330, .int 0), (84, .getfield 201, 3, 6, 2, 234, .int 0), (87, .ifCond .eq 7, 3, 0, 0, 0, .int 0), (90, .iconst 1, 1, 0, 0, 0, .int 1), (91, .goto 4, 3, 0, 0, 0, .int 0), (94, .iconst 0, 1, 0, 0, 0, .int 0), (95, .ireturn, 1, 0, 0, 0, .int 0), (96, .aload_n 0, 1, 0, 0, 0, .int 0), (97, .iload_n 1, 1, 0, 0, 0, .int 0), (98, .iconst 5, 1, 0, 0, 0, .int 5), (99, .isub, 1, 0, 0, 0, .int 0), (100, .invokevirtual 274, 3, 0, 0, 719, .int 0), (103, .ireturn, 1, 0, 0, 0, .int 0), (104, .bipush (-2), 2, 0, 0, 0, .int (-2)), (106, .ireturn, 1, 0, 0, 0, .int 0)]
set_option maxRecDepth 100000 in
theorem pg_X8_told_k : pg_X8_told.all (ds_okb mt_X8_told.1.cls mt_X8_told.2.1) = true := by decide +kernel
theorem ok_X8_told : ds_good mt_X8_told pg_X8_told := ds_good_of pg_X8_told_k (by decide +kernel)
def mt_X8_refusalOfNews : ds_M := (⟨"WayWeights", "refusalOfNews", "(II)I"⟩, prog_1_method_27_code, 3, some .int, 1, 21)
def pg_X8_refusalOfNews : List ds_I := [(0, .aload_n 0, 1, 0, 0, 0, .int 0), (1, .getfield 12, 3, 8, 0, 325, .int 0), (4, .iload_n 1, 1, 0, 0, 0, .int 0), (5, .invokevirtual 105, 3, 0, 0, 391, .int 0), (8, .ifCond .ne 5, 3, 0, 0, 0, .int 0), (11, .iconst (-1), 1, 0, 0, 0, .int (-1)), (12, .ireturn, 1, 0, 0, 0, .int 0), (13, .iload_n 2, 1, 0, 0, 0, .int 0), (14, .invokestatic 94, 3, 0, 0, 380, .int 0), (17, .ifCond .ne 6, 3, 0, 0, 0, .int 0), (20, .bipush (-2), 2, 0, 0, 0, .int (-2)), (22, .ireturn, 1, 0, 0, 0, .int 0), (23, .aload_n 0, 1, 0, 0, 0, .int 0), (24, .getfield 12, 3, 8, 0, 325, .int 0), (27, .getfield 127, 3, 1, 7, 105, .int 0), (30, .iload_n 1, 1, 0, 0, 0, .int 0), (31, .invokestatic 123, 3, 0, 0, 395, .int 0), (34, .iconst 1, 1, 0, 0, 0, .int 1), (35, .if_icmp .ne 8, 3, 0, 0, 0, .int 0), (38, .bipush (-3), 2, 0, 0, 0, .int (-3)), (40, .goto 4, 3, 0, 0, 0, .int 0), (43, .iconst 0, 1, 0, 0, 0, .int 0), (44, .ireturn, 1, 0, 0, 0, .int 0)]
set_option maxRecDepth 100000 in
theorem pg_X8_refusalOfNews_k : pg_X8_refusalOfNews.all (ds_okb mt_X8_refusalOfNews.1.cls mt_X8_refusalOfNews.2.1) = true := by decide +kernel
theorem ok_X8_refusalOfNews : ds_good mt_X8_refusalOfNews pg_X8_refusalOfNews := ds_good_of pg_X8_refusalOfNews_k (by decide +kernel)
def mt_X8_findPeak : ds_M := (⟨"WayWeights", "findPeak", "(I)V"⟩, prog_1_method_28_code, 2, none, 5, 126)
def pg_X8_findPeak : List ds_I := [(0, .aload_n 0, 1, 0, 0, 0, .int 0), (1, .getfield 24, 3, 8, 2, 327, .int 0), (4, .aload_n 0, 1, 0, 0, 0, .int 0), (5, .getfield 12, 3, 8, 0, 325, .int 0), (8, .iconst (-1), 1, 0, 0, 0, .int (-1)), (9, .invokevirtual 179, 3, 0, 0, 492, .int 0), (12, .aload_n 0, 1, 0, 0, 0, .int 0), (13, .getfield 31, 3, 8, 3, 328, .int 0), (16, .aload_n 0, 1, 0, 0, 0, .int 0), (17, .getfield 12, 3, 8, 0, 325, .int 0), (20, .aload_n 0, 1, 0, 0, 0, .int 0), (21, .getfield 24, 3, 8, 2, 327, .int 0), (24, .aload_n 0, 1, 0, 0, 0, .int 0), (25, .getfield 18, 3, 8, 1, 326, .int 0), (28, .iload_n 1, 1, 0, 0, 0, .int 0), (29, .aaload, 1, 14, 0, 0, .int 0), (30, .invokevirtual 183, 3, 0, 0, 501, .int 0), (33, .aload_n 0, 1, 0, 0, 0, .int 0), (34, .getfield 38, 3, 8, 4, 329, .int 0), (37, .invokevirtual 260, 3, 0, 0, 518, .int 0), (40, .aload_n 0, 1, 0, 0, 0, .int 0), (41, .getfield 38, 3, 8, 4, 329, .int 0), (44, .aload_n 0, 1, 0, 0, 0, .int 0), (45, .getfield 12, 3, 8, 0, 325, .int 0), (48, .aload_n 0, 1, 0, 0, 0, .int 0), (49, .getfield 31, 3, 8, 3, 328, .int 0), (52, .invokevirtual 263, 3, 0, 0, 522, .int 0), (55, .return_, 1, 0, 0, 0, .int 0)]
set_option maxRecDepth 100000 in
theorem pg_X8_findPeak_k : pg_X8_findPeak.all (ds_okb mt_X8_findPeak.1.cls mt_X8_findPeak.2.1) = true := by decide +kernel
theorem ok_X8_findPeak : ds_good mt_X8_findPeak pg_X8_findPeak := ds_good_of pg_X8_findPeak_k (by decide +kernel)
def mt_X8_growByHundredths : ds_M := (⟨"WayWeights", "growByHundredths", "(I)V"⟩, prog_1_method_29_code, 5, none, 1, 23)
def pg_X8_growByHundredths : List ds_I := [(0, .iconst 0, 1, 0, 0, 0, .int 0), (1, .istore_n 2, 1, 0, 0, 0, .int 0), (2, .iload_n 2, 1, 0, 0, 0, .int 0), (3, .bipush 36, 2, 0, 0, 0, .int 36), (5, .if_icmp .ge 45, 3, 0, 0, 0, .int 0), (8, .aload_n 0, 1, 0, 0, 0, .int 0), (9, .getfield 69, 3, 8, 8, 333, .int 0), (12, .iload_n 2, 1, 0, 0, 0, .int 0), (13, .iaload, 1, 0, 0, 0, .int 0), (14, .i2l, 1, 0, 0, 0, .int 0), (15, .bipush 100, 2, 0, 0, 0, .int 100), (17, .iload_n 1, 1, 0, 0, 0, .int 0), (18, .iadd, 1, 0, 0, 0, .int 0), (19, .i2l, 1, 0, 0, 0, .int 0), (20, .lmul, 1, 0, 0, 0, .int 0), (21, .lstore_n 3, 1, 0, 0, 0, .int 0), (22, .aload_n 0, 1, 0, 0, 0, .int 0), (23, .getfield 69, 3, 8, 8, 333, .int 0), (26, .iload_n 2, 1, 0, 0, 0, .int 0), (27, .lload_n 3, 1, 0, 0, 0, .int 0), (28, .ldc2_w 278, 3, 0, 0, 709, .long 99), (31, .ladd, 1, 0, 0, 0, .int 0), (32, .ldc2_w 280, 3, 0, 0, 710, .long 100), (35, .ldiv, 1, 0, 0, 0, .int 0), (36, .ldc2_w 282, 3, 0, 0, 711, .long 1000000), (39, .invokestatic 284, 3, 0, 0, 712, .int 0), (42, .l2i, 1, 0, 0, 0, .int 0), (43, .iastore, 1, 0, 0, 0, .int 0), (44, .iinc 2 1, 3, 0, 0, 0, .int 1), (47, .goto (-45), 3, 0, 0, 0, .int 0), (50, .return_, 1, 0, 0, 0, .int 0)]
set_option maxRecDepth 100000 in
theorem pg_X8_growByHundredths_k : pg_X8_growByHundredths.all (ds_okb mt_X8_growByHundredths.1.cls mt_X8_growByHundredths.2.1) = true := by decide +kernel
theorem ok_X8_growByHundredths : ds_good mt_X8_growByHundredths pg_X8_growByHundredths := ds_good_of pg_X8_growByHundredths_k (by decide +kernel)
def mt_X8_sumOfLoads : ds_M := (⟨"WayWeights", "sumOfLoads", "(I)I"⟩, prog_1_method_30_code, 4, some .int, 0, 0)
def pg_X8_sumOfLoads : List ds_I := [(0, .iconst 0, 1, 0, 0, 0, .int 0), (1, .istore_n 2, 1, 0, 0, 0, .int 0), (2, .iconst 0, 1, 0, 0, 0, .int 0), (3, .istore_n 3, 1, 0, 0, 0, .int 0), (4, .iload_n 3, 1, 0, 0, 0, .int 0), (5, .bipush 36, 2, 0, 0, 0, .int 36), (7, .if_icmp .ge 20, 3, 0, 0, 0, .int 0), (10, .iload_n 2, 1, 0, 0, 0, .int 0), (11, .aload_n 0, 1, 0, 0, 0, .int 0), (12, .getfield 18, 3, 8, 1, 326, .int 0), (15, .iload_n 1, 1, 0, 0, 0, .int 0), (16, .aaload, 1, 14, 0, 0, .int 0), (17, .iload_n 3, 1, 0, 0, 0, .int 0), (18, .iaload, 1, 0, 0, 0, .int 0), (19, .iadd, 1, 0, 0, 0, .int 0), (20, .istore_n 2, 1, 0, 0, 0, .int 0), (21, .iinc 3 1, 3, 0, 0, 0, .int 1), (24, .goto (-20), 3, 0, 0, 0, .int 0), (27, .iload_n 2, 1, 0, 0, 0, .int 0), (28, .ireturn, 1, 0, 0, 0, .int 0)]
set_option maxRecDepth 100000 in
theorem pg_X8_sumOfLoads_k : pg_X8_sumOfLoads.all (ds_okb mt_X8_sumOfLoads.1.cls mt_X8_sumOfLoads.2.1) = true := by decide +kernel
theorem ok_X8_sumOfLoads : ds_good mt_X8_sumOfLoads pg_X8_sumOfLoads := ds_good_of pg_X8_sumOfLoads_k (by decide +kernel)
def mt_X8_isTable : ds_M := (⟨"WayWeights", "isTable", "(I)Z"⟩, prog_1_method_31_code, 1, some .boolean, 0, 0)
def pg_X8_isTable : List ds_I := [(0, .iload_n 0, 1, 0, 0, 0, .int 0), (1, .ifCond .lt 12, 3, 0, 0, 0, .int 0), (4, .iload_n 0, 1, 0, 0, 0, .int 0), (5, .iconst 3, 1, 0, 0, 0, .int 3), (6, .if_icmp .ge 7, 3, 0, 0, 0, .int 0), (9, .iconst 1, 1, 0, 0, 0, .int 1), (10, .goto 4, 3, 0, 0, 0, .int 0), (13, .iconst 0, 1, 0, 0, 0, .int 0), (14, .ireturn, 1, 0, 0, 0, .int 0)]
set_option maxRecDepth 100000 in
theorem pg_X8_isTable_k : pg_X8_isTable.all (ds_okb mt_X8_isTable.1.cls mt_X8_isTable.2.1) = true := by decide +kernel
theorem ok_X8_isTable : ds_good mt_X8_isTable pg_X8_isTable := ds_good_of pg_X8_isTable_k (by decide +kernel)
def mt_X8_isWeight : ds_M := (⟨"WayWeights", "isWeight", "(I)Z"⟩, prog_1_method_32_code, 1, some .boolean, 0, 0)
def pg_X8_isWeight : List ds_I := [(0, .iload_n 0, 1, 0, 0, 0, .int 0), (1, .iconst 1, 1, 0, 0, 0, .int 1), (2, .if_icmp .lt 13, 3, 0, 0, 0, .int 0), (5, .iload_n 0, 1, 0, 0, 0, .int 0), (6, .bipush 20, 2, 0, 0, 0, .int 20), (8, .if_icmp .gt 7, 3, 0, 0, 0, .int 0), (11, .iconst 1, 1, 0, 0, 0, .int 1), (12, .goto 4, 3, 0, 0, 0, .int 0), (15, .iconst 0, 1, 0, 0, 0, .int 0), (16, .ireturn, 1, 0, 0, 0, .int 0)]
set_option maxRecDepth 100000 in
theorem pg_X8_isWeight_k : pg_X8_isWeight.all (ds_okb mt_X8_isWeight.1.cls mt_X8_isWeight.2.1) = true := by decide +kernel
theorem ok_X8_isWeight : ds_good mt_X8_isWeight pg_X8_isWeight := ds_good_of pg_X8_isWeight_k (by decide +kernel)
def mt_X8_isOneOfTwo : ds_M := (⟨"WayWeights", "isOneOfTwo", "(I)Z"⟩, prog_1_method_33_code, 1, some .boolean, 0, 0)
def pg_X8_isOneOfTwo : List ds_I := [(0, .iload_n 0, 1, 0, 0, 0, .int 0), (1, .ifCond .eq 8, 3, 0, 0, 0, .int 0), (4, .iload_n 0, 1, 0, 0, 0, .int 0), (5, .iconst 1, 1, 0, 0, 0, .int 1), (6, .if_icmp .ne 7, 3, 0, 0, 0, .int 0), (9, .iconst 1, 1, 0, 0, 0, .int 1), (10, .goto 4, 3, 0, 0, 0, .int 0), (13, .iconst 0, 1, 0, 0, 0, .int 0), (14, .ireturn, 1, 0, 0, 0, .int 0)]
set_option maxRecDepth 100000 in
theorem pg_X8_isOneOfTwo_k : pg_X8_isOneOfTwo.all (ds_okb mt_X8_isOneOfTwo.1.cls mt_X8_isOneOfTwo.2.1) = true := by decide +kernel
theorem ok_X8_isOneOfTwo : ds_good mt_X8_isOneOfTwo pg_X8_isOneOfTwo := ds_good_of pg_X8_isOneOfTwo_k (by decide +kernel)
def mt_X8_bit : ds_M := (⟨"WayWeights", "bit", "(II)I"⟩, prog_1_method_34_code, 2, some .int, 0, 0)
def pg_X8_bit : List ds_I := [(0, .iload_n 0, 1, 0, 0, 0, .int 0), (1, .iload_n 1, 1, 0, 0, 0, .int 0), (2, .ishr, 1, 0, 0, 0, .int 0), (3, .iconst 1, 1, 0, 0, 0, .int 1), (4, .iand, 1, 0, 0, 0, .int 0), (5, .ireturn, 1, 0, 0, 0, .int 0)]
set_option maxRecDepth 100000 in
theorem pg_X8_bit_k : pg_X8_bit.all (ds_okb mt_X8_bit.1.cls mt_X8_bit.2.1) = true := by decide +kernel
theorem ok_X8_bit : ds_good mt_X8_bit pg_X8_bit := ds_good_of pg_X8_bit_k (by decide +kernel)
def mt_X8_withBit : ds_M := (⟨"WayWeights", "withBit", "(IIZ)I"⟩, prog_1_method_35_code, 3, some .int, 0, 0)
def pg_X8_withBit : List ds_I := [(0, .iload_n 2, 1, 0, 0, 0, .int 0), (1, .ifCond .eq 11, 3, 0, 0, 0, .int 0), (4, .iload_n 0, 1, 0, 0, 0, .int 0), (5, .iconst 1, 1, 0, 0, 0, .int 1), (6, .iload_n 1, 1, 0, 0, 0, .int 0), (7, .ishl, 1, 0, 0, 0, .int 0), (8, .ior, 1, 0, 0, 0, .int 0), (9, .goto 10, 3, 0, 0, 0, .int 0), (12, .iload_n 0, 1, 0, 0, 0, .int 0), (13, .iconst 1, 1, 0, 0, 0, .int 1), (14, .iload_n 1, 1, 0, 0, 0, .int 0), (15, .ishl, 1, 0, 0, 0, .int 0), (16, .iconst (-1), 1, 0, 0, 0, .int (-1)), (17, .ixor, 1, 0, 0, 0, .int 0), (18, .iand, 1, 0, 0, 0, .int 0), (19, .ireturn, 1, 0, 0, 0, .int 0)]
set_option maxRecDepth 100000 in
theorem pg_X8_withBit_k : pg_X8_withBit.all (ds_okb mt_X8_withBit.1.cls mt_X8_withBit.2.1) = true := by decide +kernel
theorem ok_X8_withBit : ds_good mt_X8_withBit pg_X8_withBit := ds_good_of pg_X8_withBit_k (by decide +kernel)
def mt_X8_pair : ds_M := (⟨"WayWeights", "pair", "(II)I"⟩, prog_1_method_36_code, 2, some .int, 0, 0)
def pg_X8_pair : List ds_I := [(0, .iload_n 0, 1, 0, 0, 0, .int 0), (1, .bipush 6, 2, 0, 0, 0, .int 6), (3, .imul, 1, 0, 0, 0, .int 0), (4, .iload_n 1, 1, 0, 0, 0, .int 0), (5, .iadd, 1, 0, 0, 0, .int 0), (6, .ireturn, 1, 0, 0, 0, .int 0)]
set_option maxRecDepth 100000 in
theorem pg_X8_pair_k : pg_X8_pair.all (ds_okb mt_X8_pair.1.cls mt_X8_pair.2.1) = true := by decide +kernel
theorem ok_X8_pair : ds_good mt_X8_pair pg_X8_pair := ds_good_of pg_X8_pair_k (by decide +kernel)
def mt_X8_slot : ds_M := (⟨"WayWeights", "slot", "(II)I"⟩, prog_1_method_37_code, 2, some .int, 0, 0)
def pg_X8_slot : List ds_I := [(0, .iconst 2, 1, 0, 0, 0, .int 2), (1, .iload_n 0, 1, 0, 0, 0, .int 0), (2, .imul, 1, 0, 0, 0, .int 0), (3, .iload_n 1, 1, 0, 0, 0, .int 0), (4, .iadd, 1, 0, 0, 0, .int 0), (5, .ireturn, 1, 0, 0, 0, .int 0)]
set_option maxRecDepth 100000 in
theorem pg_X8_slot_k : pg_X8_slot.all (ds_okb mt_X8_slot.1.cls mt_X8_slot.2.1) = true := by decide +kernel
theorem ok_X8_slot : ds_good mt_X8_slot pg_X8_slot := ds_good_of pg_X8_slot_k (by decide +kernel)
def mt_X8_fraction : ds_M := (⟨"WayWeights", "fraction", "(JJI)J"⟩, prog_1_method_38_code, 7, some .long, 1, 26)
def pg_X8_fraction : List ds_I := [(0, .lload_n 0, 1, 0, 0, 0, .int 0), (1, .lload_n 2, 1, 0, 0, 0, .int 0), (2, .invokestatic 290, 3, 0, 0, 485, .int 0), (5, .lstore 5, 2, 0, 0, 0, .int 0), (7, .iload 4, 2, 0, 0, 0, .int 0), (9, .ifCond .ne 7, 3, 0, 0, 0, .int 0), (12, .lload_n 0, 1, 0, 0, 0, .int 0), (13, .goto 4, 3, 0, 0, 0, .int 0), (16, .lload_n 2, 1, 0, 0, 0, .int 0), (17, .lload 5, 2, 0, 0, 0, .int 0), (19, .lconst 0, 1, 0, 0, 0, .long 0), (20, .lcmp, 1, 0, 0, 0, .int 0), (21, .ifCond .le 8, 3, 0, 0, 0, .int 0), (24, .lload 5, 2, 0, 0, 0, .int 0), (26, .goto 4, 3, 0, 0, 0, .int 0), (29, .lconst 1, 1, 0, 0, 0, .long 1), (30, .ldiv, 1, 0, 0, 0, .int 0), (31, .lreturn, 1, 0, 0, 0, .int 0)]
set_option maxRecDepth 100000 in
theorem pg_X8_fraction_k : pg_X8_fraction.all (ds_okb mt_X8_fraction.1.cls mt_X8_fraction.2.1) = true := by decide +kernel
theorem ok_X8_fraction : ds_good mt_X8_fraction pg_X8_fraction := ds_good_of pg_X8_fraction_k (by decide +kernel)
def mt_X8_commonDivisor : ds_M := (⟨"WayWeights", "commonDivisor", "(JJ)J"⟩, prog_1_method_39_code, 7, some .long, 0, 0)
def pg_X8_commonDivisor : List ds_I := [(0, .iconst 0, 1, 0, 0, 0, .int 0), (1, .istore 4, 2, 0, 0, 0, .int 0), (3, .iload 4, 2, 0, 0, 0, .int 0), (5, .bipush 100, 2, 0, 0, 0, .int 100), (7, .if_icmp .ge 25, 3, 0, 0, 0, .int 0), (10, .lload_n 2, 1, 0, 0, 0, .int 0), (11, .lconst 0, 1, 0, 0, 0, .long 0), (12, .lcmp, 1, 0, 0, 0, .int 0), (13, .ifCond .eq 19, 3, 0, 0, 0, .int 0), (16, .lload_n 0, 1, 0, 0, 0, .int 0), (17, .lload_n 2, 1, 0, 0, 0, .int 0), (18, .lrem, 1, 0, 0, 0, .int 0), (19, .lstore 5, 2, 0, 0, 0, .int 0), (21, .lload_n 2, 1, 0, 0, 0, .int 0), (22, .lstore_n 0, 1, 0, 0, 0, .int 0), (23, .lload 5, 2, 0, 0, 0, .int 0), (25, .lstore_n 2, 1, 0, 0, 0, .int 0), (26, .iinc 4 1, 3, 0, 0, 0, .int 1), (29, .goto (-26), 3, 0, 0, 0, .int 0), (32, .lload_n 0, 1, 0, 0, 0, .int 0), (33, .lreturn, 1, 0, 0, 0, .int 0)]
set_option maxRecDepth 100000 in
theorem pg_X8_commonDivisor_k : pg_X8_commonDivisor.all (ds_okb mt_X8_commonDivisor.1.cls mt_X8_commonDivisor.2.1) = true := by decide +kernel
theorem ok_X8_commonDivisor : ds_good mt_X8_commonDivisor pg_X8_commonDivisor := ds_good_of pg_X8_commonDivisor_k (by decide +kernel)
end
section
def mt_X9_in : ds_M := (⟨"WayWeightsModel", "in", "(JJJ)Z"⟩, prog_11_method_3_code, 6, some .boolean, 0, 0)
def pg_X9_in : List ds_I := [(0, .lload_n 0, 1, 0, 0, 0, .int 0), (1, .lload_n 2, 1, 0, 0, 0, .int 0), (2, .lcmp, 1, 0, 0, 0, .int 0), (3, .ifCond .lt 14, 3, 0, 0, 0, .int 0), (6, .lload_n 0, 1, 0, 0, 0, .int 0), (7, .lload 4, 2, 0, 0, 0, .int 0), (9, .lcmp, 1, 0, 0, 0, .int 0), (10, .ifCond .gt 7, 3, 0, 0, 0, .int 0), (13, .iconst 1, 1, 0, 0, 0, .int 1), (14, .goto 4, 3, 0, 0, 0, .int 0), (17, .iconst 0, 1, 0, 0, 0, .int 0), (18, .ireturn, 1, 0, 0, 0, .int 0)]
set_option maxRecDepth 100000 in
theorem pg_X9_in_k : pg_X9_in.all (ds_okb mt_X9_in.1.cls mt_X9_in.2.1) = true := by decide +kernel
theorem ok_X9_in : ds_good mt_X9_in pg_X9_in := ds_good_of pg_X9_in_k (by decide +kernel)
def mt_X9_common : ds_M := (⟨"WayWeightsModel", "common", "(JJ)J"⟩, prog_11_method_4_code, 10, some .long, 0, 0)
def pg_X9_common : List ds_I := [(0, .lload_n 0, 1, 0, 0, 0, .int 0), (1, .lconst 0, 1, 0, 0, 0, .long 0), (2, .lcmp, 1, 0, 0, 0, .int 0), (3, .ifCond .ge 8, 3, 0, 0, 0, .int 0), (6, .lload_n 0, 1, 0, 0, 0, .int 0), (7, .lneg, 1, 0, 0, 0, .int 0), (8, .goto 4, 3, 0, 0, 0, .int 0), (11, .lload_n 0, 1, 0, 0, 0, .int 0), (12, .lstore 4, 2, 0, 0, 0, .int 0), (14, .lload_n 2, 1, 0, 0, 0, .int 0), (15, .lconst 0, 1, 0, 0, 0, .long 0), (16, .lcmp, 1, 0, 0, 0, .int 0), (17, .ifCond .ge 8, 3, 0, 0, 0, .int 0), (20, .lload_n 2, 1, 0, 0, 0, .int 0), (21, .lneg, 1, 0, 0, 0, .int 0), (22, .goto 4, 3, 0, 0, 0, .int 0), (25, .lload_n 2, 1, 0, 0, 0, .int 0), (26, .lstore 6, 2, 0, 0, 0, .int 0), (28, .lload 6, 2, 0, 0, 0, .int 0), (30, .lconst 0, 1, 0, 0, 0, .long 0), (31, .lcmp, 1, 0, 0, 0, .int 0), (32, .ifCond .eq 21, 3, 0, 0, 0, .int 0), (35, .lload 4, 2, 0, 0, 0, .int 0), (37, .lload 6, 2, 0, 0, 0, .int 0), (39, .lrem, 1, 0, 0, 0, .int 0), (40, .lstore 8, 2, 0, 0, 0, .int 0), (42, .lload 6, 2, 0, 0, 0, .int 0), (44, .lstore 4, 2, 0, 0, 0, .int 0), (46, .lload 8, 2, 0, 0, 0, .int 0), (48, .lstore 6, 2, 0, 0, 0, .int 0), (50, .goto (-22), 3, 0, 0, 0, .int 0), (53, .lload 4, 2, 0, 0, 0, .int 0), (55, .lreturn, 1, 0, 0, 0, .int 0)]
set_option maxRecDepth 100000 in
theorem pg_X9_common_k : pg_X9_common.all (ds_okb mt_X9_common.1.cls mt_X9_common.2.1) = true := by decide +kernel
theorem ok_X9_common : ds_good mt_X9_common pg_X9_common := ds_good_of pg_X9_common_k (by decide +kernel)
def mt_X9_isGreater : ds_M := (⟨"WayWeightsModel", "isGreater", "(JJJJ)Z"⟩, prog_11_method_5_code, 21, some .boolean, 0, 0)
def pg_X9_isGreater_0 : List ds_I := [(0, .lload_n 0, 1, 0, 0, 0, .int 0), (1, .lstore 8, 2, 0, 0, 0, .int 0), (3, .lload_n 2, 1, 0, 0, 0, .int 0), (4, .lstore 10, 2, 0, 0, 0, .int 0), (6, .lload 4, 2, 0, 0, 0, .int 0), (8, .lstore 12, 2, 0, 0, 0, .int 0), (10, .lload 6, 2, 0, 0, 0, .int 0), (12, .lstore 14, 2, 0, 0, 0, .int 0), (14, .iconst 0, 1, 0, 0, 0, .int 0), (15, .istore 16, 2, 0, 0, 0, .int 0), (17, .lload 8, 2, 0, 0, 0, .int 0), (19, .lload 10, 2, 0, 0, 0, .int 0), (21, .ldiv, 1, 0, 0, 0, .int 0), (22, .lload 12, 2, 0, 0, 0, .int 0), (24, .lload 14, 2, 0, 0, 0, .int 0), (26, .ldiv, 1, 0, 0, 0, .int 0), (27, .lcmp, 1, 0, 0, 0, .int 0), (28, .ifCond .eq 33, 3, 0, 0, 0, .int 0), (31, .lload 8, 2, 0, 0, 0, .int 0), (33, .lload 10, 2, 0, 0, 0, .int 0), (35, .ldiv, 1, 0, 0, 0, .int 0), (36, .lload 12, 2, 0, 0, 0, .int 0), (38, .lload 14, 2, 0, 0, 0, .int 0), (40, .ldiv, 1, 0, 0, 0, .int 0), (41, .lcmp, 1, 0, 0, 0, .int 0), (42, .ifCond .le 7, 3, 0, 0, 0, .int 0), (45, .iconst 1, 1, 0, 0, 0, .int 1), (46, .goto 4, 3, 0, 0, 0, .int 0), (49, .iconst 0, 1, 0, 0, 0, .int 0), (50, .iload 16, 2, 0, 0, 0, .int 0), (52, .if_icmp .eq 7, 3, 0, 0, 0, .int 0), (55, .iconst 1, 1, 0, 0, 0, .int 1), (56, .goto 4, 3, 0, 0, 0, .int 0), (59, .iconst 0, 1, 0, 0, 0, .int 0), (60, .ireturn, 1, 0, 0, 0, .int 0), (61, .lload 8, 2, 0, 0, 0, .int 0), (63, .lload 10, 2, 0, 0, 0, .int 0), (65, .lrem, 1, 0, 0, 0, .int 0), (66, .lstore 17, 2, 0, 0, 0, .int 0), (68, .lload 12, 2, 0, 0, 0, .int 0)]
set_option maxRecDepth 100000 in
theorem pg_X9_isGreater_0_k : pg_X9_isGreater_0.all (ds_okb mt_X9_isGreater.1.cls mt_X9_isGreater.2.1) = true := by decide +kernel
def pg_X9_isGreater_1 : List ds_I := [(70, .lload 14, 2, 0, 0, 0, .int 0), (72, .lrem, 1, 0, 0, 0, .int 0), (73, .lstore 19, 2, 0, 0, 0, .int 0), (75, .lload 17, 2, 0, 0, 0, .int 0), (77, .lconst 0, 1, 0, 0, 0, .long 0), (78, .lcmp, 1, 0, 0, 0, .int 0), (79, .ifCond .eq 10, 3, 0, 0, 0, .int 0), (82, .lload 19, 2, 0, 0, 0, .int 0), (84, .lconst 0, 1, 0, 0, 0, .long 0), (85, .lcmp, 1, 0, 0, 0, .int 0), (86, .ifCond .ne 34, 3, 0, 0, 0, .int 0), (89, .lload 17, 2, 0, 0, 0, .int 0), (91, .lload 19, 2, 0, 0, 0, .int 0), (93, .lcmp, 1, 0, 0, 0, .int 0), (94, .ifCond .eq 24, 3, 0, 0, 0, .int 0), (97, .lload 17, 2, 0, 0, 0, .int 0), (99, .lconst 0, 1, 0, 0, 0, .long 0), (100, .lcmp, 1, 0, 0, 0, .int 0), (101, .ifCond .le 7, 3, 0, 0, 0, .int 0), (104, .iconst 1, 1, 0, 0, 0, .int 1), (105, .goto 4, 3, 0, 0, 0, .int 0), (108, .iconst 0, 1, 0, 0, 0, .int 0), (109, .iload 16, 2, 0, 0, 0, .int 0), (111, .if_icmp .eq 7, 3, 0, 0, 0, .int 0), (114, .iconst 1, 1, 0, 0, 0, .int 1), (115, .goto 4, 3, 0, 0, 0, .int 0), (118, .iconst 0, 1, 0, 0, 0, .int 0), (119, .ireturn, 1, 0, 0, 0, .int 0), (120, .lload 10, 2, 0, 0, 0, .int 0), (122, .lstore 8, 2, 0, 0, 0, .int 0), (124, .lload 17, 2, 0, 0, 0, .int 0), (126, .lstore 10, 2, 0, 0, 0, .int 0), (128, .lload 14, 2, 0, 0, 0, .int 0), (130, .lstore 12, 2, 0, 0, 0, .int 0), (132, .lload 19, 2, 0, 0, 0, .int 0), (134, .lstore 14, 2, 0, 0, 0, .int 0), (136, .iload 16, 2, 0, 0, 0, .int 0), (138, .ifCond .ne 7, 3, 0, 0, 0, .int 0), (141, .iconst 1, 1, 0, 0, 0, .int 1), (142, .goto 4, 3, 0, 0, 0, .int 0)]
set_option maxRecDepth 100000 in
theorem pg_X9_isGreater_1_k : pg_X9_isGreater_1.all (ds_okb mt_X9_isGreater.1.cls mt_X9_isGreater.2.1) = true := by decide +kernel
def pg_X9_isGreater_2 : List ds_I := [(145, .iconst 0, 1, 0, 0, 0, .int 0), (146, .istore 16, 2, 0, 0, 0, .int 0), (148, .goto (-131), 3, 0, 0, 0, .int 0)]
set_option maxRecDepth 100000 in
theorem pg_X9_isGreater_2_k : pg_X9_isGreater_2.all (ds_okb mt_X9_isGreater.1.cls mt_X9_isGreater.2.1) = true := by decide +kernel
def pg_X9_isGreater : List ds_I := pg_X9_isGreater_0 ++ (pg_X9_isGreater_1 ++ (pg_X9_isGreater_2))
theorem pg_X9_isGreater_k : pg_X9_isGreater.all (ds_okb mt_X9_isGreater.1.cls mt_X9_isGreater.2.1) = true := (ds_all_and pg_X9_isGreater_0_k (ds_all_and pg_X9_isGreater_1_k pg_X9_isGreater_2_k))
theorem ok_X9_isGreater : ds_good mt_X9_isGreater pg_X9_isGreater := ds_good_of pg_X9_isGreater_k (by decide +kernel)
def mt_X9_isBox : ds_M := (⟨"WayWeightsModel", "isBox", "(I)Z"⟩, prog_11_method_6_code, 2, some .boolean, 1, 25)
def pg_X9_isBox : List ds_I := [(0, .iload_n 1, 1, 0, 0, 0, .int 0), (1, .i2l, 1, 0, 0, 0, .int 0), (2, .lconst 0, 1, 0, 0, 0, .long 0), (3, .aload_n 0, 1, 0, 0, 0, .int 0), (4, .getfield 7, 3, 9, 0, 729, .int 0), (7, .iconst 1, 1, 0, 0, 0, .int 1), (8, .isub, 1, 0, 0, 0, .int 0), (9, .i2l, 1, 0, 0, 0, .int 0), (10, .invokestatic 73, 3, 0, 0, 836, .int 0), (13, .ireturn, 1, 0, 0, 0, .int 0)]
set_option maxRecDepth 100000 in
theorem pg_X9_isBox_k : pg_X9_isBox.all (ds_okb mt_X9_isBox.1.cls mt_X9_isBox.2.1) = true := by decide +kernel
theorem ok_X9_isBox : ds_good mt_X9_isBox pg_X9_isBox := ds_good_of pg_X9_isBox_k (by decide +kernel)
def mt_X9_isLine : ds_M := (⟨"WayWeightsModel", "isLine", "(I)Z"⟩, prog_11_method_7_code, 2, some .boolean, 1, 25)
def pg_X9_isLine : List ds_I := [(0, .iload_n 1, 1, 0, 0, 0, .int 0), (1, .i2l, 1, 0, 0, 0, .int 0), (2, .lconst 0, 1, 0, 0, 0, .long 0), (3, .aload_n 0, 1, 0, 0, 0, .int 0), (4, .getfield 77, 3, 9, 7, 736, .int 0), (7, .iconst 1, 1, 0, 0, 0, .int 1), (8, .isub, 1, 0, 0, 0, .int 0), (9, .i2l, 1, 0, 0, 0, .int 0), (10, .invokestatic 73, 3, 0, 0, 836, .int 0), (13, .ireturn, 1, 0, 0, 0, .int 0)]
set_option maxRecDepth 100000 in
theorem pg_X9_isLine_k : pg_X9_isLine.all (ds_okb mt_X9_isLine.1.cls mt_X9_isLine.2.1) = true := by decide +kernel
theorem ok_X9_isLine : ds_good mt_X9_isLine pg_X9_isLine := ds_good_of pg_X9_isLine_k (by decide +kernel)
def mt_X9_isTable : ds_M := (⟨"WayWeightsModel", "isTable", "(I)Z"⟩, prog_11_method_8_code, 1, some .boolean, 1, 25)
def pg_X9_isTable : List ds_I := [(0, .iload_n 0, 1, 0, 0, 0, .int 0), (1, .i2l, 1, 0, 0, 0, .int 0), (2, .lconst 0, 1, 0, 0, 0, .long 0), (3, .ldc2_w 80, 3, 0, 0, 834, .long 2), (6, .invokestatic 73, 3, 0, 0, 836, .int 0), (9, .ireturn, 1, 0, 0, 0, .int 0)]
set_option maxRecDepth 100000 in
theorem pg_X9_isTable_k : pg_X9_isTable.all (ds_okb mt_X9_isTable.1.cls mt_X9_isTable.2.1) = true := by decide +kernel
theorem ok_X9_isTable : ds_good mt_X9_isTable pg_X9_isTable := ds_good_of pg_X9_isTable_k (by decide +kernel)
def mt_X9_boxes : ds_M := (⟨"WayWeightsModel", "boxes", "(I)I"⟩, prog_11_method_9_code, 4, some .int, 1, 25)
def pg_X9_boxes : List ds_I := [(0, .iload_n 1, 1, 0, 0, 0, .int 0), (1, .i2l, 1, 0, 0, 0, .int 0), (2, .ldc2_w 80, 3, 0, 0, 834, .long 2), (5, .ldc2_w 82, 3, 0, 0, 835, .long 6), (8, .invokestatic 73, 3, 0, 0, 836, .int 0), (11, .ifCond .ne 6, 3, 0, 0, 0, .int 0), (14, .bipush (-2), 2, 0, 0, 0, .int (-2)), (16, .ireturn, 1, 0, 0, 0, .int 0), (17, .aload_n 0, 1, 0, 0, 0, .int 0), (18, .getfield 7, 3, 9, 0, 729, .int 0), (21, .istore_n 2, 1, 0, 0, 0, .int 0), (22, .aload_n 0, 1, 0, 0, 0, .int 0), (23, .iload_n 1, 1, 0, 0, 0, .int 0), (24, .putfield 7, 3, 9, 0, 729, .int 0), (27, .aload_n 0, 1, 0, 0, 0, .int 0), (28, .iconst 0, 1, 0, 0, 0, .int 0), (29, .putfield 77, 3, 9, 7, 736, .int 0), (32, .iconst 0, 1, 0, 0, 0, .int 0), (33, .istore_n 3, 1, 0, 0, 0, .int 0), (34, .iload_n 3, 1, 0, 0, 0, .int 0), (35, .bipush 108, 2, 0, 0, 0, .int 108), (37, .if_icmp .ge 16, 3, 0, 0, 0, .int 0), (40, .aload_n 0, 1, 0, 0, 0, .int 0), (41, .getfield 33, 3, 9, 8, 737, .int 0), (44, .iload_n 3, 1, 0, 0, 0, .int 0), (45, .iconst 0, 1, 0, 0, 0, .int 0), (46, .iastore, 1, 0, 0, 0, .int 0), (47, .iinc 3 1, 3, 0, 0, 0, .int 1), (50, .goto (-16), 3, 0, 0, 0, .int 0), (53, .aload_n 0, 1, 0, 0, 0, .int 0), (54, .iconst 0, 1, 0, 0, 0, .int 0), (55, .putfield 84, 3, 9, 10, 739, .int 0), (58, .iload_n 2, 1, 0, 0, 0, .int 0), (59, .ireturn, 1, 0, 0, 0, .int 0)]
set_option maxRecDepth 100000 in
theorem pg_X9_boxes_k : pg_X9_boxes.all (ds_okb mt_X9_boxes.1.cls mt_X9_boxes.2.1) = true := by decide +kernel
theorem ok_X9_boxes : ds_good mt_X9_boxes pg_X9_boxes := ds_good_of pg_X9_boxes_k (by decide +kernel)
def mt_X9_line : ds_M := (⟨"WayWeightsModel", "line", "(IIII)I"⟩, prog_11_method_10_code, 5, some .int, 2, 46)
def pg_X9_line_0 : List ds_I := [(0, .aload_n 0, 1, 0, 0, 0, .int 0), (1, .iload_n 1, 1, 0, 0, 0, .int 0), (2, .invokevirtual 88, 3, 0, 0, 843, .int 0), (5, .ifCond .eq 16, 3, 0, 0, 0, .int 0), (8, .aload_n 0, 1, 0, 0, 0, .int 0), (9, .iload_n 2, 1, 0, 0, 0, .int 0), (10, .invokevirtual 88, 3, 0, 0, 843, .int 0), (13, .ifCond .eq 8, 3, 0, 0, 0, .int 0), (16, .iload_n 1, 1, 0, 0, 0, .int 0), (17, .iload_n 2, 1, 0, 0, 0, .int 0), (18, .if_icmp .ne 5, 3, 0, 0, 0, .int 0), (21, .iconst (-1), 1, 0, 0, 0, .int (-1)), (22, .ireturn, 1, 0, 0, 0, .int 0), (23, .iload_n 3, 1, 0, 0, 0, .int 0), (24, .i2l, 1, 0, 0, 0, .int 0), (25, .lconst 1, 1, 0, 0, 0, .long 1), (26, .ldc2_w 92, 3, 0, 0, 847, .long 100), (29, .invokestatic 73, 3, 0, 0, 836, .int 0), (32, .ifCond .eq 16, 3, 0, 0, 0, .int 0), (35, .iload 4, 2, 0, 0, 0, .int 0), (37, .i2l, 1, 0, 0, 0, .int 0), (38, .lconst 1, 1, 0, 0, 0, .long 1), (39, .ldc2_w 94, 3, 0, 0, 848, .long 20), (42, .invokestatic 73, 3, 0, 0, 836, .int 0), (45, .ifCond .ne 6, 3, 0, 0, 0, .int 0), (48, .bipush (-2), 2, 0, 0, 0, .int (-2)), (50, .ireturn, 1, 0, 0, 0, .int 0), (51, .aload_n 0, 1, 0, 0, 0, .int 0), (52, .getfield 77, 3, 9, 7, 736, .int 0), (55, .bipush 10, 2, 0, 0, 0, .int 10), (57, .if_icmp .ne 6, 3, 0, 0, 0, .int 0), (60, .bipush (-4), 2, 0, 0, 0, .int (-4)), (62, .ireturn, 1, 0, 0, 0, .int 0), (63, .aload_n 0, 1, 0, 0, 0, .int 0), (64, .getfield 13, 3, 9, 1, 730, .int 0), (67, .aload_n 0, 1, 0, 0, 0, .int 0), (68, .getfield 77, 3, 9, 7, 736, .int 0), (71, .iload_n 1, 1, 0, 0, 0, .int 0), (72, .iastore, 1, 0, 0, 0, .int 0), (73, .aload_n 0, 1, 0, 0, 0, .int 0)]
set_option maxRecDepth 100000 in
theorem pg_X9_line_0_k : pg_X9_line_0.all (ds_okb mt_X9_line.1.cls mt_X9_line.2.1) = true := by decide +kernel
def pg_X9_line_1 : List ds_I := [(74, .getfield 17, 3, 9, 2, 731, .int 0), (77, .aload_n 0, 1, 0, 0, 0, .int 0), (78, .getfield 77, 3, 9, 7, 736, .int 0), (81, .iload_n 2, 1, 0, 0, 0, .int 0), (82, .iastore, 1, 0, 0, 0, .int 0), (83, .aload_n 0, 1, 0, 0, 0, .int 0), (84, .getfield 20, 3, 9, 3, 732, .int 0), (87, .aload_n 0, 1, 0, 0, 0, .int 0), (88, .getfield 77, 3, 9, 7, 736, .int 0), (91, .iload_n 3, 1, 0, 0, 0, .int 0), (92, .iastore, 1, 0, 0, 0, .int 0), (93, .aload_n 0, 1, 0, 0, 0, .int 0), (94, .getfield 23, 3, 9, 4, 733, .int 0), (97, .aload_n 0, 1, 0, 0, 0, .int 0), (98, .getfield 77, 3, 9, 7, 736, .int 0), (101, .iload 4, 2, 0, 0, 0, .int 0), (103, .iastore, 1, 0, 0, 0, .int 0), (104, .aload_n 0, 1, 0, 0, 0, .int 0), (105, .getfield 26, 3, 9, 5, 734, .int 0), (108, .aload_n 0, 1, 0, 0, 0, .int 0), (109, .getfield 77, 3, 9, 7, 736, .int 0), (112, .iconst 0, 1, 0, 0, 0, .int 0), (113, .bastore, 1, 0, 0, 0, .int 0), (114, .aload_n 0, 1, 0, 0, 0, .int 0), (115, .getfield 30, 3, 9, 6, 735, .int 0), (118, .aload_n 0, 1, 0, 0, 0, .int 0), (119, .getfield 77, 3, 9, 7, 736, .int 0), (122, .iconst 0, 1, 0, 0, 0, .int 0), (123, .bastore, 1, 0, 0, 0, .int 0), (124, .aload_n 0, 1, 0, 0, 0, .int 0), (125, .dup, 1, 0, 0, 0, .int 0), (126, .getfield 77, 3, 9, 7, 736, .int 0), (129, .iconst 1, 1, 0, 0, 0, .int 1), (130, .iadd, 1, 0, 0, 0, .int 0), (131, .putfield 77, 3, 9, 7, 736, .int 0), (134, .aload_n 0, 1, 0, 0, 0, .int 0), (135, .iconst 0, 1, 0, 0, 0, .int 0), (136, .putfield 84, 3, 9, 10, 739, .int 0), (139, .aload_n 0, 1, 0, 0, 0, .int 0), (140, .getfield 77, 3, 9, 7, 736, .int 0)]
set_option maxRecDepth 100000 in
theorem pg_X9_line_1_k : pg_X9_line_1.all (ds_okb mt_X9_line.1.cls mt_X9_line.2.1) = true := by decide +kernel
def pg_X9_line_2 : List ds_I := [(143, .iconst 1, 1, 0, 0, 0, .int 1), (144, .isub, 1, 0, 0, 0, .int 0), (145, .ireturn, 1, 0, 0, 0, .int 0)]
set_option maxRecDepth 100000 in
theorem pg_X9_line_2_k : pg_X9_line_2.all (ds_okb mt_X9_line.1.cls mt_X9_line.2.1) = true := by decide +kernel
def pg_X9_line : List ds_I := pg_X9_line_0 ++ (pg_X9_line_1 ++ (pg_X9_line_2))
theorem pg_X9_line_k : pg_X9_line.all (ds_okb mt_X9_line.1.cls mt_X9_line.2.1) = true := (ds_all_and pg_X9_line_0_k (ds_all_and pg_X9_line_1_k pg_X9_line_2_k))
theorem ok_X9_line : ds_good mt_X9_line pg_X9_line := ds_good_of pg_X9_line_k (by decide +kernel)
def mt_X9_about : ds_M := (⟨"WayWeightsModel", "about", "(II)I"⟩, prog_11_method_11_code, 3, some .int, 2, 46)
def pg_X9_about_0 : List ds_I := [(0, .aload_n 0, 1, 0, 0, 0, .int 0), (1, .iload_n 1, 1, 0, 0, 0, .int 0), (2, .invokevirtual 96, 3, 0, 0, 853, .int 0), (5, .ifCond .ne 5, 3, 0, 0, 0, .int 0), (8, .iconst (-1), 1, 0, 0, 0, .int (-1)), (9, .ireturn, 1, 0, 0, 0, .int 0), (10, .iload_n 2, 1, 0, 0, 0, .int 0), (11, .tableswitch 95 0 5 #[37, 44, 51, 58, 65, 80], 37, 0, 0, 0, .int 0), (48, .aload_n 0, 1, 0, 0, 0, .int 0), (49, .getfield 13, 3, 9, 1, 730, .int 0), (52, .iload_n 1, 1, 0, 0, 0, .int 0), (53, .iaload, 1, 0, 0, 0, .int 0), (54, .ireturn, 1, 0, 0, 0, .int 0), (55, .aload_n 0, 1, 0, 0, 0, .int 0), (56, .getfield 17, 3, 9, 2, 731, .int 0), (59, .iload_n 1, 1, 0, 0, 0, .int 0), (60, .iaload, 1, 0, 0, 0, .int 0), (61, .ireturn, 1, 0, 0, 0, .int 0), (62, .aload_n 0, 1, 0, 0, 0, .int 0), (63, .getfield 20, 3, 9, 3, 732, .int 0), (66, .iload_n 1, 1, 0, 0, 0, .int 0), (67, .iaload, 1, 0, 0, 0, .int 0), (68, .ireturn, 1, 0, 0, 0, .int 0), (69, .aload_n 0, 1, 0, 0, 0, .int 0), (70, .getfield 23, 3, 9, 4, 733, .int 0), (73, .iload_n 1, 1, 0, 0, 0, .int 0), (74, .iaload, 1, 0, 0, 0, .int 0), (75, .ireturn, 1, 0, 0, 0, .int 0), (76, .aload_n 0, 1, 0, 0, 0, .int 0), (77, .getfield 26, 3, 9, 5, 734, .int 0), (80, .iload_n 1, 1, 0, 0, 0, .int 0), (81, .baload, 1, 0, 0, 0, .int 0), (82, .ifCond .eq 7, 3, 0, 0, 0, .int 0), (85, .iconst 1, 1, 0, 0, 0, .int 1), (86, .goto 4, 3, 0, 0, 0, .int 0), (89, .iconst 0, 1, 0, 0, 0, .int 0), (90, .ireturn, 1, 0, 0, 0, .int 0), (91, .aload_n 0, 1, 0, 0, 0, .int 0), (92, .getfield 30, 3, 9, 6, 735, .int 0), (95, .iload_n 1, 1, 0, 0, 0, .int 0)]
set_option maxRecDepth 100000 in
theorem pg_X9_about_0_k : pg_X9_about_0.all (ds_okb mt_X9_about.1.cls mt_X9_about.2.1) = true := by decide +kernel
def pg_X9_about_1 : List ds_I := [(96, .baload, 1, 0, 0, 0, .int 0), (97, .ifCond .eq 7, 3, 0, 0, 0, .int 0), (100, .iconst 1, 1, 0, 0, 0, .int 1), (101, .goto 4, 3, 0, 0, 0, .int 0), (104, .iconst 0, 1, 0, 0, 0, .int 0), (105, .ireturn, 1, 0, 0, 0, .int 0), (106, .bipush (-2), 2, 0, 0, 0, .int (-2)), (108, .ireturn, 1, 0, 0, 0, .int 0)]
set_option maxRecDepth 100000 in
theorem pg_X9_about_1_k : pg_X9_about_1.all (ds_okb mt_X9_about.1.cls mt_X9_about.2.1) = true := by decide +kernel
def pg_X9_about : List ds_I := pg_X9_about_0 ++ (pg_X9_about_1)
theorem pg_X9_about_k : pg_X9_about.all (ds_okb mt_X9_about.1.cls mt_X9_about.2.1) = true := (ds_all_and pg_X9_about_0_k pg_X9_about_1_k)
theorem ok_X9_about : ds_good mt_X9_about pg_X9_about := ds_good_of pg_X9_about_k (by decide +kernel)
def mt_X9_weigh : ds_M := (⟨"WayWeightsModel", "weigh", "(II)I"⟩, prog_11_method_12_code, 4, some .int, 2, 46)
def pg_X9_weigh : List ds_I := [(0, .aload_n 0, 1, 0, 0, 0, .int 0), (1, .iload_n 1, 1, 0, 0, 0, .int 0), (2, .invokevirtual 96, 3, 0, 0, 853, .int 0), (5, .ifCond .ne 5, 3, 0, 0, 0, .int 0), (8, .iconst (-1), 1, 0, 0, 0, .int (-1)), (9, .ireturn, 1, 0, 0, 0, .int 0), (10, .iload_n 2, 1, 0, 0, 0, .int 0), (11, .i2l, 1, 0, 0, 0, .int 0), (12, .lconst 1, 1, 0, 0, 0, .long 1), (13, .ldc2_w 94, 3, 0, 0, 848, .long 20), (16, .invokestatic 73, 3, 0, 0, 836, .int 0), (19, .ifCond .ne 6, 3, 0, 0, 0, .int 0), (22, .bipush (-2), 2, 0, 0, 0, .int (-2)), (24, .ireturn, 1, 0, 0, 0, .int 0), (25, .aload_n 0, 1, 0, 0, 0, .int 0), (26, .getfield 26, 3, 9, 5, 734, .int 0), (29, .iload_n 1, 1, 0, 0, 0, .int 0), (30, .baload, 1, 0, 0, 0, .int 0), (31, .ifCond .eq 6, 3, 0, 0, 0, .int 0), (34, .bipush (-5), 2, 0, 0, 0, .int (-5)), (36, .ireturn, 1, 0, 0, 0, .int 0), (37, .aload_n 0, 1, 0, 0, 0, .int 0), (38, .getfield 23, 3, 9, 4, 733, .int 0), (41, .iload_n 1, 1, 0, 0, 0, .int 0), (42, .iaload, 1, 0, 0, 0, .int 0), (43, .istore_n 3, 1, 0, 0, 0, .int 0), (44, .aload_n 0, 1, 0, 0, 0, .int 0), (45, .getfield 23, 3, 9, 4, 733, .int 0), (48, .iload_n 1, 1, 0, 0, 0, .int 0), (49, .iload_n 2, 1, 0, 0, 0, .int 0), (50, .iastore, 1, 0, 0, 0, .int 0), (51, .aload_n 0, 1, 0, 0, 0, .int 0), (52, .iconst 0, 1, 0, 0, 0, .int 0), (53, .putfield 84, 3, 9, 10, 739, .int 0), (56, .iload_n 3, 1, 0, 0, 0, .int 0), (57, .ireturn, 1, 0, 0, 0, .int 0)]
set_option maxRecDepth 100000 in
theorem pg_X9_weigh_k : pg_X9_weigh.all (ds_okb mt_X9_weigh.1.cls mt_X9_weigh.2.1) = true := by decide +kernel
theorem ok_X9_weigh : ds_good mt_X9_weigh pg_X9_weigh := ds_good_of pg_X9_weigh_k (by decide +kernel)
def mt_X9_mark : ds_M := (⟨"WayWeightsModel", "mark", "(IIZ)I"⟩, prog_11_method_13_code, 5, some .int, 2, 46)
def pg_X9_mark_0 : List ds_I := [(0, .aload_n 0, 1, 0, 0, 0, .int 0), (1, .iload_n 1, 1, 0, 0, 0, .int 0), (2, .invokevirtual 96, 3, 0, 0, 853, .int 0), (5, .ifCond .ne 5, 3, 0, 0, 0, .int 0), (8, .iconst (-1), 1, 0, 0, 0, .int (-1)), (9, .ireturn, 1, 0, 0, 0, .int 0), (10, .iload_n 2, 1, 0, 0, 0, .int 0), (11, .i2l, 1, 0, 0, 0, .int 0), (12, .lconst 0, 1, 0, 0, 0, .long 0), (13, .lconst 1, 1, 0, 0, 0, .long 1), (14, .invokestatic 73, 3, 0, 0, 836, .int 0), (17, .ifCond .ne 6, 3, 0, 0, 0, .int 0), (20, .bipush (-2), 2, 0, 0, 0, .int (-2)), (22, .ireturn, 1, 0, 0, 0, .int 0), (23, .iload_n 2, 1, 0, 0, 0, .int 0), (24, .ifCond .ne 15, 3, 0, 0, 0, .int 0), (27, .aload_n 0, 1, 0, 0, 0, .int 0), (28, .getfield 26, 3, 9, 5, 734, .int 0), (31, .iload_n 1, 1, 0, 0, 0, .int 0), (32, .baload, 1, 0, 0, 0, .int 0), (33, .ifCond .eq 19, 3, 0, 0, 0, .int 0), (36, .goto 12, 3, 0, 0, 0, .int 0), (39, .aload_n 0, 1, 0, 0, 0, .int 0), (40, .getfield 30, 3, 9, 6, 735, .int 0), (43, .iload_n 1, 1, 0, 0, 0, .int 0), (44, .baload, 1, 0, 0, 0, .int 0), (45, .ifCond .eq 7, 3, 0, 0, 0, .int 0), (48, .iconst 1, 1, 0, 0, 0, .int 1), (49, .goto 4, 3, 0, 0, 0, .int 0), (52, .iconst 0, 1, 0, 0, 0, .int 0), (53, .istore 4, 2, 0, 0, 0, .int 0), (55, .iload_n 2, 1, 0, 0, 0, .int 0), (56, .ifCond .ne 13, 3, 0, 0, 0, .int 0), (59, .aload_n 0, 1, 0, 0, 0, .int 0), (60, .getfield 26, 3, 9, 5, 734, .int 0), (63, .iload_n 1, 1, 0, 0, 0, .int 0), (64, .iload_n 3, 1, 0, 0, 0, .int 0), (65, .bastore, 1, 0, 0, 0, .int 0), (66, .goto 10, 3, 0, 0, 0, .int 0), (69, .aload_n 0, 1, 0, 0, 0, .int 0)]
set_option maxRecDepth 100000 in
theorem pg_X9_mark_0_k : pg_X9_mark_0.all (ds_okb mt_X9_mark.1.cls mt_X9_mark.2.1) = true := by decide +kernel
def pg_X9_mark_1 : List ds_I := [(70, .getfield 30, 3, 9, 6, 735, .int 0), (73, .iload_n 1, 1, 0, 0, 0, .int 0), (74, .iload_n 3, 1, 0, 0, 0, .int 0), (75, .bastore, 1, 0, 0, 0, .int 0), (76, .aload_n 0, 1, 0, 0, 0, .int 0), (77, .iconst 0, 1, 0, 0, 0, .int 0), (78, .putfield 84, 3, 9, 10, 739, .int 0), (81, .iload 4, 2, 0, 0, 0, .int 0), (83, .ireturn, 1, 0, 0, 0, .int 0)]
set_option maxRecDepth 100000 in
theorem pg_X9_mark_1_k : pg_X9_mark_1.all (ds_okb mt_X9_mark.1.cls mt_X9_mark.2.1) = true := by decide +kernel
def pg_X9_mark : List ds_I := pg_X9_mark_0 ++ (pg_X9_mark_1)
theorem pg_X9_mark_k : pg_X9_mark.all (ds_okb mt_X9_mark.1.cls mt_X9_mark.2.1) = true := (ds_all_and pg_X9_mark_0_k pg_X9_mark_1_k)
theorem ok_X9_mark : ds_good mt_X9_mark pg_X9_mark := ds_good_of pg_X9_mark_k (by decide +kernel)
def mt_X9_loadOf : ds_M := (⟨"WayWeightsModel", "loadOf", "(III)I"⟩, prog_11_method_14_code, 4, some .int, 0, 0)
def pg_X9_loadOf : List ds_I := [(0, .aload_n 0, 1, 0, 0, 0, .int 0), (1, .getfield 33, 3, 9, 8, 737, .int 0), (4, .bipush 36, 2, 0, 0, 0, .int 36), (6, .iload_n 1, 1, 0, 0, 0, .int 0), (7, .imul, 1, 0, 0, 0, .int 0), (8, .bipush 6, 2, 0, 0, 0, .int 6), (10, .iload_n 2, 1, 0, 0, 0, .int 0), (11, .imul, 1, 0, 0, 0, .int 0), (12, .iadd, 1, 0, 0, 0, .int 0), (13, .iload_n 3, 1, 0, 0, 0, .int 0), (14, .iadd, 1, 0, 0, 0, .int 0), (15, .iaload, 1, 0, 0, 0, .int 0), (16, .ireturn, 1, 0, 0, 0, .int 0)]
set_option maxRecDepth 100000 in
theorem pg_X9_loadOf_k : pg_X9_loadOf.all (ds_okb mt_X9_loadOf.1.cls mt_X9_loadOf.2.1) = true := by decide +kernel
theorem ok_X9_loadOf : ds_good mt_X9_loadOf pg_X9_loadOf := ds_good_of pg_X9_loadOf_k (by decide +kernel)
def mt_X9_load : ds_M := (⟨"WayWeightsModel", "load", "(IIII)I"⟩, prog_11_method_15_code, 6, some .int, 2, 46)
def pg_X9_load_0 : List ds_I := [(0, .iload_n 1, 1, 0, 0, 0, .int 0), (1, .invokestatic 99, 3, 0, 0, 869, .int 0), (4, .ifCond .eq 24, 3, 0, 0, 0, .int 0), (7, .aload_n 0, 1, 0, 0, 0, .int 0), (8, .iload_n 2, 1, 0, 0, 0, .int 0), (9, .invokevirtual 88, 3, 0, 0, 843, .int 0), (12, .ifCond .eq 16, 3, 0, 0, 0, .int 0), (15, .aload_n 0, 1, 0, 0, 0, .int 0), (16, .iload_n 3, 1, 0, 0, 0, .int 0), (17, .invokevirtual 88, 3, 0, 0, 843, .int 0), (20, .ifCond .eq 8, 3, 0, 0, 0, .int 0), (23, .iload_n 2, 1, 0, 0, 0, .int 0), (24, .iload_n 3, 1, 0, 0, 0, .int 0), (25, .if_icmp .ne 5, 3, 0, 0, 0, .int 0), (28, .iconst (-1), 1, 0, 0, 0, .int (-1)), (29, .ireturn, 1, 0, 0, 0, .int 0), (30, .iload 4, 2, 0, 0, 0, .int 0), (32, .i2l, 1, 0, 0, 0, .int 0), (33, .lconst 0, 1, 0, 0, 0, .long 0), (34, .ldc2_w 102, 3, 0, 0, 872, .long 50), (37, .invokestatic 73, 3, 0, 0, 836, .int 0), (40, .ifCond .ne 6, 3, 0, 0, 0, .int 0), (43, .bipush (-2), 2, 0, 0, 0, .int (-2)), (45, .ireturn, 1, 0, 0, 0, .int 0), (46, .aload_n 0, 1, 0, 0, 0, .int 0), (47, .iload_n 1, 1, 0, 0, 0, .int 0), (48, .iload_n 2, 1, 0, 0, 0, .int 0), (49, .iload_n 3, 1, 0, 0, 0, .int 0), (50, .invokevirtual 104, 3, 0, 0, 873, .int 0), (53, .istore 5, 2, 0, 0, 0, .int 0), (55, .aload_n 0, 1, 0, 0, 0, .int 0), (56, .getfield 33, 3, 9, 8, 737, .int 0), (59, .bipush 36, 2, 0, 0, 0, .int 36), (61, .iload_n 1, 1, 0, 0, 0, .int 0), (62, .imul, 1, 0, 0, 0, .int 0), (63, .bipush 6, 2, 0, 0, 0, .int 6), (65, .iload_n 2, 1, 0, 0, 0, .int 0), (66, .imul, 1, 0, 0, 0, .int 0), (67, .iadd, 1, 0, 0, 0, .int 0), (68, .iload_n 3, 1, 0, 0, 0, .int 0)]
set_option maxRecDepth 100000 in
theorem pg_X9_load_0_k : pg_X9_load_0.all (ds_okb mt_X9_load.1.cls mt_X9_load.2.1) = true := by decide +kernel
def pg_X9_load_1 : List ds_I := [(69, .iadd, 1, 0, 0, 0, .int 0), (70, .iload 4, 2, 0, 0, 0, .int 0), (72, .iastore, 1, 0, 0, 0, .int 0), (73, .aload_n 0, 1, 0, 0, 0, .int 0), (74, .iconst 0, 1, 0, 0, 0, .int 0), (75, .putfield 84, 3, 9, 10, 739, .int 0), (78, .iload 5, 2, 0, 0, 0, .int 0), (80, .ireturn, 1, 0, 0, 0, .int 0)]
set_option maxRecDepth 100000 in
theorem pg_X9_load_1_k : pg_X9_load_1.all (ds_okb mt_X9_load.1.cls mt_X9_load.2.1) = true := by decide +kernel
def pg_X9_load : List ds_I := pg_X9_load_0 ++ (pg_X9_load_1)
theorem pg_X9_load_k : pg_X9_load.all (ds_okb mt_X9_load.1.cls mt_X9_load.2.1) = true := (ds_all_and pg_X9_load_0_k pg_X9_load_1_k)
theorem ok_X9_load : ds_good mt_X9_load pg_X9_load := ds_good_of pg_X9_load_k (by decide +kernel)
def mt_X9_isThere : ds_M := (⟨"WayWeightsModel", "isThere", "(I)Z"⟩, prog_11_method_16_code, 2, some .boolean, 0, 0)
def pg_X9_isThere : List ds_I := [(0, .aload_n 0, 1, 0, 0, 0, .int 0), (1, .getfield 30, 3, 9, 6, 735, .int 0), (4, .iload_n 1, 1, 0, 0, 0, .int 0), (5, .baload, 1, 0, 0, 0, .int 0), (6, .ifCond .ne 15, 3, 0, 0, 0, .int 0), (9, .iload_n 1, 1, 0, 0, 0, .int 0), (10, .aload_n 0, 1, 0, 0, 0, .int 0), (11, .getfield 42, 3, 9, 13, 742, .int 0), (14, .if_icmp .eq 7, 3, 0, 0, 0, .int 0), (17, .iconst 1, 1, 0, 0, 0, .int 1), (18, .goto 4, 3, 0, 0, 0, .int 0), (21, .iconst 0, 1, 0, 0, 0, .int 0), (22, .ireturn, 1, 0, 0, 0, .int 0)]
set_option maxRecDepth 100000 in
theorem pg_X9_isThere_k : pg_X9_isThere.all (ds_okb mt_X9_isThere.1.cls mt_X9_isThere.2.1) = true := by decide +kernel
theorem ok_X9_isThere : ds_good mt_X9_isThere pg_X9_isThere := ds_good_of pg_X9_isThere_k (by decide +kernel)
def mt_X9_findFar : ds_M := (⟨"WayWeightsModel", "findFar", "(I)V"⟩, prog_11_method_17_code, 6, none, 1, 21)
def pg_X9_findFar_0 : List ds_I := [(0, .iconst 0, 1, 0, 0, 0, .int 0), (1, .istore_n 2, 1, 0, 0, 0, .int 0), (2, .iload_n 2, 1, 0, 0, 0, .int 0), (3, .bipush 6, 2, 0, 0, 0, .int 6), (5, .if_icmp .ge 26, 3, 0, 0, 0, .int 0), (8, .aload_n 0, 1, 0, 0, 0, .int 0), (9, .getfield 39, 3, 9, 12, 741, .int 0), (12, .iload_n 2, 1, 0, 0, 0, .int 0), (13, .iload_n 2, 1, 0, 0, 0, .int 0), (14, .iload_n 1, 1, 0, 0, 0, .int 0), (15, .if_icmp .ne 7, 3, 0, 0, 0, .int 0), (18, .iconst 0, 1, 0, 0, 0, .int 0), (19, .goto 5, 3, 0, 0, 0, .int 0), (22, .ldc 108, 2, 0, 0, 885, .int 1000000), (24, .iastore, 1, 0, 0, 0, .int 0), (25, .iinc 2 1, 3, 0, 0, 0, .int 1), (28, .goto (-26), 3, 0, 0, 0, .int 0), (31, .iconst 0, 1, 0, 0, 0, .int 0), (32, .istore_n 2, 1, 0, 0, 0, .int 0), (33, .iload_n 2, 1, 0, 0, 0, .int 0), (34, .aload_n 0, 1, 0, 0, 0, .int 0), (35, .getfield 7, 3, 9, 0, 729, .int 0), (38, .if_icmp .ge 159, 3, 0, 0, 0, .int 0), (41, .iconst 0, 1, 0, 0, 0, .int 0), (42, .istore_n 3, 1, 0, 0, 0, .int 0), (43, .iload_n 3, 1, 0, 0, 0, .int 0), (44, .aload_n 0, 1, 0, 0, 0, .int 0), (45, .getfield 77, 3, 9, 7, 736, .int 0), (48, .if_icmp .ge 143, 3, 0, 0, 0, .int 0), (51, .aload_n 0, 1, 0, 0, 0, .int 0), (52, .getfield 13, 3, 9, 1, 730, .int 0), (55, .iload_n 3, 1, 0, 0, 0, .int 0), (56, .iaload, 1, 0, 0, 0, .int 0), (57, .istore 4, 2, 0, 0, 0, .int 0), (59, .aload_n 0, 1, 0, 0, 0, .int 0), (60, .getfield 17, 3, 9, 2, 731, .int 0), (63, .iload_n 3, 1, 0, 0, 0, .int 0), (64, .iaload, 1, 0, 0, 0, .int 0), (65, .istore 5, 2, 0, 0, 0, .int 0), (67, .aload_n 0, 1, 0, 0, 0, .int 0)]
set_option maxRecDepth 100000 in
theorem pg_X9_findFar_0_k : pg_X9_findFar_0.all (ds_okb mt_X9_findFar.1.cls mt_X9_findFar.2.1) = true := by decide +kernel
def pg_X9_findFar_1 : List ds_I := [(68, .iload_n 3, 1, 0, 0, 0, .int 0), (69, .invokevirtual 109, 3, 0, 0, 886, .int 0), (72, .ifCond .eq 113, 3, 0, 0, 0, .int 0), (75, .aload_n 0, 1, 0, 0, 0, .int 0), (76, .getfield 39, 3, 9, 12, 741, .int 0), (79, .iload 4, 2, 0, 0, 0, .int 0), (81, .aload_n 0, 1, 0, 0, 0, .int 0), (82, .getfield 39, 3, 9, 12, 741, .int 0), (85, .iload 5, 2, 0, 0, 0, .int 0), (87, .iaload, 1, 0, 0, 0, .int 0), (88, .aload_n 0, 1, 0, 0, 0, .int 0), (89, .getfield 23, 3, 9, 4, 733, .int 0), (92, .iload_n 3, 1, 0, 0, 0, .int 0), (93, .iaload, 1, 0, 0, 0, .int 0), (94, .iadd, 1, 0, 0, 0, .int 0), (95, .aload_n 0, 1, 0, 0, 0, .int 0), (96, .getfield 39, 3, 9, 12, 741, .int 0), (99, .iload 4, 2, 0, 0, 0, .int 0), (101, .iaload, 1, 0, 0, 0, .int 0), (102, .if_icmp .ge 20, 3, 0, 0, 0, .int 0), (105, .aload_n 0, 1, 0, 0, 0, .int 0), (106, .getfield 39, 3, 9, 12, 741, .int 0), (109, .iload 5, 2, 0, 0, 0, .int 0), (111, .iaload, 1, 0, 0, 0, .int 0), (112, .aload_n 0, 1, 0, 0, 0, .int 0), (113, .getfield 23, 3, 9, 4, 733, .int 0), (116, .iload_n 3, 1, 0, 0, 0, .int 0), (117, .iaload, 1, 0, 0, 0, .int 0), (118, .iadd, 1, 0, 0, 0, .int 0), (119, .goto 10, 3, 0, 0, 0, .int 0), (122, .aload_n 0, 1, 0, 0, 0, .int 0), (123, .getfield 39, 3, 9, 12, 741, .int 0), (126, .iload 4, 2, 0, 0, 0, .int 0), (128, .iaload, 1, 0, 0, 0, .int 0), (129, .iastore, 1, 0, 0, 0, .int 0), (130, .aload_n 0, 1, 0, 0, 0, .int 0), (131, .getfield 39, 3, 9, 12, 741, .int 0), (134, .iload 5, 2, 0, 0, 0, .int 0), (136, .aload_n 0, 1, 0, 0, 0, .int 0), (137, .getfield 39, 3, 9, 12, 741, .int 0)]
set_option maxRecDepth 100000 in
theorem pg_X9_findFar_1_k : pg_X9_findFar_1.all (ds_okb mt_X9_findFar.1.cls mt_X9_findFar.2.1) = true := by decide +kernel
def pg_X9_findFar_2 : List ds_I := [(140, .iload 4, 2, 0, 0, 0, .int 0), (142, .iaload, 1, 0, 0, 0, .int 0), (143, .aload_n 0, 1, 0, 0, 0, .int 0), (144, .getfield 23, 3, 9, 4, 733, .int 0), (147, .iload_n 3, 1, 0, 0, 0, .int 0), (148, .iaload, 1, 0, 0, 0, .int 0), (149, .iadd, 1, 0, 0, 0, .int 0), (150, .aload_n 0, 1, 0, 0, 0, .int 0), (151, .getfield 39, 3, 9, 12, 741, .int 0), (154, .iload 5, 2, 0, 0, 0, .int 0), (156, .iaload, 1, 0, 0, 0, .int 0), (157, .if_icmp .ge 20, 3, 0, 0, 0, .int 0), (160, .aload_n 0, 1, 0, 0, 0, .int 0), (161, .getfield 39, 3, 9, 12, 741, .int 0), (164, .iload 4, 2, 0, 0, 0, .int 0), (166, .iaload, 1, 0, 0, 0, .int 0), (167, .aload_n 0, 1, 0, 0, 0, .int 0), (168, .getfield 23, 3, 9, 4, 733, .int 0), (171, .iload_n 3, 1, 0, 0, 0, .int 0), (172, .iaload, 1, 0, 0, 0, .int 0), (173, .iadd, 1, 0, 0, 0, .int 0), (174, .goto 10, 3, 0, 0, 0, .int 0), (177, .aload_n 0, 1, 0, 0, 0, .int 0), (178, .getfield 39, 3, 9, 12, 741, .int 0), (181, .iload 5, 2, 0, 0, 0, .int 0), (183, .iaload, 1, 0, 0, 0, .int 0), (184, .iastore, 1, 0, 0, 0, .int 0), (185, .iinc 3 1, 3, 0, 0, 0, .int 1), (188, .goto (-145), 3, 0, 0, 0, .int 0), (191, .iinc 2 1, 3, 0, 0, 0, .int 1), (194, .goto (-161), 3, 0, 0, 0, .int 0), (197, .return_, 1, 0, 0, 0, .int 0)]
set_option maxRecDepth 100000 in
theorem pg_X9_findFar_2_k : pg_X9_findFar_2.all (ds_okb mt_X9_findFar.1.cls mt_X9_findFar.2.1) = true := by decide +kernel
def pg_X9_findFar : List ds_I := pg_X9_findFar_0 ++ (pg_X9_findFar_1 ++ (pg_X9_findFar_2))
theorem pg_X9_findFar_k : pg_X9_findFar.all (ds_okb mt_X9_findFar.1.cls mt_X9_findFar.2.1) = true := (ds_all_and pg_X9_findFar_0_k (ds_all_and pg_X9_findFar_1_k pg_X9_findFar_2_k))
theorem ok_X9_findFar : ds_good mt_X9_findFar pg_X9_findFar := ds_good_of pg_X9_findFar_k (by decide +kernel)
def mt_X9_least : ds_M := (⟨"WayWeightsModel", "least", "(II)I"⟩, prog_11_method_18_code, 3, some .int, 2, 46)
def pg_X9_least : List ds_I := [(0, .aload_n 0, 1, 0, 0, 0, .int 0), (1, .iload_n 1, 1, 0, 0, 0, .int 0), (2, .invokevirtual 88, 3, 0, 0, 843, .int 0), (5, .ifCond .eq 11, 3, 0, 0, 0, .int 0), (8, .aload_n 0, 1, 0, 0, 0, .int 0), (9, .iload_n 2, 1, 0, 0, 0, .int 0), (10, .invokevirtual 88, 3, 0, 0, 843, .int 0), (13, .ifCond .ne 5, 3, 0, 0, 0, .int 0), (16, .iconst (-1), 1, 0, 0, 0, .int (-1)), (17, .ireturn, 1, 0, 0, 0, .int 0), (18, .aload_n 0, 1, 0, 0, 0, .int 0), (19, .iload_n 2, 1, 0, 0, 0, .int 0), (20, .invokevirtual 112, 3, 0, 0, 881, .int 0), (23, .aload_n 0, 1, 0, 0, 0, .int 0), (24, .getfield 39, 3, 9, 12, 741, .int 0), (27, .iload_n 1, 1, 0, 0, 0, .int 0), (28, .iaload, 1, 0, 0, 0, .int 0), (29, .ldc 108, 2, 0, 0, 885, .int 1000000), (31, .if_icmp .ge 12, 3, 0, 0, 0, .int 0), (34, .aload_n 0, 1, 0, 0, 0, .int 0), (35, .getfield 39, 3, 9, 12, 741, .int 0), (38, .iload_n 1, 1, 0, 0, 0, .int 0), (39, .iaload, 1, 0, 0, 0, .int 0), (40, .goto 5, 3, 0, 0, 0, .int 0), (43, .bipush (-6), 2, 0, 0, 0, .int (-6)), (45, .ireturn, 1, 0, 0, 0, .int 0)]
set_option maxRecDepth 100000 in
theorem pg_X9_least_k : pg_X9_least.all (ds_okb mt_X9_least.1.cls mt_X9_least.2.1) = true := by decide +kernel
theorem ok_X9_least : ds_good mt_X9_least pg_X9_least := ds_good_of pg_X9_least_k (by decide +kernel)
def mt_X9_isNext : ds_M := (⟨"WayWeightsModel", "isNext", "(II)Z"⟩, prog_11_method_19_code, 5, some .boolean, 1, 21)
def pg_X9_isNext_0 : List ds_I := [(0, .iload_n 2, 1, 0, 0, 0, .int 0), (1, .ifCond .ne 12, 3, 0, 0, 0, .int 0), (4, .aload_n 0, 1, 0, 0, 0, .int 0), (5, .getfield 13, 3, 9, 1, 730, .int 0), (8, .iload_n 1, 1, 0, 0, 0, .int 0), (9, .iaload, 1, 0, 0, 0, .int 0), (10, .goto 9, 3, 0, 0, 0, .int 0), (13, .aload_n 0, 1, 0, 0, 0, .int 0), (14, .getfield 17, 3, 9, 2, 731, .int 0), (17, .iload_n 1, 1, 0, 0, 0, .int 0), (18, .iaload, 1, 0, 0, 0, .int 0), (19, .istore_n 3, 1, 0, 0, 0, .int 0), (20, .iload_n 2, 1, 0, 0, 0, .int 0), (21, .ifCond .ne 12, 3, 0, 0, 0, .int 0), (24, .aload_n 0, 1, 0, 0, 0, .int 0), (25, .getfield 17, 3, 9, 2, 731, .int 0), (28, .iload_n 1, 1, 0, 0, 0, .int 0), (29, .iaload, 1, 0, 0, 0, .int 0), (30, .goto 9, 3, 0, 0, 0, .int 0), (33, .aload_n 0, 1, 0, 0, 0, .int 0), (34, .getfield 13, 3, 9, 1, 730, .int 0), (37, .iload_n 1, 1, 0, 0, 0, .int 0), (38, .iaload, 1, 0, 0, 0, .int 0), (39, .istore 4, 2, 0, 0, 0, .int 0), (41, .aload_n 0, 1, 0, 0, 0, .int 0), (42, .iload_n 1, 1, 0, 0, 0, .int 0), (43, .invokevirtual 109, 3, 0, 0, 886, .int 0), (46, .ifCond .eq 53, 3, 0, 0, 0, .int 0), (49, .aload_n 0, 1, 0, 0, 0, .int 0), (50, .getfield 39, 3, 9, 12, 741, .int 0), (53, .iload_n 3, 1, 0, 0, 0, .int 0), (54, .iaload, 1, 0, 0, 0, .int 0), (55, .ldc 108, 2, 0, 0, 885, .int 1000000), (57, .if_icmp .ge 42, 3, 0, 0, 0, .int 0), (60, .aload_n 0, 1, 0, 0, 0, .int 0), (61, .getfield 39, 3, 9, 12, 741, .int 0), (64, .iload 4, 2, 0, 0, 0, .int 0), (66, .iaload, 1, 0, 0, 0, .int 0), (67, .ldc 108, 2, 0, 0, 885, .int 1000000), (69, .if_icmp .ge 30, 3, 0, 0, 0, .int 0)]
set_option maxRecDepth 100000 in
theorem pg_X9_isNext_0_k : pg_X9_isNext_0.all (ds_okb mt_X9_isNext.1.cls mt_X9_isNext.2.1) = true := by decide +kernel
def pg_X9_isNext_1 : List ds_I := [(72, .aload_n 0, 1, 0, 0, 0, .int 0), (73, .getfield 39, 3, 9, 12, 741, .int 0), (76, .iload 4, 2, 0, 0, 0, .int 0), (78, .iaload, 1, 0, 0, 0, .int 0), (79, .aload_n 0, 1, 0, 0, 0, .int 0), (80, .getfield 23, 3, 9, 4, 733, .int 0), (83, .iload_n 1, 1, 0, 0, 0, .int 0), (84, .iaload, 1, 0, 0, 0, .int 0), (85, .iadd, 1, 0, 0, 0, .int 0), (86, .aload_n 0, 1, 0, 0, 0, .int 0), (87, .getfield 39, 3, 9, 12, 741, .int 0), (90, .iload_n 3, 1, 0, 0, 0, .int 0), (91, .iaload, 1, 0, 0, 0, .int 0), (92, .if_icmp .ne 7, 3, 0, 0, 0, .int 0), (95, .iconst 1, 1, 0, 0, 0, .int 1), (96, .goto 4, 3, 0, 0, 0, .int 0), (99, .iconst 0, 1, 0, 0, 0, .int 0), (100, .ireturn, 1, 0, 0, 0, .int 0)]
set_option maxRecDepth 100000 in
theorem pg_X9_isNext_1_k : pg_X9_isNext_1.all (ds_okb mt_X9_isNext.1.cls mt_X9_isNext.2.1) = true := by decide +kernel
def pg_X9_isNext : List ds_I := pg_X9_isNext_0 ++ (pg_X9_isNext_1)
theorem pg_X9_isNext_k : pg_X9_isNext.all (ds_okb mt_X9_isNext.1.cls mt_X9_isNext.2.1) = true := (ds_all_and pg_X9_isNext_0_k pg_X9_isNext_1_k)
theorem ok_X9_isNext : ds_good mt_X9_isNext pg_X9_isNext := ds_good_of pg_X9_isNext_k (by decide +kernel)
def mt_X9_nextOf : ds_M := (⟨"WayWeightsModel", "nextOf", "(I)I"⟩, prog_11_method_20_code, 5, some .int, 2, 45)
def pg_X9_nextOf_0 : List ds_I := [(0, .iconst 0, 1, 0, 0, 0, .int 0), (1, .istore_n 2, 1, 0, 0, 0, .int 0), (2, .iconst 0, 1, 0, 0, 0, .int 0), (3, .istore_n 3, 1, 0, 0, 0, .int 0), (4, .iload_n 3, 1, 0, 0, 0, .int 0), (5, .aload_n 0, 1, 0, 0, 0, .int 0), (6, .getfield 77, 3, 9, 7, 736, .int 0), (9, .if_icmp .ge 69, 3, 0, 0, 0, .int 0), (12, .aload_n 0, 1, 0, 0, 0, .int 0), (13, .getfield 13, 3, 9, 1, 730, .int 0), (16, .iload_n 3, 1, 0, 0, 0, .int 0), (17, .iaload, 1, 0, 0, 0, .int 0), (18, .iload_n 1, 1, 0, 0, 0, .int 0), (19, .if_icmp .ne 12, 3, 0, 0, 0, .int 0), (22, .aload_n 0, 1, 0, 0, 0, .int 0), (23, .iload_n 3, 1, 0, 0, 0, .int 0), (24, .iconst 0, 1, 0, 0, 0, .int 0), (25, .invokevirtual 116, 3, 0, 0, 898, .int 0), (28, .ifCond .ne 22, 3, 0, 0, 0, .int 0), (31, .aload_n 0, 1, 0, 0, 0, .int 0), (32, .getfield 17, 3, 9, 2, 731, .int 0), (35, .iload_n 3, 1, 0, 0, 0, .int 0), (36, .iaload, 1, 0, 0, 0, .int 0), (37, .iload_n 1, 1, 0, 0, 0, .int 0), (38, .if_icmp .ne 16, 3, 0, 0, 0, .int 0), (41, .aload_n 0, 1, 0, 0, 0, .int 0), (42, .iload_n 3, 1, 0, 0, 0, .int 0), (43, .iconst 1, 1, 0, 0, 0, .int 1), (44, .invokevirtual 116, 3, 0, 0, 898, .int 0), (47, .ifCond .eq 7, 3, 0, 0, 0, .int 0), (50, .iconst 1, 1, 0, 0, 0, .int 1), (51, .goto 4, 3, 0, 0, 0, .int 0), (54, .iconst 0, 1, 0, 0, 0, .int 0), (55, .istore 4, 2, 0, 0, 0, .int 0), (57, .iload_n 2, 1, 0, 0, 0, .int 0), (58, .iload 4, 2, 0, 0, 0, .int 0), (60, .ifCond .eq 9, 3, 0, 0, 0, .int 0), (63, .iconst 1, 1, 0, 0, 0, .int 1), (64, .iload_n 3, 1, 0, 0, 0, .int 0), (65, .ishl, 1, 0, 0, 0, .int 0)]
set_option maxRecDepth 100000 in
theorem pg_X9_nextOf_0_k : pg_X9_nextOf_0.all (ds_okb mt_X9_nextOf.1.cls mt_X9_nextOf.2.1) = true := by decide +kernel
def pg_X9_nextOf_1 : List ds_I := [(66, .goto 4, 3, 0, 0, 0, .int 0), (69, .iconst 0, 1, 0, 0, 0, .int 0), (70, .ior, 1, 0, 0, 0, .int 0), (71, .istore_n 2, 1, 0, 0, 0, .int 0), (72, .iinc 3 1, 3, 0, 0, 0, .int 1), (75, .goto (-71), 3, 0, 0, 0, .int 0), (78, .iload_n 2, 1, 0, 0, 0, .int 0), (79, .ireturn, 1, 0, 0, 0, .int 0)]
set_option maxRecDepth 100000 in
theorem pg_X9_nextOf_1_k : pg_X9_nextOf_1.all (ds_okb mt_X9_nextOf.1.cls mt_X9_nextOf.2.1) = true := by decide +kernel
def pg_X9_nextOf : List ds_I := pg_X9_nextOf_0 ++ (pg_X9_nextOf_1)
theorem pg_X9_nextOf_k : pg_X9_nextOf.all (ds_okb mt_X9_nextOf.1.cls mt_X9_nextOf.2.1) = true := (ds_all_and pg_X9_nextOf_0_k pg_X9_nextOf_1_k)
theorem ok_X9_nextOf : ds_good mt_X9_nextOf pg_X9_nextOf := ds_good_of pg_X9_nextOf_k (by decide +kernel)
def mt_X9_next : ds_M := (⟨"WayWeightsModel", "next", "(II)I"⟩, prog_11_method_21_code, 3, some .int, 3, 69)
def pg_X9_next : List ds_I := [(0, .aload_n 0, 1, 0, 0, 0, .int 0), (1, .iload_n 1, 1, 0, 0, 0, .int 0), (2, .invokevirtual 88, 3, 0, 0, 843, .int 0), (5, .ifCond .eq 11, 3, 0, 0, 0, .int 0), (8, .aload_n 0, 1, 0, 0, 0, .int 0), (9, .iload_n 2, 1, 0, 0, 0, .int 0), (10, .invokevirtual 88, 3, 0, 0, 843, .int 0), (13, .ifCond .ne 5, 3, 0, 0, 0, .int 0), (16, .iconst (-1), 1, 0, 0, 0, .int (-1)), (17, .ireturn, 1, 0, 0, 0, .int 0), (18, .aload_n 0, 1, 0, 0, 0, .int 0), (19, .iload_n 2, 1, 0, 0, 0, .int 0), (20, .invokevirtual 112, 3, 0, 0, 881, .int 0), (23, .aload_n 0, 1, 0, 0, 0, .int 0), (24, .iload_n 1, 1, 0, 0, 0, .int 0), (25, .invokevirtual 120, 3, 0, 0, 894, .int 0), (28, .ireturn, 1, 0, 0, 0, .int 0)]
set_option maxRecDepth 100000 in
theorem pg_X9_next_k : pg_X9_next.all (ds_okb mt_X9_next.1.cls mt_X9_next.2.1) = true := by decide +kernel
theorem ok_X9_next : ds_good mt_X9_next pg_X9_next := ds_good_of pg_X9_next_k (by decide +kernel)
def mt_X9_ones : ds_M := (⟨"WayWeightsModel", "ones", "(I)I"⟩, prog_11_method_22_code, 3, some .int, 0, 0)
def pg_X9_ones : List ds_I := [(0, .iconst 0, 1, 0, 0, 0, .int 0), (1, .istore_n 1, 1, 0, 0, 0, .int 0), (2, .iconst 0, 1, 0, 0, 0, .int 0), (3, .istore_n 2, 1, 0, 0, 0, .int 0), (4, .iload_n 2, 1, 0, 0, 0, .int 0), (5, .bipush 10, 2, 0, 0, 0, .int 10), (7, .if_icmp .ge 17, 3, 0, 0, 0, .int 0), (10, .iload_n 1, 1, 0, 0, 0, .int 0), (11, .iload_n 0, 1, 0, 0, 0, .int 0), (12, .iload_n 2, 1, 0, 0, 0, .int 0), (13, .ishr, 1, 0, 0, 0, .int 0), (14, .iconst 1, 1, 0, 0, 0, .int 1), (15, .iand, 1, 0, 0, 0, .int 0), (16, .iadd, 1, 0, 0, 0, .int 0), (17, .istore_n 1, 1, 0, 0, 0, .int 0), (18, .iinc 2 1, 3, 0, 0, 0, .int 1), (21, .goto (-17), 3, 0, 0, 0, .int 0), (24, .iload_n 1, 1, 0, 0, 0, .int 0), (25, .ireturn, 1, 0, 0, 0, .int 0)]
set_option maxRecDepth 100000 in
theorem pg_X9_ones_k : pg_X9_ones.all (ds_okb mt_X9_ones.1.cls mt_X9_ones.2.1) = true := by decide +kernel
theorem ok_X9_ones : ds_good mt_X9_ones pg_X9_ones := ds_good_of pg_X9_ones_k (by decide +kernel)
def mt_X9_goDown : ds_M := (⟨"WayWeightsModel", "goDown", "()V"⟩, prog_11_method_23_code, 5, none, 4, 95)
def pg_X9_goDown_0 : List ds_I := [(0, .aload_n 0, 1, 0, 0, 0, .int 0), (1, .lconst 1, 1, 0, 0, 0, .long 1), (2, .putfield 124, 3, 9, 16, 745, .int 0), (5, .iconst 0, 1, 0, 0, 0, .int 0), (6, .istore_n 1, 1, 0, 0, 0, .int 0), (7, .iload_n 1, 1, 0, 0, 0, .int 0), (8, .aload_n 0, 1, 0, 0, 0, .int 0), (9, .getfield 7, 3, 9, 0, 729, .int 0), (12, .if_icmp .ge 37, 3, 0, 0, 0, .int 0), (15, .aload_n 0, 1, 0, 0, 0, .int 0), (16, .iload_n 1, 1, 0, 0, 0, .int 0), (17, .invokevirtual 120, 3, 0, 0, 894, .int 0), (20, .invokestatic 128, 3, 0, 0, 912, .int 0), (23, .istore_n 2, 1, 0, 0, 0, .int 0), (24, .aload_n 0, 1, 0, 0, 0, .int 0), (25, .dup, 1, 0, 0, 0, .int 0), (26, .getfield 124, 3, 9, 16, 745, .int 0), (29, .iload_n 2, 1, 0, 0, 0, .int 0), (30, .ifCond .le 8, 3, 0, 0, 0, .int 0), (33, .iload_n 2, 1, 0, 0, 0, .int 0), (34, .i2l, 1, 0, 0, 0, .int 0), (35, .goto 4, 3, 0, 0, 0, .int 0), (38, .lconst 1, 1, 0, 0, 0, .long 1), (39, .lmul, 1, 0, 0, 0, .int 0), (40, .putfield 124, 3, 9, 16, 745, .int 0), (43, .iinc 1 1, 3, 0, 0, 0, .int 1), (46, .goto (-39), 3, 0, 0, 0, .int 0), (49, .iconst 0, 1, 0, 0, 0, .int 0), (50, .istore_n 1, 1, 0, 0, 0, .int 0), (51, .iload_n 1, 1, 0, 0, 0, .int 0), (52, .bipush 20, 2, 0, 0, 0, .int 20), (54, .if_icmp .ge 16, 3, 0, 0, 0, .int 0), (57, .aload_n 0, 1, 0, 0, 0, .int 0), (58, .getfield 49, 3, 9, 15, 744, .int 0), (61, .iload_n 1, 1, 0, 0, 0, .int 0), (62, .lconst 0, 1, 0, 0, 0, .long 0), (63, .lastore, 1, 0, 0, 0, .int 0), (64, .iinc 1 1, 3, 0, 0, 0, .int 1), (67, .goto (-16), 3, 0, 0, 0, .int 0), (70, .iconst 0, 1, 0, 0, 0, .int 0)]
set_option maxRecDepth 100000 in
theorem pg_X9_goDown_0_k : pg_X9_goDown_0.all (ds_okb mt_X9_goDown.1.cls mt_X9_goDown.2.1) = true := by decide +kernel
def pg_X9_goDown_1 : List ds_I := [(71, .istore_n 1, 1, 0, 0, 0, .int 0), (72, .iconst 0, 1, 0, 0, 0, .int 0), (73, .istore_n 2, 1, 0, 0, 0, .int 0), (74, .iload_n 2, 1, 0, 0, 0, .int 0), (75, .aload_n 0, 1, 0, 0, 0, .int 0), (76, .getfield 7, 3, 9, 0, 729, .int 0), (79, .if_icmp .ge 41, 3, 0, 0, 0, .int 0), (82, .aload_n 0, 1, 0, 0, 0, .int 0), (83, .getfield 45, 3, 9, 14, 743, .int 0), (86, .iload_n 2, 1, 0, 0, 0, .int 0), (87, .aload_n 0, 1, 0, 0, 0, .int 0), (88, .getfield 39, 3, 9, 12, 741, .int 0), (91, .iload_n 2, 1, 0, 0, 0, .int 0), (92, .iaload, 1, 0, 0, 0, .int 0), (93, .ldc 108, 2, 0, 0, 885, .int 1000000), (95, .if_icmp .ge 17, 3, 0, 0, 0, .int 0), (98, .aload_n 0, 1, 0, 0, 0, .int 0), (99, .getfield 45, 3, 9, 14, 743, .int 0), (102, .iload_n 2, 1, 0, 0, 0, .int 0), (103, .laload, 1, 0, 0, 0, .int 0), (104, .aload_n 0, 1, 0, 0, 0, .int 0), (105, .getfield 124, 3, 9, 16, 745, .int 0), (108, .lmul, 1, 0, 0, 0, .int 0), (109, .goto 4, 3, 0, 0, 0, .int 0), (112, .lconst 0, 1, 0, 0, 0, .long 0), (113, .lastore, 1, 0, 0, 0, .int 0), (114, .iinc 2 1, 3, 0, 0, 0, .int 1), (117, .goto (-43), 3, 0, 0, 0, .int 0), (120, .iconst 0, 1, 0, 0, 0, .int 0), (121, .istore_n 2, 1, 0, 0, 0, .int 0), (122, .iload_n 2, 1, 0, 0, 0, .int 0), (123, .aload_n 0, 1, 0, 0, 0, .int 0), (124, .getfield 7, 3, 9, 0, 729, .int 0), (127, .if_icmp .ge 88, 3, 0, 0, 0, .int 0), (130, .iconst (-1), 1, 0, 0, 0, .int (-1)), (131, .istore_n 3, 1, 0, 0, 0, .int 0), (132, .iconst 0, 1, 0, 0, 0, .int 0), (133, .istore 4, 2, 0, 0, 0, .int 0), (135, .iload 4, 2, 0, 0, 0, .int 0), (137, .aload_n 0, 1, 0, 0, 0, .int 0)]
set_option maxRecDepth 100000 in
theorem pg_X9_goDown_1_k : pg_X9_goDown_1.all (ds_okb mt_X9_goDown.1.cls mt_X9_goDown.2.1) = true := by decide +kernel
def pg_X9_goDown_2 : List ds_I := [(138, .getfield 7, 3, 9, 0, 729, .int 0), (141, .if_icmp .ge 53, 3, 0, 0, 0, .int 0), (144, .iload_n 1, 1, 0, 0, 0, .int 0), (145, .iload 4, 2, 0, 0, 0, .int 0), (147, .ishr, 1, 0, 0, 0, .int 0), (148, .iconst 1, 1, 0, 0, 0, .int 1), (149, .iand, 1, 0, 0, 0, .int 0), (150, .ifCond .ne 38, 3, 0, 0, 0, .int 0), (153, .aload_n 0, 1, 0, 0, 0, .int 0), (154, .getfield 39, 3, 9, 12, 741, .int 0), (157, .iload 4, 2, 0, 0, 0, .int 0), (159, .iaload, 1, 0, 0, 0, .int 0), (160, .ldc 108, 2, 0, 0, 885, .int 1000000), (162, .if_icmp .ge 26, 3, 0, 0, 0, .int 0), (165, .iload_n 3, 1, 0, 0, 0, .int 0), (166, .ifCond .lt 19, 3, 0, 0, 0, .int 0), (169, .aload_n 0, 1, 0, 0, 0, .int 0), (170, .getfield 39, 3, 9, 12, 741, .int 0), (173, .iload 4, 2, 0, 0, 0, .int 0), (175, .iaload, 1, 0, 0, 0, .int 0), (176, .aload_n 0, 1, 0, 0, 0, .int 0), (177, .getfield 39, 3, 9, 12, 741, .int 0), (180, .iload_n 3, 1, 0, 0, 0, .int 0), (181, .iaload, 1, 0, 0, 0, .int 0), (182, .if_icmp .le 6, 3, 0, 0, 0, .int 0), (185, .iload 4, 2, 0, 0, 0, .int 0), (187, .istore_n 3, 1, 0, 0, 0, .int 0), (188, .iinc 4 1, 3, 0, 0, 0, .int 1), (191, .goto (-56), 3, 0, 0, 0, .int 0), (194, .iload_n 3, 1, 0, 0, 0, .int 0), (195, .ifCond .lt 14, 3, 0, 0, 0, .int 0), (198, .iload_n 1, 1, 0, 0, 0, .int 0), (199, .iconst 1, 1, 0, 0, 0, .int 1), (200, .iload_n 3, 1, 0, 0, 0, .int 0), (201, .ishl, 1, 0, 0, 0, .int 0), (202, .ior, 1, 0, 0, 0, .int 0), (203, .istore_n 1, 1, 0, 0, 0, .int 0), (204, .aload_n 0, 1, 0, 0, 0, .int 0), (205, .iload_n 3, 1, 0, 0, 0, .int 0), (206, .invokevirtual 131, 3, 0, 0, 915, .int 0)]
set_option maxRecDepth 100000 in
theorem pg_X9_goDown_2_k : pg_X9_goDown_2.all (ds_okb mt_X9_goDown.1.cls mt_X9_goDown.2.1) = true := by decide +kernel
def pg_X9_goDown_3 : List ds_I := [(209, .iinc 2 1, 3, 0, 0, 0, .int 1), (212, .goto (-90), 3, 0, 0, 0, .int 0), (215, .return_, 1, 0, 0, 0, .int 0)]
set_option maxRecDepth 100000 in
theorem pg_X9_goDown_3_k : pg_X9_goDown_3.all (ds_okb mt_X9_goDown.1.cls mt_X9_goDown.2.1) = true := by decide +kernel
def pg_X9_goDown : List ds_I := pg_X9_goDown_0 ++ (pg_X9_goDown_1 ++ (pg_X9_goDown_2 ++ (pg_X9_goDown_3)))
theorem pg_X9_goDown_k : pg_X9_goDown.all (ds_okb mt_X9_goDown.1.cls mt_X9_goDown.2.1) = true := (ds_all_and pg_X9_goDown_0_k (ds_all_and pg_X9_goDown_1_k (ds_all_and pg_X9_goDown_2_k pg_X9_goDown_3_k)))
theorem ok_X9_goDown : ds_good mt_X9_goDown pg_X9_goDown := ds_good_of pg_X9_goDown_k (by decide +kernel)
def mt_X9_parts : ds_M := (⟨"WayWeightsModel", "parts", "(I)V"⟩, prog_11_method_24_code, 7, none, 3, 69)
def pg_X9_parts_0 : List ds_I := [(0, .aload_n 0, 1, 0, 0, 0, .int 0), (1, .iload_n 1, 1, 0, 0, 0, .int 0), (2, .invokevirtual 120, 3, 0, 0, 894, .int 0), (5, .istore_n 2, 1, 0, 0, 0, .int 0), (6, .iload_n 2, 1, 0, 0, 0, .int 0), (7, .invokestatic 128, 3, 0, 0, 912, .int 0), (10, .istore_n 3, 1, 0, 0, 0, .int 0), (11, .iconst 0, 1, 0, 0, 0, .int 0), (12, .istore 4, 2, 0, 0, 0, .int 0), (14, .iload 4, 2, 0, 0, 0, .int 0), (16, .aload_n 0, 1, 0, 0, 0, .int 0), (17, .getfield 77, 3, 9, 7, 736, .int 0), (20, .if_icmp .ge 108, 3, 0, 0, 0, .int 0), (23, .iload_n 3, 1, 0, 0, 0, .int 0), (24, .ifCond .le 104, 3, 0, 0, 0, .int 0), (27, .iload_n 2, 1, 0, 0, 0, .int 0), (28, .iload 4, 2, 0, 0, 0, .int 0), (30, .ishr, 1, 0, 0, 0, .int 0), (31, .iconst 1, 1, 0, 0, 0, .int 1), (32, .iand, 1, 0, 0, 0, .int 0), (33, .iconst 1, 1, 0, 0, 0, .int 1), (34, .if_icmp .ne 88, 3, 0, 0, 0, .int 0), (37, .aload_n 0, 1, 0, 0, 0, .int 0), (38, .getfield 13, 3, 9, 1, 730, .int 0), (41, .iload 4, 2, 0, 0, 0, .int 0), (43, .iaload, 1, 0, 0, 0, .int 0), (44, .iload_n 1, 1, 0, 0, 0, .int 0), (45, .if_icmp .ne 7, 3, 0, 0, 0, .int 0), (48, .iconst 0, 1, 0, 0, 0, .int 0), (49, .goto 4, 3, 0, 0, 0, .int 0), (52, .iconst 1, 1, 0, 0, 0, .int 1), (53, .istore 5, 2, 0, 0, 0, .int 0), (55, .iload 5, 2, 0, 0, 0, .int 0), (57, .ifCond .ne 13, 3, 0, 0, 0, .int 0), (60, .aload_n 0, 1, 0, 0, 0, .int 0), (61, .getfield 17, 3, 9, 2, 731, .int 0), (64, .iload 4, 2, 0, 0, 0, .int 0), (66, .iaload, 1, 0, 0, 0, .int 0), (67, .goto 10, 3, 0, 0, 0, .int 0), (70, .aload_n 0, 1, 0, 0, 0, .int 0)]
set_option maxRecDepth 100000 in
theorem pg_X9_parts_0_k : pg_X9_parts_0.all (ds_okb mt_X9_parts.1.cls mt_X9_parts.2.1) = true := by decide +kernel
def pg_X9_parts_1 : List ds_I := [(71, .getfield 13, 3, 9, 1, 730, .int 0), (74, .iload 4, 2, 0, 0, 0, .int 0), (76, .iaload, 1, 0, 0, 0, .int 0), (77, .istore 6, 2, 0, 0, 0, .int 0), (79, .aload_n 0, 1, 0, 0, 0, .int 0), (80, .getfield 49, 3, 9, 15, 744, .int 0), (83, .iconst 2, 1, 0, 0, 0, .int 2), (84, .iload 4, 2, 0, 0, 0, .int 0), (86, .imul, 1, 0, 0, 0, .int 0), (87, .iload 5, 2, 0, 0, 0, .int 0), (89, .iadd, 1, 0, 0, 0, .int 0), (90, .dup2, 1, 0, 0, 0, .int 0), (91, .laload, 1, 0, 0, 0, .int 0), (92, .aload_n 0, 1, 0, 0, 0, .int 0), (93, .getfield 45, 3, 9, 14, 743, .int 0), (96, .iload_n 1, 1, 0, 0, 0, .int 0), (97, .laload, 1, 0, 0, 0, .int 0), (98, .iload_n 3, 1, 0, 0, 0, .int 0), (99, .i2l, 1, 0, 0, 0, .int 0), (100, .ldiv, 1, 0, 0, 0, .int 0), (101, .ladd, 1, 0, 0, 0, .int 0), (102, .lastore, 1, 0, 0, 0, .int 0), (103, .aload_n 0, 1, 0, 0, 0, .int 0), (104, .getfield 45, 3, 9, 14, 743, .int 0), (107, .iload 6, 2, 0, 0, 0, .int 0), (109, .dup2, 1, 0, 0, 0, .int 0), (110, .laload, 1, 0, 0, 0, .int 0), (111, .aload_n 0, 1, 0, 0, 0, .int 0), (112, .getfield 45, 3, 9, 14, 743, .int 0), (115, .iload_n 1, 1, 0, 0, 0, .int 0), (116, .laload, 1, 0, 0, 0, .int 0), (117, .iload_n 3, 1, 0, 0, 0, .int 0), (118, .i2l, 1, 0, 0, 0, .int 0), (119, .ldiv, 1, 0, 0, 0, .int 0), (120, .ladd, 1, 0, 0, 0, .int 0), (121, .lastore, 1, 0, 0, 0, .int 0), (122, .iinc 4 1, 3, 0, 0, 0, .int 1), (125, .goto (-111), 3, 0, 0, 0, .int 0), (128, .return_, 1, 0, 0, 0, .int 0)]
set_option maxRecDepth 100000 in
theorem pg_X9_parts_1_k : pg_X9_parts_1.all (ds_okb mt_X9_parts.1.cls mt_X9_parts.2.1) = true := by decide +kernel
def pg_X9_parts : List ds_I := pg_X9_parts_0 ++ (pg_X9_parts_1)
theorem pg_X9_parts_k : pg_X9_parts.all (ds_okb mt_X9_parts.1.cls mt_X9_parts.2.1) = true := (ds_all_and pg_X9_parts_0_k pg_X9_parts_1_k)
theorem ok_X9_parts : ds_good mt_X9_parts pg_X9_parts := ds_good_of pg_X9_parts_k (by decide +kernel)
def mt_X9_lowest : ds_M := (⟨"WayWeightsModel", "lowest", "(JJI)J"⟩, prog_11_method_25_code, 7, some .long, 1, 29)
def pg_X9_lowest : List ds_I := [(0, .lload_n 0, 1, 0, 0, 0, .int 0), (1, .lload_n 2, 1, 0, 0, 0, .int 0), (2, .invokestatic 134, 3, 0, 0, 922, .int 0), (5, .lstore 5, 2, 0, 0, 0, .int 0), (7, .iload 4, 2, 0, 0, 0, .int 0), (9, .ifCond .ne 10, 3, 0, 0, 0, .int 0), (12, .lload_n 0, 1, 0, 0, 0, .int 0), (13, .lload 5, 2, 0, 0, 0, .int 0), (15, .ldiv, 1, 0, 0, 0, .int 0), (16, .goto 7, 3, 0, 0, 0, .int 0), (19, .lload_n 2, 1, 0, 0, 0, .int 0), (20, .lload 5, 2, 0, 0, 0, .int 0), (22, .ldiv, 1, 0, 0, 0, .int 0), (23, .lreturn, 1, 0, 0, 0, .int 0)]
set_option maxRecDepth 100000 in
theorem pg_X9_lowest_k : pg_X9_lowest.all (ds_okb mt_X9_lowest.1.cls mt_X9_lowest.2.1) = true := by decide +kernel
theorem ok_X9_lowest : ds_good mt_X9_lowest pg_X9_lowest := ds_good_of pg_X9_lowest_k (by decide +kernel)
def mt_X9_share : ds_M := (⟨"WayWeightsModel", "share", "(IIIII)J"⟩, prog_11_method_26_code, 7, some .long, 5, 119)
def pg_X9_share_0 : List ds_I := [(0, .aload_n 0, 1, 0, 0, 0, .int 0), (1, .iload_n 1, 1, 0, 0, 0, .int 0), (2, .invokevirtual 88, 3, 0, 0, 843, .int 0), (5, .ifCond .eq 19, 3, 0, 0, 0, .int 0), (8, .aload_n 0, 1, 0, 0, 0, .int 0), (9, .iload_n 2, 1, 0, 0, 0, .int 0), (10, .invokevirtual 88, 3, 0, 0, 843, .int 0), (13, .ifCond .eq 11, 3, 0, 0, 0, .int 0), (16, .aload_n 0, 1, 0, 0, 0, .int 0), (17, .iload_n 3, 1, 0, 0, 0, .int 0), (18, .invokevirtual 96, 3, 0, 0, 853, .int 0), (21, .ifCond .ne 7, 3, 0, 0, 0, .int 0), (24, .ldc2_w 138, 3, 0, 0, 906, .long (-1000000000000000001)), (27, .lreturn, 1, 0, 0, 0, .int 0), (28, .iload 4, 2, 0, 0, 0, .int 0), (30, .i2l, 1, 0, 0, 0, .int 0), (31, .lconst 0, 1, 0, 0, 0, .long 0), (32, .lconst 1, 1, 0, 0, 0, .long 1), (33, .invokestatic 73, 3, 0, 0, 836, .int 0), (36, .ifCond .eq 14, 3, 0, 0, 0, .int 0), (39, .iload 5, 2, 0, 0, 0, .int 0), (41, .i2l, 1, 0, 0, 0, .int 0), (42, .lconst 0, 1, 0, 0, 0, .long 0), (43, .lconst 1, 1, 0, 0, 0, .long 1), (44, .invokestatic 73, 3, 0, 0, 836, .int 0), (47, .ifCond .ne 7, 3, 0, 0, 0, .int 0), (50, .ldc2_w 140, 3, 0, 0, 907, .long (-1000000000000000002)), (53, .lreturn, 1, 0, 0, 0, .int 0), (54, .aload_n 0, 1, 0, 0, 0, .int 0), (55, .iload_n 2, 1, 0, 0, 0, .int 0), (56, .invokevirtual 112, 3, 0, 0, 881, .int 0), (59, .iconst 0, 1, 0, 0, 0, .int 0), (60, .istore 6, 2, 0, 0, 0, .int 0), (62, .iload 6, 2, 0, 0, 0, .int 0), (64, .bipush 6, 2, 0, 0, 0, .int 6), (66, .if_icmp .ge 32, 3, 0, 0, 0, .int 0), (69, .aload_n 0, 1, 0, 0, 0, .int 0), (70, .getfield 45, 3, 9, 14, 743, .int 0), (73, .iload 6, 2, 0, 0, 0, .int 0), (75, .iload 6, 2, 0, 0, 0, .int 0)]
set_option maxRecDepth 100000 in
theorem pg_X9_share_0_k : pg_X9_share_0.all (ds_okb mt_X9_share.1.cls mt_X9_share.2.1) = true := by decide +kernel
def pg_X9_share_1 : List ds_I := [(77, .iload_n 1, 1, 0, 0, 0, .int 0), (78, .if_icmp .ne 12, 3, 0, 0, 0, .int 0), (81, .iload_n 1, 1, 0, 0, 0, .int 0), (82, .iload_n 2, 1, 0, 0, 0, .int 0), (83, .if_icmp .eq 7, 3, 0, 0, 0, .int 0), (86, .lconst 1, 1, 0, 0, 0, .long 1), (87, .goto 4, 3, 0, 0, 0, .int 0), (90, .lconst 0, 1, 0, 0, 0, .long 0), (91, .lastore, 1, 0, 0, 0, .int 0), (92, .iinc 6 1, 3, 0, 0, 0, .int 1), (95, .goto (-33), 3, 0, 0, 0, .int 0), (98, .aload_n 0, 1, 0, 0, 0, .int 0), (99, .invokevirtual 142, 3, 0, 0, 908, .int 0), (102, .aload_n 0, 1, 0, 0, 0, .int 0), (103, .getfield 49, 3, 9, 15, 744, .int 0), (106, .iconst 2, 1, 0, 0, 0, .int 2), (107, .iload_n 3, 1, 0, 0, 0, .int 0), (108, .imul, 1, 0, 0, 0, .int 0), (109, .iload 4, 2, 0, 0, 0, .int 0), (111, .iadd, 1, 0, 0, 0, .int 0), (112, .laload, 1, 0, 0, 0, .int 0), (113, .aload_n 0, 1, 0, 0, 0, .int 0), (114, .getfield 124, 3, 9, 16, 745, .int 0), (117, .iload 5, 2, 0, 0, 0, .int 0), (119, .invokestatic 145, 3, 0, 0, 919, .int 0), (122, .lreturn, 1, 0, 0, 0, .int 0)]
set_option maxRecDepth 100000 in
theorem pg_X9_share_1_k : pg_X9_share_1.all (ds_okb mt_X9_share.1.cls mt_X9_share.2.1) = true := by decide +kernel
def pg_X9_share : List ds_I := pg_X9_share_0 ++ (pg_X9_share_1)
theorem pg_X9_share_k : pg_X9_share.all (ds_okb mt_X9_share.1.cls mt_X9_share.2.1) = true := (ds_all_and pg_X9_share_0_k pg_X9_share_1_k)
theorem ok_X9_share : ds_good mt_X9_share pg_X9_share := ds_good_of pg_X9_share_k (by decide +kernel)
def mt_X9_findOn : ds_M := (⟨"WayWeightsModel", "findOn", "(I)V"⟩, prog_11_method_27_code, 10, none, 5, 119)
def pg_X9_findOn_0 : List ds_I := [(0, .iconst 0, 1, 0, 0, 0, .int 0), (1, .istore_n 2, 1, 0, 0, 0, .int 0), (2, .iload_n 2, 1, 0, 0, 0, .int 0), (3, .bipush 20, 2, 0, 0, 0, .int 20), (5, .if_icmp .ge 23, 3, 0, 0, 0, .int 0), (8, .aload_n 0, 1, 0, 0, 0, .int 0), (9, .getfield 52, 3, 9, 17, 746, .int 0), (12, .iload_n 2, 1, 0, 0, 0, .int 0), (13, .lconst 0, 1, 0, 0, 0, .long 0), (14, .lastore, 1, 0, 0, 0, .int 0), (15, .aload_n 0, 1, 0, 0, 0, .int 0), (16, .getfield 55, 3, 9, 18, 747, .int 0), (19, .iload_n 2, 1, 0, 0, 0, .int 0), (20, .lconst 1, 1, 0, 0, 0, .long 1), (21, .lastore, 1, 0, 0, 0, .int 0), (22, .iinc 2 1, 3, 0, 0, 0, .int 1), (25, .goto (-23), 3, 0, 0, 0, .int 0), (28, .iconst 0, 1, 0, 0, 0, .int 0), (29, .istore_n 2, 1, 0, 0, 0, .int 0), (30, .iload_n 2, 1, 0, 0, 0, .int 0), (31, .aload_n 0, 1, 0, 0, 0, .int 0), (32, .getfield 7, 3, 9, 0, 729, .int 0), (35, .if_icmp .ge 156, 3, 0, 0, 0, .int 0), (38, .aload_n 0, 1, 0, 0, 0, .int 0), (39, .iload_n 2, 1, 0, 0, 0, .int 0), (40, .invokevirtual 112, 3, 0, 0, 881, .int 0), (43, .iconst 0, 1, 0, 0, 0, .int 0), (44, .istore_n 3, 1, 0, 0, 0, .int 0), (45, .iload_n 3, 1, 0, 0, 0, .int 0), (46, .bipush 6, 2, 0, 0, 0, .int 6), (48, .if_icmp .ge 23, 3, 0, 0, 0, .int 0), (51, .aload_n 0, 1, 0, 0, 0, .int 0), (52, .getfield 45, 3, 9, 14, 743, .int 0), (55, .iload_n 3, 1, 0, 0, 0, .int 0), (56, .aload_n 0, 1, 0, 0, 0, .int 0), (57, .iload_n 1, 1, 0, 0, 0, .int 0), (58, .iload_n 3, 1, 0, 0, 0, .int 0), (59, .iload_n 2, 1, 0, 0, 0, .int 0), (60, .invokevirtual 104, 3, 0, 0, 873, .int 0), (63, .i2l, 1, 0, 0, 0, .int 0)]
set_option maxRecDepth 100000 in
theorem pg_X9_findOn_0_k : pg_X9_findOn_0.all (ds_okb mt_X9_findOn.1.cls mt_X9_findOn.2.1) = true := by decide +kernel
def pg_X9_findOn_1 : List ds_I := [(64, .lastore, 1, 0, 0, 0, .int 0), (65, .iinc 3 1, 3, 0, 0, 0, .int 1), (68, .goto (-23), 3, 0, 0, 0, .int 0), (71, .aload_n 0, 1, 0, 0, 0, .int 0), (72, .invokevirtual 142, 3, 0, 0, 908, .int 0), (75, .iconst 0, 1, 0, 0, 0, .int 0), (76, .istore_n 3, 1, 0, 0, 0, .int 0), (77, .iload_n 3, 1, 0, 0, 0, .int 0), (78, .iconst 2, 1, 0, 0, 0, .int 2), (79, .aload_n 0, 1, 0, 0, 0, .int 0), (80, .getfield 77, 3, 9, 7, 736, .int 0), (83, .imul, 1, 0, 0, 0, .int 0), (84, .if_icmp .ge 101, 3, 0, 0, 0, .int 0), (87, .aload_n 0, 1, 0, 0, 0, .int 0), (88, .getfield 55, 3, 9, 18, 747, .int 0), (91, .iload_n 3, 1, 0, 0, 0, .int 0), (92, .laload, 1, 0, 0, 0, .int 0), (93, .aload_n 0, 1, 0, 0, 0, .int 0), (94, .getfield 124, 3, 9, 16, 745, .int 0), (97, .invokestatic 134, 3, 0, 0, 922, .int 0), (100, .lstore 4, 2, 0, 0, 0, .int 0), (102, .aload_n 0, 1, 0, 0, 0, .int 0), (103, .getfield 55, 3, 9, 18, 747, .int 0), (106, .iload_n 3, 1, 0, 0, 0, .int 0), (107, .laload, 1, 0, 0, 0, .int 0), (108, .lload 4, 2, 0, 0, 0, .int 0), (110, .ldiv, 1, 0, 0, 0, .int 0), (111, .aload_n 0, 1, 0, 0, 0, .int 0), (112, .getfield 124, 3, 9, 16, 745, .int 0), (115, .lmul, 1, 0, 0, 0, .int 0), (116, .lstore 6, 2, 0, 0, 0, .int 0), (118, .aload_n 0, 1, 0, 0, 0, .int 0), (119, .getfield 52, 3, 9, 17, 746, .int 0), (122, .iload_n 3, 1, 0, 0, 0, .int 0), (123, .laload, 1, 0, 0, 0, .int 0), (124, .aload_n 0, 1, 0, 0, 0, .int 0), (125, .getfield 124, 3, 9, 16, 745, .int 0), (128, .lload 4, 2, 0, 0, 0, .int 0), (130, .ldiv, 1, 0, 0, 0, .int 0), (131, .lmul, 1, 0, 0, 0, .int 0)]
set_option maxRecDepth 100000 in
theorem pg_X9_findOn_1_k : pg_X9_findOn_1.all (ds_okb mt_X9_findOn.1.cls mt_X9_findOn.2.1) = true := by decide +kernel
def pg_X9_findOn_2 : List ds_I := [(132, .aload_n 0, 1, 0, 0, 0, .int 0), (133, .getfield 49, 3, 9, 15, 744, .int 0), (136, .iload_n 3, 1, 0, 0, 0, .int 0), (137, .laload, 1, 0, 0, 0, .int 0), (138, .aload_n 0, 1, 0, 0, 0, .int 0), (139, .getfield 55, 3, 9, 18, 747, .int 0), (142, .iload_n 3, 1, 0, 0, 0, .int 0), (143, .laload, 1, 0, 0, 0, .int 0), (144, .lload 4, 2, 0, 0, 0, .int 0), (146, .ldiv, 1, 0, 0, 0, .int 0), (147, .lmul, 1, 0, 0, 0, .int 0), (148, .ladd, 1, 0, 0, 0, .int 0), (149, .lstore 8, 2, 0, 0, 0, .int 0), (151, .aload_n 0, 1, 0, 0, 0, .int 0), (152, .getfield 52, 3, 9, 17, 746, .int 0), (155, .iload_n 3, 1, 0, 0, 0, .int 0), (156, .lload 8, 2, 0, 0, 0, .int 0), (158, .lload 6, 2, 0, 0, 0, .int 0), (160, .iconst 0, 1, 0, 0, 0, .int 0), (161, .invokestatic 145, 3, 0, 0, 919, .int 0), (164, .lastore, 1, 0, 0, 0, .int 0), (165, .aload_n 0, 1, 0, 0, 0, .int 0), (166, .getfield 55, 3, 9, 18, 747, .int 0), (169, .iload_n 3, 1, 0, 0, 0, .int 0), (170, .lload 8, 2, 0, 0, 0, .int 0), (172, .lload 6, 2, 0, 0, 0, .int 0), (174, .iconst 1, 1, 0, 0, 0, .int 1), (175, .invokestatic 145, 3, 0, 0, 919, .int 0), (178, .lastore, 1, 0, 0, 0, .int 0), (179, .iinc 3 1, 3, 0, 0, 0, .int 1), (182, .goto (-105), 3, 0, 0, 0, .int 0), (185, .iinc 2 1, 3, 0, 0, 0, .int 1), (188, .goto (-158), 3, 0, 0, 0, .int 0), (191, .return_, 1, 0, 0, 0, .int 0)]
set_option maxRecDepth 100000 in
theorem pg_X9_findOn_2_k : pg_X9_findOn_2.all (ds_okb mt_X9_findOn.1.cls mt_X9_findOn.2.1) = true := by decide +kernel
def pg_X9_findOn : List ds_I := pg_X9_findOn_0 ++ (pg_X9_findOn_1 ++ (pg_X9_findOn_2))
theorem pg_X9_findOn_k : pg_X9_findOn.all (ds_okb mt_X9_findOn.1.cls mt_X9_findOn.2.1) = true := (ds_all_and pg_X9_findOn_0_k (ds_all_and pg_X9_findOn_1_k pg_X9_findOn_2_k))
theorem ok_X9_findOn : ds_good mt_X9_findOn pg_X9_findOn := ds_good_of pg_X9_findOn_k (by decide +kernel)
def mt_X9_on : ds_M := (⟨"WayWeightsModel", "on", "(IIII)J"⟩, prog_11_method_28_code, 5, some .long, 6, 148)
def pg_X9_on_0 : List ds_I := [(0, .iload_n 1, 1, 0, 0, 0, .int 0), (1, .invokestatic 99, 3, 0, 0, 869, .int 0), (4, .ifCond .eq 11, 3, 0, 0, 0, .int 0), (7, .aload_n 0, 1, 0, 0, 0, .int 0), (8, .iload_n 2, 1, 0, 0, 0, .int 0), (9, .invokevirtual 96, 3, 0, 0, 853, .int 0), (12, .ifCond .ne 7, 3, 0, 0, 0, .int 0), (15, .ldc2_w 138, 3, 0, 0, 906, .long (-1000000000000000001)), (18, .lreturn, 1, 0, 0, 0, .int 0), (19, .iload_n 3, 1, 0, 0, 0, .int 0), (20, .i2l, 1, 0, 0, 0, .int 0), (21, .lconst 0, 1, 0, 0, 0, .long 0), (22, .lconst 1, 1, 0, 0, 0, .long 1), (23, .invokestatic 73, 3, 0, 0, 836, .int 0), (26, .ifCond .eq 14, 3, 0, 0, 0, .int 0), (29, .iload 4, 2, 0, 0, 0, .int 0), (31, .i2l, 1, 0, 0, 0, .int 0), (32, .lconst 0, 1, 0, 0, 0, .long 0), (33, .lconst 1, 1, 0, 0, 0, .long 1), (34, .invokestatic 73, 3, 0, 0, 836, .int 0), (37, .ifCond .ne 7, 3, 0, 0, 0, .int 0), (40, .ldc2_w 140, 3, 0, 0, 907, .long (-1000000000000000002)), (43, .lreturn, 1, 0, 0, 0, .int 0), (44, .aload_n 0, 1, 0, 0, 0, .int 0), (45, .iload_n 1, 1, 0, 0, 0, .int 0), (46, .invokevirtual 149, 3, 0, 0, 929, .int 0), (49, .iload 4, 2, 0, 0, 0, .int 0), (51, .ifCond .ne 16, 3, 0, 0, 0, .int 0), (54, .aload_n 0, 1, 0, 0, 0, .int 0), (55, .getfield 52, 3, 9, 17, 746, .int 0), (58, .iconst 2, 1, 0, 0, 0, .int 2), (59, .iload_n 2, 1, 0, 0, 0, .int 0), (60, .imul, 1, 0, 0, 0, .int 0), (61, .iload_n 3, 1, 0, 0, 0, .int 0), (62, .iadd, 1, 0, 0, 0, .int 0), (63, .laload, 1, 0, 0, 0, .int 0), (64, .goto 13, 3, 0, 0, 0, .int 0), (67, .aload_n 0, 1, 0, 0, 0, .int 0), (68, .getfield 55, 3, 9, 18, 747, .int 0), (71, .iconst 2, 1, 0, 0, 0, .int 2)]
set_option maxRecDepth 100000 in
theorem pg_X9_on_0_k : pg_X9_on_0.all (ds_okb mt_X9_on.1.cls mt_X9_on.2.1) = true := by decide +kernel
def pg_X9_on_1 : List ds_I := [(72, .iload_n 2, 1, 0, 0, 0, .int 0), (73, .imul, 1, 0, 0, 0, .int 0), (74, .iload_n 3, 1, 0, 0, 0, .int 0), (75, .iadd, 1, 0, 0, 0, .int 0), (76, .laload, 1, 0, 0, 0, .int 0), (77, .lreturn, 1, 0, 0, 0, .int 0)]
set_option maxRecDepth 100000 in
theorem pg_X9_on_1_k : pg_X9_on_1.all (ds_okb mt_X9_on.1.cls mt_X9_on.2.1) = true := by decide +kernel
def pg_X9_on : List ds_I := pg_X9_on_0 ++ (pg_X9_on_1)
theorem pg_X9_on_k : pg_X9_on.all (ds_okb mt_X9_on.1.cls mt_X9_on.2.1) = true := (ds_all_and pg_X9_on_0_k pg_X9_on_1_k)
theorem ok_X9_on : ds_good mt_X9_on pg_X9_on := ds_good_of pg_X9_on_k (by decide +kernel)
end
section
def mt_X9_findWorst : ds_M := (⟨"WayWeightsModel", "findWorst", "(I)V"⟩, prog_11_method_29_code, 5, none, 6, 148)
def pg_X9_findWorst_0 : List ds_I := [(0, .aload_n 0, 1, 0, 0, 0, .int 0), (1, .iload_n 1, 1, 0, 0, 0, .int 0), (2, .invokevirtual 149, 3, 0, 0, 929, .int 0), (5, .aload_n 0, 1, 0, 0, 0, .int 0), (6, .lconst 0, 1, 0, 0, 0, .long 0), (7, .putfield 152, 3, 9, 19, 748, .int 0), (10, .aload_n 0, 1, 0, 0, 0, .int 0), (11, .lconst 1, 1, 0, 0, 0, .long 1), (12, .putfield 155, 3, 9, 20, 749, .int 0), (15, .aload_n 0, 1, 0, 0, 0, .int 0), (16, .iconst (-1), 1, 0, 0, 0, .int (-1)), (17, .putfield 158, 3, 9, 21, 750, .int 0), (20, .iconst 0, 1, 0, 0, 0, .int 0), (21, .istore_n 2, 1, 0, 0, 0, .int 0), (22, .iload_n 2, 1, 0, 0, 0, .int 0), (23, .iconst 2, 1, 0, 0, 0, .int 2), (24, .aload_n 0, 1, 0, 0, 0, .int 0), (25, .getfield 77, 3, 9, 7, 736, .int 0), (28, .imul, 1, 0, 0, 0, .int 0), (29, .if_icmp .ge 82, 3, 0, 0, 0, .int 0), (32, .aload_n 0, 1, 0, 0, 0, .int 0), (33, .getfield 55, 3, 9, 18, 747, .int 0), (36, .iload_n 2, 1, 0, 0, 0, .int 0), (37, .laload, 1, 0, 0, 0, .int 0), (38, .aload_n 0, 1, 0, 0, 0, .int 0), (39, .getfield 20, 3, 9, 3, 732, .int 0), (42, .iload_n 2, 1, 0, 0, 0, .int 0), (43, .iconst 2, 1, 0, 0, 0, .int 2), (44, .idiv, 1, 0, 0, 0, .int 0), (45, .iaload, 1, 0, 0, 0, .int 0), (46, .i2l, 1, 0, 0, 0, .int 0), (47, .lmul, 1, 0, 0, 0, .int 0), (48, .lstore_n 3, 1, 0, 0, 0, .int 0), (49, .aload_n 0, 1, 0, 0, 0, .int 0), (50, .getfield 52, 3, 9, 17, 746, .int 0), (53, .iload_n 2, 1, 0, 0, 0, .int 0), (54, .laload, 1, 0, 0, 0, .int 0), (55, .lload_n 3, 1, 0, 0, 0, .int 0), (56, .aload_n 0, 1, 0, 0, 0, .int 0), (57, .getfield 152, 3, 9, 19, 748, .int 0)]
set_option maxRecDepth 100000 in
theorem pg_X9_findWorst_0_k : pg_X9_findWorst_0.all (ds_okb mt_X9_findWorst.1.cls mt_X9_findWorst.2.1) = true := by decide +kernel
def pg_X9_findWorst_1 : List ds_I := [(60, .aload_n 0, 1, 0, 0, 0, .int 0), (61, .getfield 155, 3, 9, 20, 749, .int 0), (64, .invokestatic 161, 3, 0, 0, 942, .int 0), (67, .ifCond .eq 38, 3, 0, 0, 0, .int 0), (70, .aload_n 0, 1, 0, 0, 0, .int 0), (71, .aload_n 0, 1, 0, 0, 0, .int 0), (72, .getfield 52, 3, 9, 17, 746, .int 0), (75, .iload_n 2, 1, 0, 0, 0, .int 0), (76, .laload, 1, 0, 0, 0, .int 0), (77, .lload_n 3, 1, 0, 0, 0, .int 0), (78, .iconst 0, 1, 0, 0, 0, .int 0), (79, .invokestatic 145, 3, 0, 0, 919, .int 0), (82, .putfield 152, 3, 9, 19, 748, .int 0), (85, .aload_n 0, 1, 0, 0, 0, .int 0), (86, .aload_n 0, 1, 0, 0, 0, .int 0), (87, .getfield 52, 3, 9, 17, 746, .int 0), (90, .iload_n 2, 1, 0, 0, 0, .int 0), (91, .laload, 1, 0, 0, 0, .int 0), (92, .lload_n 3, 1, 0, 0, 0, .int 0), (93, .iconst 1, 1, 0, 0, 0, .int 1), (94, .invokestatic 145, 3, 0, 0, 919, .int 0), (97, .putfield 155, 3, 9, 20, 749, .int 0), (100, .aload_n 0, 1, 0, 0, 0, .int 0), (101, .iload_n 2, 1, 0, 0, 0, .int 0), (102, .putfield 158, 3, 9, 21, 750, .int 0), (105, .iinc 2 1, 3, 0, 0, 0, .int 1), (108, .goto (-86), 3, 0, 0, 0, .int 0), (111, .return_, 1, 0, 0, 0, .int 0)]
set_option maxRecDepth 100000 in
theorem pg_X9_findWorst_1_k : pg_X9_findWorst_1.all (ds_okb mt_X9_findWorst.1.cls mt_X9_findWorst.2.1) = true := by decide +kernel
def pg_X9_findWorst : List ds_I := pg_X9_findWorst_0 ++ (pg_X9_findWorst_1)
theorem pg_X9_findWorst_k : pg_X9_findWorst.all (ds_okb mt_X9_findWorst.1.cls mt_X9_findWorst.2.1) = true := (ds_all_and pg_X9_findWorst_0_k pg_X9_findWorst_1_k)
theorem ok_X9_findWorst : ds_good mt_X9_findWorst pg_X9_findWorst := ds_good_of pg_X9_findWorst_k (by decide +kernel)
def mt_X9_worst : ds_M := (⟨"WayWeightsModel", "worst", "(II)J"⟩, prog_11_method_30_code, 3, some .long, 7, 172)
def pg_X9_worst_0 : List ds_I := [(0, .iload_n 1, 1, 0, 0, 0, .int 0), (1, .invokestatic 99, 3, 0, 0, 869, .int 0), (4, .ifCond .ne 7, 3, 0, 0, 0, .int 0), (7, .ldc2_w 138, 3, 0, 0, 906, .long (-1000000000000000001)), (10, .lreturn, 1, 0, 0, 0, .int 0), (11, .iload_n 2, 1, 0, 0, 0, .int 0), (12, .i2l, 1, 0, 0, 0, .int 0), (13, .lconst 0, 1, 0, 0, 0, .long 0), (14, .ldc2_w 165, 3, 0, 0, 937, .long 3), (17, .invokestatic 73, 3, 0, 0, 836, .int 0), (20, .ifCond .ne 7, 3, 0, 0, 0, .int 0), (23, .ldc2_w 140, 3, 0, 0, 907, .long (-1000000000000000002)), (26, .lreturn, 1, 0, 0, 0, .int 0), (27, .aload_n 0, 1, 0, 0, 0, .int 0), (28, .iload_n 1, 1, 0, 0, 0, .int 0), (29, .invokevirtual 167, 3, 0, 0, 938, .int 0), (32, .iload_n 2, 1, 0, 0, 0, .int 0), (33, .iconst 2, 1, 0, 0, 0, .int 2), (34, .if_icmp .ge 19, 3, 0, 0, 0, .int 0), (37, .iload_n 2, 1, 0, 0, 0, .int 0), (38, .ifCond .ne 10, 3, 0, 0, 0, .int 0), (41, .aload_n 0, 1, 0, 0, 0, .int 0), (42, .getfield 152, 3, 9, 19, 748, .int 0), (45, .goto 7, 3, 0, 0, 0, .int 0), (48, .aload_n 0, 1, 0, 0, 0, .int 0), (49, .getfield 155, 3, 9, 20, 749, .int 0), (52, .lreturn, 1, 0, 0, 0, .int 0), (53, .aload_n 0, 1, 0, 0, 0, .int 0), (54, .getfield 158, 3, 9, 21, 750, .int 0), (57, .ifCond .ge 9, 3, 0, 0, 0, .int 0), (60, .ldc2_w 170, 3, 0, 0, 945, .long (-6)), (63, .goto 25, 3, 0, 0, 0, .int 0), (66, .iload_n 2, 1, 0, 0, 0, .int 0), (67, .iconst 2, 1, 0, 0, 0, .int 2), (68, .if_icmp .ne 13, 3, 0, 0, 0, .int 0), (71, .aload_n 0, 1, 0, 0, 0, .int 0), (72, .getfield 158, 3, 9, 21, 750, .int 0), (75, .iconst 2, 1, 0, 0, 0, .int 2), (76, .idiv, 1, 0, 0, 0, .int 0), (77, .i2l, 1, 0, 0, 0, .int 0)]
set_option maxRecDepth 100000 in
theorem pg_X9_worst_0_k : pg_X9_worst_0.all (ds_okb mt_X9_worst.1.cls mt_X9_worst.2.1) = true := by decide +kernel
def pg_X9_worst_1 : List ds_I := [(78, .goto 10, 3, 0, 0, 0, .int 0), (81, .aload_n 0, 1, 0, 0, 0, .int 0), (82, .getfield 158, 3, 9, 21, 750, .int 0), (85, .iconst 2, 1, 0, 0, 0, .int 2), (86, .irem, 1, 0, 0, 0, .int 0), (87, .i2l, 1, 0, 0, 0, .int 0), (88, .lreturn, 1, 0, 0, 0, .int 0)]
set_option maxRecDepth 100000 in
theorem pg_X9_worst_1_k : pg_X9_worst_1.all (ds_okb mt_X9_worst.1.cls mt_X9_worst.2.1) = true := by decide +kernel
def pg_X9_worst : List ds_I := pg_X9_worst_0 ++ (pg_X9_worst_1)
theorem pg_X9_worst_k : pg_X9_worst.all (ds_okb mt_X9_worst.1.cls mt_X9_worst.2.1) = true := (ds_all_and pg_X9_worst_0_k pg_X9_worst_1_k)
theorem ok_X9_worst : ds_good mt_X9_worst pg_X9_worst := ds_good_of pg_X9_worst_k (by decide +kernel)
def mt_X9_guard : ds_M := (⟨"WayWeightsModel", "guard", "(Z)I"⟩, prog_11_method_31_code, 3, some .int, 0, 0)
def pg_X9_guard : List ds_I := [(0, .aload_n 0, 1, 0, 0, 0, .int 0), (1, .getfield 172, 3, 9, 9, 738, .int 0), (4, .ifCond .eq 7, 3, 0, 0, 0, .int 0), (7, .iconst 1, 1, 0, 0, 0, .int 1), (8, .goto 4, 3, 0, 0, 0, .int 0), (11, .iconst 0, 1, 0, 0, 0, .int 0), (12, .istore_n 2, 1, 0, 0, 0, .int 0), (13, .aload_n 0, 1, 0, 0, 0, .int 0), (14, .iload_n 1, 1, 0, 0, 0, .int 0), (15, .putfield 172, 3, 9, 9, 738, .int 0), (18, .aload_n 0, 1, 0, 0, 0, .int 0), (19, .iconst 0, 1, 0, 0, 0, .int 0), (20, .putfield 84, 3, 9, 10, 739, .int 0), (23, .iload_n 2, 1, 0, 0, 0, .int 0), (24, .ireturn, 1, 0, 0, 0, .int 0)]
set_option maxRecDepth 100000 in
theorem pg_X9_guard_k : pg_X9_guard.all (ds_okb mt_X9_guard.1.cls mt_X9_guard.2.1) = true := by decide +kernel
theorem ok_X9_guard : ds_good mt_X9_guard pg_X9_guard := ds_good_of pg_X9_guard_k (by decide +kernel)
def mt_X9_findAll : ds_M := (⟨"WayWeightsModel", "findAll", "()V"⟩, prog_11_method_32_code, 3, none, 7, 172)
def pg_X9_findAll_0 : List ds_I := [(0, .aload_n 0, 1, 0, 0, 0, .int 0), (1, .lconst 0, 1, 0, 0, 0, .long 0), (2, .putfield 175, 3, 9, 22, 751, .int 0), (5, .aload_n 0, 1, 0, 0, 0, .int 0), (6, .lconst 1, 1, 0, 0, 0, .long 1), (7, .putfield 178, 3, 9, 23, 752, .int 0), (10, .aload_n 0, 1, 0, 0, 0, .int 0), (11, .iconst 0, 1, 0, 0, 0, .int 0), (12, .putfield 181, 3, 9, 24, 753, .int 0), (15, .aload_n 0, 1, 0, 0, 0, .int 0), (16, .bipush (-6), 2, 0, 0, 0, .int (-6)), (18, .putfield 184, 3, 9, 25, 754, .int 0), (21, .iconst 0, 1, 0, 0, 0, .int 0), (22, .istore_n 1, 1, 0, 0, 0, .int 0), (23, .iload_n 1, 1, 0, 0, 0, .int 0), (24, .iconst 3, 1, 0, 0, 0, .int 3), (25, .if_icmp .ge 131, 3, 0, 0, 0, .int 0), (28, .iconst (-1), 1, 0, 0, 0, .int (-1)), (29, .istore_n 2, 1, 0, 0, 0, .int 0), (30, .iload_n 2, 1, 0, 0, 0, .int 0), (31, .aload_n 0, 1, 0, 0, 0, .int 0), (32, .getfield 172, 3, 9, 9, 738, .int 0), (35, .ifCond .eq 10, 3, 0, 0, 0, .int 0), (38, .aload_n 0, 1, 0, 0, 0, .int 0), (39, .getfield 77, 3, 9, 7, 736, .int 0), (42, .goto 4, 3, 0, 0, 0, .int 0), (45, .iconst 0, 1, 0, 0, 0, .int 0), (46, .if_icmp .ge 104, 3, 0, 0, 0, .int 0), (49, .iload_n 2, 1, 0, 0, 0, .int 0), (50, .ifCond .lt 12, 3, 0, 0, 0, .int 0), (53, .aload_n 0, 1, 0, 0, 0, .int 0), (54, .getfield 30, 3, 9, 6, 735, .int 0), (57, .iload_n 2, 1, 0, 0, 0, .int 0), (58, .baload, 1, 0, 0, 0, .int 0), (59, .ifCond .ne 85, 3, 0, 0, 0, .int 0), (62, .aload_n 0, 1, 0, 0, 0, .int 0), (63, .iload_n 2, 1, 0, 0, 0, .int 0), (64, .ifCond .ge 8, 3, 0, 0, 0, .int 0), (67, .bipush (-6), 2, 0, 0, 0, .int (-6)), (69, .goto 4, 3, 0, 0, 0, .int 0)]
set_option maxRecDepth 100000 in
theorem pg_X9_findAll_0_k : pg_X9_findAll_0.all (ds_okb mt_X9_findAll.1.cls mt_X9_findAll.2.1) = true := by decide +kernel
def pg_X9_findAll_1 : List ds_I := [(72, .iload_n 2, 1, 0, 0, 0, .int 0), (73, .putfield 42, 3, 9, 13, 742, .int 0), (76, .aload_n 0, 1, 0, 0, 0, .int 0), (77, .iload_n 1, 1, 0, 0, 0, .int 0), (78, .invokevirtual 167, 3, 0, 0, 938, .int 0), (81, .aload_n 0, 1, 0, 0, 0, .int 0), (82, .bipush (-6), 2, 0, 0, 0, .int (-6)), (84, .putfield 42, 3, 9, 13, 742, .int 0), (87, .aload_n 0, 1, 0, 0, 0, .int 0), (88, .getfield 152, 3, 9, 19, 748, .int 0), (91, .aload_n 0, 1, 0, 0, 0, .int 0), (92, .getfield 155, 3, 9, 20, 749, .int 0), (95, .aload_n 0, 1, 0, 0, 0, .int 0), (96, .getfield 175, 3, 9, 22, 751, .int 0), (99, .aload_n 0, 1, 0, 0, 0, .int 0), (100, .getfield 178, 3, 9, 23, 752, .int 0), (103, .invokestatic 161, 3, 0, 0, 942, .int 0), (106, .ifCond .eq 38, 3, 0, 0, 0, .int 0), (109, .aload_n 0, 1, 0, 0, 0, .int 0), (110, .aload_n 0, 1, 0, 0, 0, .int 0), (111, .getfield 152, 3, 9, 19, 748, .int 0), (114, .putfield 175, 3, 9, 22, 751, .int 0), (117, .aload_n 0, 1, 0, 0, 0, .int 0), (118, .aload_n 0, 1, 0, 0, 0, .int 0), (119, .getfield 155, 3, 9, 20, 749, .int 0), (122, .putfield 178, 3, 9, 23, 752, .int 0), (125, .aload_n 0, 1, 0, 0, 0, .int 0), (126, .iload_n 1, 1, 0, 0, 0, .int 0), (127, .putfield 181, 3, 9, 24, 753, .int 0), (130, .aload_n 0, 1, 0, 0, 0, .int 0), (131, .iload_n 2, 1, 0, 0, 0, .int 0), (132, .ifCond .ge 8, 3, 0, 0, 0, .int 0), (135, .bipush (-6), 2, 0, 0, 0, .int (-6)), (137, .goto 4, 3, 0, 0, 0, .int 0), (140, .iload_n 2, 1, 0, 0, 0, .int 0), (141, .putfield 184, 3, 9, 25, 754, .int 0), (144, .iinc 2 1, 3, 0, 0, 0, .int 1), (147, .goto (-117), 3, 0, 0, 0, .int 0), (150, .iinc 1 1, 3, 0, 0, 0, .int 1), (153, .goto (-130), 3, 0, 0, 0, .int 0)]
set_option maxRecDepth 100000 in
theorem pg_X9_findAll_1_k : pg_X9_findAll_1.all (ds_okb mt_X9_findAll.1.cls mt_X9_findAll.2.1) = true := by decide +kernel
def pg_X9_findAll_2 : List ds_I := [(156, .return_, 1, 0, 0, 0, .int 0)]
set_option maxRecDepth 100000 in
theorem pg_X9_findAll_2_k : pg_X9_findAll_2.all (ds_okb mt_X9_findAll.1.cls mt_X9_findAll.2.1) = true := by decide +kernel
def pg_X9_findAll : List ds_I := pg_X9_findAll_0 ++ (pg_X9_findAll_1 ++ (pg_X9_findAll_2))
theorem pg_X9_findAll_k : pg_X9_findAll.all (ds_okb mt_X9_findAll.1.cls mt_X9_findAll.2.1) = true := (ds_all_and pg_X9_findAll_0_k (ds_all_and pg_X9_findAll_1_k pg_X9_findAll_2_k))
theorem ok_X9_findAll : ds_good mt_X9_findAll pg_X9_findAll := ds_good_of pg_X9_findAll_k (by decide +kernel)
def mt_X9_all : ds_M := (⟨"WayWeightsModel", "all", "(I)J"⟩, prog_11_method_33_code, 2, some .long, 8, 194)
def pg_X9_all : List ds_I := [(0, .iload_n 1, 1, 0, 0, 0, .int 0), (1, .i2l, 1, 0, 0, 0, .int 0), (2, .lconst 0, 1, 0, 0, 0, .long 0), (3, .ldc2_w 165, 3, 0, 0, 937, .long 3), (6, .invokestatic 73, 3, 0, 0, 836, .int 0), (9, .ifCond .ne 7, 3, 0, 0, 0, .int 0), (12, .ldc2_w 140, 3, 0, 0, 907, .long (-1000000000000000002)), (15, .lreturn, 1, 0, 0, 0, .int 0), (16, .aload_n 0, 1, 0, 0, 0, .int 0), (17, .invokevirtual 187, 3, 0, 0, 954, .int 0), (20, .iload_n 1, 1, 0, 0, 0, .int 0), (21, .ifCond .ne 10, 3, 0, 0, 0, .int 0), (24, .aload_n 0, 1, 0, 0, 0, .int 0), (25, .getfield 175, 3, 9, 22, 751, .int 0), (28, .goto 33, 3, 0, 0, 0, .int 0), (31, .iload_n 1, 1, 0, 0, 0, .int 0), (32, .iconst 1, 1, 0, 0, 0, .int 1), (33, .if_icmp .ne 10, 3, 0, 0, 0, .int 0), (36, .aload_n 0, 1, 0, 0, 0, .int 0), (37, .getfield 178, 3, 9, 23, 752, .int 0), (40, .goto 21, 3, 0, 0, 0, .int 0), (43, .iload_n 1, 1, 0, 0, 0, .int 0), (44, .iconst 2, 1, 0, 0, 0, .int 2), (45, .if_icmp .ne 11, 3, 0, 0, 0, .int 0), (48, .aload_n 0, 1, 0, 0, 0, .int 0), (49, .getfield 181, 3, 9, 24, 753, .int 0), (52, .i2l, 1, 0, 0, 0, .int 0), (53, .goto 8, 3, 0, 0, 0, .int 0), (56, .aload_n 0, 1, 0, 0, 0, .int 0), (57, .getfield 184, 3, 9, 25, 754, .int 0), (60, .i2l, 1, 0, 0, 0, .int 0), (61, .lreturn, 1, 0, 0, 0, .int 0)]
set_option maxRecDepth 100000 in
theorem pg_X9_all_k : pg_X9_all.all (ds_okb mt_X9_all.1.cls mt_X9_all.2.1) = true := by decide +kernel
theorem ok_X9_all : ds_good mt_X9_all pg_X9_all := ds_good_of pg_X9_all_k (by decide +kernel)
def mt_X9_parted : ds_M := (⟨"WayWeightsModel", "parted", "(II)I"⟩, prog_11_method_34_code, 6, some .int, 2, 46)
def pg_X9_parted_0 : List ds_I := [(0, .iload_n 1, 1, 0, 0, 0, .int 0), (1, .invokestatic 99, 3, 0, 0, 869, .int 0), (4, .ifCond .eq 16, 3, 0, 0, 0, .int 0), (7, .iload_n 2, 1, 0, 0, 0, .int 0), (8, .iconst (-1), 1, 0, 0, 0, .int (-1)), (9, .if_icmp .eq 13, 3, 0, 0, 0, .int 0), (12, .aload_n 0, 1, 0, 0, 0, .int 0), (13, .iload_n 2, 1, 0, 0, 0, .int 0), (14, .invokevirtual 96, 3, 0, 0, 853, .int 0), (17, .ifCond .ne 5, 3, 0, 0, 0, .int 0), (20, .iconst (-1), 1, 0, 0, 0, .int (-1)), (21, .ireturn, 1, 0, 0, 0, .int 0), (22, .aload_n 0, 1, 0, 0, 0, .int 0), (23, .iload_n 2, 1, 0, 0, 0, .int 0), (24, .ifCond .ge 8, 3, 0, 0, 0, .int 0), (27, .bipush (-6), 2, 0, 0, 0, .int (-6)), (29, .goto 4, 3, 0, 0, 0, .int 0), (32, .iload_n 2, 1, 0, 0, 0, .int 0), (33, .putfield 42, 3, 9, 13, 742, .int 0), (36, .iconst 0, 1, 0, 0, 0, .int 0), (37, .istore_n 3, 1, 0, 0, 0, .int 0), (38, .iconst 0, 1, 0, 0, 0, .int 0), (39, .istore 4, 2, 0, 0, 0, .int 0), (41, .iload 4, 2, 0, 0, 0, .int 0), (43, .aload_n 0, 1, 0, 0, 0, .int 0), (44, .getfield 7, 3, 9, 0, 729, .int 0), (47, .if_icmp .ge 61, 3, 0, 0, 0, .int 0), (50, .aload_n 0, 1, 0, 0, 0, .int 0), (51, .iload 4, 2, 0, 0, 0, .int 0), (53, .invokevirtual 112, 3, 0, 0, 881, .int 0), (56, .iconst 0, 1, 0, 0, 0, .int 0), (57, .istore 5, 2, 0, 0, 0, .int 0), (59, .iload 5, 2, 0, 0, 0, .int 0), (61, .aload_n 0, 1, 0, 0, 0, .int 0), (62, .getfield 7, 3, 9, 0, 729, .int 0), (65, .if_icmp .ge 37, 3, 0, 0, 0, .int 0), (68, .iload_n 3, 1, 0, 0, 0, .int 0), (69, .aload_n 0, 1, 0, 0, 0, .int 0), (70, .getfield 39, 3, 9, 12, 741, .int 0), (73, .iload 5, 2, 0, 0, 0, .int 0)]
set_option maxRecDepth 100000 in
theorem pg_X9_parted_0_k : pg_X9_parted_0.all (ds_okb mt_X9_parted.1.cls mt_X9_parted.2.1) = true := by decide +kernel
def pg_X9_parted_1 : List ds_I := [(75, .iaload, 1, 0, 0, 0, .int 0), (76, .ldc 108, 2, 0, 0, 885, .int 1000000), (78, .if_icmp .ge 7, 3, 0, 0, 0, .int 0), (81, .iconst 0, 1, 0, 0, 0, .int 0), (82, .goto 12, 3, 0, 0, 0, .int 0), (85, .aload_n 0, 1, 0, 0, 0, .int 0), (86, .iload_n 1, 1, 0, 0, 0, .int 0), (87, .iload 5, 2, 0, 0, 0, .int 0), (89, .iload 4, 2, 0, 0, 0, .int 0), (91, .invokevirtual 104, 3, 0, 0, 873, .int 0), (94, .iadd, 1, 0, 0, 0, .int 0), (95, .istore_n 3, 1, 0, 0, 0, .int 0), (96, .iinc 5 1, 3, 0, 0, 0, .int 1), (99, .goto (-40), 3, 0, 0, 0, .int 0), (102, .iinc 4 1, 3, 0, 0, 0, .int 1), (105, .goto (-64), 3, 0, 0, 0, .int 0), (108, .aload_n 0, 1, 0, 0, 0, .int 0), (109, .bipush (-6), 2, 0, 0, 0, .int (-6)), (111, .putfield 42, 3, 9, 13, 742, .int 0), (114, .iload_n 3, 1, 0, 0, 0, .int 0), (115, .ireturn, 1, 0, 0, 0, .int 0)]
set_option maxRecDepth 100000 in
theorem pg_X9_parted_1_k : pg_X9_parted_1.all (ds_okb mt_X9_parted.1.cls mt_X9_parted.2.1) = true := by decide +kernel
def pg_X9_parted : List ds_I := pg_X9_parted_0 ++ (pg_X9_parted_1)
theorem pg_X9_parted_k : pg_X9_parted.all (ds_okb mt_X9_parted.1.cls mt_X9_parted.2.1) = true := (ds_all_and pg_X9_parted_0_k pg_X9_parted_1_k)
theorem ok_X9_parted : ds_good mt_X9_parted pg_X9_parted := ds_good_of pg_X9_parted_k (by decide +kernel)
def mt_X9_who : ds_M := (⟨"WayWeightsModel", "who", "(III)I"⟩, prog_11_method_35_code, 15, some .int, 6, 145)
def pg_X9_who_0 : List ds_I := [(0, .iload_n 1, 1, 0, 0, 0, .int 0), (1, .invokestatic 99, 3, 0, 0, 869, .int 0), (4, .ifCond .eq 11, 3, 0, 0, 0, .int 0), (7, .aload_n 0, 1, 0, 0, 0, .int 0), (8, .iload_n 2, 1, 0, 0, 0, .int 0), (9, .invokevirtual 96, 3, 0, 0, 853, .int 0), (12, .ifCond .ne 5, 3, 0, 0, 0, .int 0), (15, .iconst (-1), 1, 0, 0, 0, .int (-1)), (16, .ireturn, 1, 0, 0, 0, .int 0), (17, .iload_n 3, 1, 0, 0, 0, .int 0), (18, .i2l, 1, 0, 0, 0, .int 0), (19, .lconst 0, 1, 0, 0, 0, .long 0), (20, .lconst 1, 1, 0, 0, 0, .long 1), (21, .invokestatic 73, 3, 0, 0, 836, .int 0), (24, .ifCond .ne 6, 3, 0, 0, 0, .int 0), (27, .bipush (-2), 2, 0, 0, 0, .int (-2)), (29, .ireturn, 1, 0, 0, 0, .int 0), (30, .bipush (-6), 2, 0, 0, 0, .int (-6)), (32, .istore 4, 2, 0, 0, 0, .int 0), (34, .lconst 0, 1, 0, 0, 0, .long 0), (35, .lstore 5, 2, 0, 0, 0, .int 0), (37, .lconst 1, 1, 0, 0, 0, .long 1), (38, .lstore 7, 2, 0, 0, 0, .int 0), (40, .iconst 0, 1, 0, 0, 0, .int 0), (41, .istore 9, 2, 0, 0, 0, .int 0), (43, .iload 9, 2, 0, 0, 0, .int 0), (45, .aload_n 0, 1, 0, 0, 0, .int 0), (46, .getfield 7, 3, 9, 0, 729, .int 0), (49, .if_icmp .ge 115, 3, 0, 0, 0, .int 0), (52, .iconst 0, 1, 0, 0, 0, .int 0), (53, .istore 10, 2, 0, 0, 0, .int 0), (55, .iload 10, 2, 0, 0, 0, .int 0), (57, .aload_n 0, 1, 0, 0, 0, .int 0), (58, .getfield 7, 3, 9, 0, 729, .int 0), (61, .if_icmp .ge 97, 3, 0, 0, 0, .int 0), (64, .iload 9, 2, 0, 0, 0, .int 0), (66, .iload 10, 2, 0, 0, 0, .int 0), (68, .if_icmp .eq 84, 3, 0, 0, 0, .int 0), (71, .aload_n 0, 1, 0, 0, 0, .int 0), (72, .iload_n 1, 1, 0, 0, 0, .int 0)]
set_option maxRecDepth 100000 in
theorem pg_X9_who_0_k : pg_X9_who_0.all (ds_okb mt_X9_who.1.cls mt_X9_who.2.1) = true := by decide +kernel
def pg_X9_who_1 : List ds_I := [(73, .iload 9, 2, 0, 0, 0, .int 0), (75, .iload 10, 2, 0, 0, 0, .int 0), (77, .invokevirtual 104, 3, 0, 0, 873, .int 0), (80, .ifCond .le 72, 3, 0, 0, 0, .int 0), (83, .aload_n 0, 1, 0, 0, 0, .int 0), (84, .iload_n 1, 1, 0, 0, 0, .int 0), (85, .iload 9, 2, 0, 0, 0, .int 0), (87, .iload 10, 2, 0, 0, 0, .int 0), (89, .invokevirtual 104, 3, 0, 0, 873, .int 0), (92, .i2l, 1, 0, 0, 0, .int 0), (93, .aload_n 0, 1, 0, 0, 0, .int 0), (94, .iload 9, 2, 0, 0, 0, .int 0), (96, .iload 10, 2, 0, 0, 0, .int 0), (98, .iload_n 2, 1, 0, 0, 0, .int 0), (99, .iload_n 3, 1, 0, 0, 0, .int 0), (100, .iconst 0, 1, 0, 0, 0, .int 0), (101, .invokevirtual 190, 3, 0, 0, 966, .int 0), (104, .lmul, 1, 0, 0, 0, .int 0), (105, .lstore 11, 2, 0, 0, 0, .int 0), (107, .aload_n 0, 1, 0, 0, 0, .int 0), (108, .iload 9, 2, 0, 0, 0, .int 0), (110, .iload 10, 2, 0, 0, 0, .int 0), (112, .iload_n 2, 1, 0, 0, 0, .int 0), (113, .iload_n 3, 1, 0, 0, 0, .int 0), (114, .iconst 1, 1, 0, 0, 0, .int 1), (115, .invokevirtual 190, 3, 0, 0, 966, .int 0), (118, .lstore 13, 2, 0, 0, 0, .int 0), (120, .lload 11, 2, 0, 0, 0, .int 0), (122, .lload 7, 2, 0, 0, 0, .int 0), (124, .lmul, 1, 0, 0, 0, .int 0), (125, .lload 5, 2, 0, 0, 0, .int 0), (127, .lload 13, 2, 0, 0, 0, .int 0), (129, .lmul, 1, 0, 0, 0, .int 0), (130, .lcmp, 1, 0, 0, 0, .int 0), (131, .ifCond .le 21, 3, 0, 0, 0, .int 0), (134, .bipush 10, 2, 0, 0, 0, .int 10), (136, .iload 9, 2, 0, 0, 0, .int 0), (138, .imul, 1, 0, 0, 0, .int 0), (139, .iload 10, 2, 0, 0, 0, .int 0), (141, .iadd, 1, 0, 0, 0, .int 0)]
set_option maxRecDepth 100000 in
theorem pg_X9_who_1_k : pg_X9_who_1.all (ds_okb mt_X9_who.1.cls mt_X9_who.2.1) = true := by decide +kernel
def pg_X9_who_2 : List ds_I := [(142, .istore 4, 2, 0, 0, 0, .int 0), (144, .lload 11, 2, 0, 0, 0, .int 0), (146, .lstore 5, 2, 0, 0, 0, .int 0), (148, .lload 13, 2, 0, 0, 0, .int 0), (150, .lstore 7, 2, 0, 0, 0, .int 0), (152, .iinc 10 1, 3, 0, 0, 0, .int 1), (155, .goto (-100), 3, 0, 0, 0, .int 0), (158, .iinc 9 1, 3, 0, 0, 0, .int 1), (161, .goto (-118), 3, 0, 0, 0, .int 0), (164, .iload 4, 2, 0, 0, 0, .int 0), (166, .ireturn, 1, 0, 0, 0, .int 0)]
set_option maxRecDepth 100000 in
theorem pg_X9_who_2_k : pg_X9_who_2.all (ds_okb mt_X9_who.1.cls mt_X9_who.2.1) = true := by decide +kernel
def pg_X9_who : List ds_I := pg_X9_who_0 ++ (pg_X9_who_1 ++ (pg_X9_who_2))
theorem pg_X9_who_k : pg_X9_who.all (ds_okb mt_X9_who.1.cls mt_X9_who.2.1) = true := (ds_all_and pg_X9_who_0_k (ds_all_and pg_X9_who_1_k pg_X9_who_2_k))
theorem ok_X9_who : ds_good mt_X9_who pg_X9_who := ds_good_of pg_X9_who_k (by decide +kernel)
def mt_X9_isLesserRow : ds_M := (⟨"WayWeightsModel", "isLesserRow", "()Z"⟩, prog_11_method_36_code, 2, some .boolean, 0, 0)
def pg_X9_isLesserRow : List ds_I := [(0, .iconst 0, 1, 0, 0, 0, .int 0), (1, .istore_n 1, 1, 0, 0, 0, .int 0), (2, .iload_n 1, 1, 0, 0, 0, .int 0), (3, .aload_n 0, 1, 0, 0, 0, .int 0), (4, .getfield 77, 3, 9, 7, 736, .int 0), (7, .if_icmp .ge 45, 3, 0, 0, 0, .int 0), (10, .aload_n 0, 1, 0, 0, 0, .int 0), (11, .getfield 23, 3, 9, 4, 733, .int 0), (14, .iload_n 1, 1, 0, 0, 0, .int 0), (15, .iaload, 1, 0, 0, 0, .int 0), (16, .aload_n 0, 1, 0, 0, 0, .int 0), (17, .getfield 36, 3, 9, 11, 740, .int 0), (20, .iload_n 1, 1, 0, 0, 0, .int 0), (21, .iaload, 1, 0, 0, 0, .int 0), (22, .if_icmp .eq 24, 3, 0, 0, 0, .int 0), (25, .aload_n 0, 1, 0, 0, 0, .int 0), (26, .getfield 23, 3, 9, 4, 733, .int 0), (29, .iload_n 1, 1, 0, 0, 0, .int 0), (30, .iaload, 1, 0, 0, 0, .int 0), (31, .aload_n 0, 1, 0, 0, 0, .int 0), (32, .getfield 36, 3, 9, 11, 740, .int 0), (35, .iload_n 1, 1, 0, 0, 0, .int 0), (36, .iaload, 1, 0, 0, 0, .int 0), (37, .if_icmp .ge 7, 3, 0, 0, 0, .int 0), (40, .iconst 1, 1, 0, 0, 0, .int 1), (41, .goto 4, 3, 0, 0, 0, .int 0), (44, .iconst 0, 1, 0, 0, 0, .int 0), (45, .ireturn, 1, 0, 0, 0, .int 0), (46, .iinc 1 1, 3, 0, 0, 0, .int 1), (49, .goto (-47), 3, 0, 0, 0, .int 0), (52, .iconst 0, 1, 0, 0, 0, .int 0), (53, .ireturn, 1, 0, 0, 0, .int 0)]
set_option maxRecDepth 100000 in
theorem pg_X9_isLesserRow_k : pg_X9_isLesserRow.all (ds_okb mt_X9_isLesserRow.1.cls mt_X9_isLesserRow.2.1) = true := by decide +kernel
theorem ok_X9_isLesserRow : ds_good mt_X9_isLesserRow pg_X9_isLesserRow := ds_good_of pg_X9_isLesserRow_k (by decide +kernel)
def mt_X9_changes : ds_M := (⟨"WayWeightsModel", "changes", "()I"⟩, prog_11_method_37_code, 3, some .int, 0, 0)
def pg_X9_changes : List ds_I := [(0, .iconst 0, 1, 0, 0, 0, .int 0), (1, .istore_n 1, 1, 0, 0, 0, .int 0), (2, .iconst 0, 1, 0, 0, 0, .int 0), (3, .istore_n 2, 1, 0, 0, 0, .int 0), (4, .iload_n 2, 1, 0, 0, 0, .int 0), (5, .aload_n 0, 1, 0, 0, 0, .int 0), (6, .getfield 77, 3, 9, 7, 736, .int 0), (9, .if_icmp .ge 32, 3, 0, 0, 0, .int 0), (12, .iload_n 1, 1, 0, 0, 0, .int 0), (13, .aload_n 0, 1, 0, 0, 0, .int 0), (14, .getfield 23, 3, 9, 4, 733, .int 0), (17, .iload_n 2, 1, 0, 0, 0, .int 0), (18, .iaload, 1, 0, 0, 0, .int 0), (19, .aload_n 0, 1, 0, 0, 0, .int 0), (20, .getfield 58, 3, 9, 26, 755, .int 0), (23, .iload_n 2, 1, 0, 0, 0, .int 0), (24, .iaload, 1, 0, 0, 0, .int 0), (25, .if_icmp .ne 7, 3, 0, 0, 0, .int 0), (28, .iconst 0, 1, 0, 0, 0, .int 0), (29, .goto 4, 3, 0, 0, 0, .int 0), (32, .iconst 1, 1, 0, 0, 0, .int 1), (33, .iadd, 1, 0, 0, 0, .int 0), (34, .istore_n 1, 1, 0, 0, 0, .int 0), (35, .iinc 2 1, 3, 0, 0, 0, .int 1), (38, .goto (-34), 3, 0, 0, 0, .int 0), (41, .iload_n 1, 1, 0, 0, 0, .int 0), (42, .ireturn, 1, 0, 0, 0, .int 0)]
set_option maxRecDepth 100000 in
theorem pg_X9_changes_k : pg_X9_changes.all (ds_okb mt_X9_changes.1.cls mt_X9_changes.2.1) = true := by decide +kernel
theorem ok_X9_changes : ds_good mt_X9_changes pg_X9_changes := ds_good_of pg_X9_changes_k (by decide +kernel)
def mt_X9_seek : ds_M := (⟨"WayWeightsModel", "seek", "(II)I"⟩, prog_11_method_38_code, 12, some .int, 8, 194)
def pg_X9_seek_0 : List ds_I := [(0, .iload_n 1, 1, 0, 0, 0, .int 0), (1, .i2l, 1, 0, 0, 0, .int 0), (2, .lconst 1, 1, 0, 0, 0, .long 1), (3, .ldc2_w 80, 3, 0, 0, 834, .long 2), (6, .invokestatic 73, 3, 0, 0, 836, .int 0), (9, .ifCond .eq 15, 3, 0, 0, 0, .int 0), (12, .iload_n 2, 1, 0, 0, 0, .int 0), (13, .i2l, 1, 0, 0, 0, .int 0), (14, .lconst 0, 1, 0, 0, 0, .long 0), (15, .ldc2_w 194, 3, 0, 0, 971, .long 10), (18, .invokestatic 73, 3, 0, 0, 836, .int 0), (21, .ifCond .ne 6, 3, 0, 0, 0, .int 0), (24, .bipush (-2), 2, 0, 0, 0, .int (-2)), (26, .ireturn, 1, 0, 0, 0, .int 0), (27, .iconst 0, 1, 0, 0, 0, .int 0), (28, .istore_n 3, 1, 0, 0, 0, .int 0), (29, .iconst 0, 1, 0, 0, 0, .int 0), (30, .istore 4, 2, 0, 0, 0, .int 0), (32, .iload 4, 2, 0, 0, 0, .int 0), (34, .aload_n 0, 1, 0, 0, 0, .int 0), (35, .getfield 77, 3, 9, 7, 736, .int 0), (38, .if_icmp .ge 59, 3, 0, 0, 0, .int 0), (41, .aload_n 0, 1, 0, 0, 0, .int 0), (42, .getfield 58, 3, 9, 26, 755, .int 0), (45, .iload 4, 2, 0, 0, 0, .int 0), (47, .aload_n 0, 1, 0, 0, 0, .int 0), (48, .getfield 23, 3, 9, 4, 733, .int 0), (51, .iload 4, 2, 0, 0, 0, .int 0), (53, .iaload, 1, 0, 0, 0, .int 0), (54, .iastore, 1, 0, 0, 0, .int 0), (55, .iload_n 3, 1, 0, 0, 0, .int 0), (56, .iconst 5, 1, 0, 0, 0, .int 5), (57, .if_icmp .ge 34, 3, 0, 0, 0, .int 0), (60, .aload_n 0, 1, 0, 0, 0, .int 0), (61, .getfield 26, 3, 9, 5, 734, .int 0), (64, .iload 4, 2, 0, 0, 0, .int 0), (66, .baload, 1, 0, 0, 0, .int 0), (67, .ifCond .ne 24, 3, 0, 0, 0, .int 0), (70, .aload_n 0, 1, 0, 0, 0, .int 0), (71, .getfield 30, 3, 9, 6, 735, .int 0)]
set_option maxRecDepth 100000 in
theorem pg_X9_seek_0_k : pg_X9_seek_0.all (ds_okb mt_X9_seek.1.cls mt_X9_seek.2.1) = true := by decide +kernel
def pg_X9_seek_1 : List ds_I := [(74, .iload 4, 2, 0, 0, 0, .int 0), (76, .baload, 1, 0, 0, 0, .int 0), (77, .ifCond .ne 14, 3, 0, 0, 0, .int 0), (80, .aload_n 0, 1, 0, 0, 0, .int 0), (81, .getfield 61, 3, 9, 27, 756, .int 0), (84, .iload_n 3, 1, 0, 0, 0, .int 0), (85, .iload 4, 2, 0, 0, 0, .int 0), (87, .iastore, 1, 0, 0, 0, .int 0), (88, .iinc 3 1, 3, 0, 0, 0, .int 1), (91, .iinc 4 1, 3, 0, 0, 0, .int 1), (94, .goto (-62), 3, 0, 0, 0, .int 0), (97, .iconst 1, 1, 0, 0, 0, .int 1), (98, .istore 4, 2, 0, 0, 0, .int 0), (100, .iconst 0, 1, 0, 0, 0, .int 0), (101, .istore 5, 2, 0, 0, 0, .int 0), (103, .iload 5, 2, 0, 0, 0, .int 0), (105, .iload_n 3, 1, 0, 0, 0, .int 0), (106, .if_icmp .ge 17, 3, 0, 0, 0, .int 0), (109, .iload 4, 2, 0, 0, 0, .int 0), (111, .iload_n 1, 1, 0, 0, 0, .int 0), (112, .iconst 1, 1, 0, 0, 0, .int 1), (113, .iadd, 1, 0, 0, 0, .int 0), (114, .imul, 1, 0, 0, 0, .int 0), (115, .istore 4, 2, 0, 0, 0, .int 0), (117, .iinc 5 1, 3, 0, 0, 0, .int 1), (120, .goto (-17), 3, 0, 0, 0, .int 0), (123, .iconst (-1), 1, 0, 0, 0, .int (-1)), (124, .istore 5, 2, 0, 0, 0, .int 0), (126, .iconst 0, 1, 0, 0, 0, .int 0), (127, .istore 6, 2, 0, 0, 0, .int 0), (129, .iload 6, 2, 0, 0, 0, .int 0), (131, .iload 4, 2, 0, 0, 0, .int 0), (133, .if_icmp .ge 247, 3, 0, 0, 0, .int 0), (136, .iload 6, 2, 0, 0, 0, .int 0), (138, .istore 7, 2, 0, 0, 0, .int 0), (140, .iconst 0, 1, 0, 0, 0, .int 0), (141, .istore 8, 2, 0, 0, 0, .int 0), (143, .iload 8, 2, 0, 0, 0, .int 0), (145, .iload_n 3, 1, 0, 0, 0, .int 0), (146, .if_icmp .ge 59, 3, 0, 0, 0, .int 0)]
set_option maxRecDepth 100000 in
theorem pg_X9_seek_1_k : pg_X9_seek_1.all (ds_okb mt_X9_seek.1.cls mt_X9_seek.2.1) = true := by decide +kernel
def pg_X9_seek_2 : List ds_I := [(149, .iload 7, 2, 0, 0, 0, .int 0), (151, .iload_n 1, 1, 0, 0, 0, .int 0), (152, .iconst 1, 1, 0, 0, 0, .int 1), (153, .iadd, 1, 0, 0, 0, .int 0), (154, .irem, 1, 0, 0, 0, .int 0), (155, .istore 9, 2, 0, 0, 0, .int 0), (157, .aload_n 0, 1, 0, 0, 0, .int 0), (158, .getfield 23, 3, 9, 4, 733, .int 0), (161, .aload_n 0, 1, 0, 0, 0, .int 0), (162, .getfield 61, 3, 9, 27, 756, .int 0), (165, .iload 8, 2, 0, 0, 0, .int 0), (167, .iaload, 1, 0, 0, 0, .int 0), (168, .iload 9, 2, 0, 0, 0, .int 0), (170, .ifCond .ne 18, 3, 0, 0, 0, .int 0), (173, .aload_n 0, 1, 0, 0, 0, .int 0), (174, .getfield 58, 3, 9, 26, 755, .int 0), (177, .aload_n 0, 1, 0, 0, 0, .int 0), (178, .getfield 61, 3, 9, 27, 756, .int 0), (181, .iload 8, 2, 0, 0, 0, .int 0), (183, .iaload, 1, 0, 0, 0, .int 0), (184, .iaload, 1, 0, 0, 0, .int 0), (185, .goto 5, 3, 0, 0, 0, .int 0), (188, .iload 9, 2, 0, 0, 0, .int 0), (190, .iastore, 1, 0, 0, 0, .int 0), (191, .iload 7, 2, 0, 0, 0, .int 0), (193, .iload_n 1, 1, 0, 0, 0, .int 0), (194, .iconst 1, 1, 0, 0, 0, .int 1), (195, .iadd, 1, 0, 0, 0, .int 0), (196, .idiv, 1, 0, 0, 0, .int 0), (197, .istore 7, 2, 0, 0, 0, .int 0), (199, .iinc 8 1, 3, 0, 0, 0, .int 1), (202, .goto (-59), 3, 0, 0, 0, .int 0), (205, .aload_n 0, 1, 0, 0, 0, .int 0), (206, .invokevirtual 196, 3, 0, 0, 972, .int 0), (209, .istore 8, 2, 0, 0, 0, .int 0), (211, .iload 8, 2, 0, 0, 0, .int 0), (213, .iload_n 2, 1, 0, 0, 0, .int 0), (214, .if_icmp .gt 160, 3, 0, 0, 0, .int 0), (217, .aload_n 0, 1, 0, 0, 0, .int 0), (218, .invokevirtual 187, 3, 0, 0, 954, .int 0)]
set_option maxRecDepth 100000 in
theorem pg_X9_seek_2_k : pg_X9_seek_2.all (ds_okb mt_X9_seek.1.cls mt_X9_seek.2.1) = true := by decide +kernel
def pg_X9_seek_3 : List ds_I := [(221, .iload 5, 2, 0, 0, 0, .int 0), (223, .ifCond .lt 25, 3, 0, 0, 0, .int 0), (226, .aload_n 0, 1, 0, 0, 0, .int 0), (227, .getfield 200, 3, 9, 28, 757, .int 0), (230, .aload_n 0, 1, 0, 0, 0, .int 0), (231, .getfield 203, 3, 9, 29, 758, .int 0), (234, .aload_n 0, 1, 0, 0, 0, .int 0), (235, .getfield 175, 3, 9, 22, 751, .int 0), (238, .aload_n 0, 1, 0, 0, 0, .int 0), (239, .getfield 178, 3, 9, 23, 752, .int 0), (242, .invokestatic 161, 3, 0, 0, 942, .int 0), (245, .ifCond .eq 7, 3, 0, 0, 0, .int 0), (248, .iconst 1, 1, 0, 0, 0, .int 1), (249, .goto 4, 3, 0, 0, 0, .int 0), (252, .iconst 0, 1, 0, 0, 0, .int 0), (253, .istore 9, 2, 0, 0, 0, .int 0), (255, .iload 5, 2, 0, 0, 0, .int 0), (257, .ifCond .lt 31, 3, 0, 0, 0, .int 0), (260, .aload_n 0, 1, 0, 0, 0, .int 0), (261, .getfield 175, 3, 9, 22, 751, .int 0), (264, .aload_n 0, 1, 0, 0, 0, .int 0), (265, .getfield 200, 3, 9, 28, 757, .int 0), (268, .lcmp, 1, 0, 0, 0, .int 0), (269, .ifCond .ne 19, 3, 0, 0, 0, .int 0), (272, .aload_n 0, 1, 0, 0, 0, .int 0), (273, .getfield 178, 3, 9, 23, 752, .int 0), (276, .aload_n 0, 1, 0, 0, 0, .int 0), (277, .getfield 203, 3, 9, 29, 758, .int 0), (280, .lcmp, 1, 0, 0, 0, .int 0), (281, .ifCond .ne 7, 3, 0, 0, 0, .int 0), (284, .iconst 1, 1, 0, 0, 0, .int 1), (285, .goto 4, 3, 0, 0, 0, .int 0), (288, .iconst 0, 1, 0, 0, 0, .int 0), (289, .istore 10, 2, 0, 0, 0, .int 0), (291, .iload 9, 2, 0, 0, 0, .int 0), (293, .ifCond .ne 29, 3, 0, 0, 0, .int 0), (296, .iload 10, 2, 0, 0, 0, .int 0), (298, .ifCond .eq 76, 3, 0, 0, 0, .int 0), (301, .iload 8, 2, 0, 0, 0, .int 0), (303, .iload 5, 2, 0, 0, 0, .int 0)]
set_option maxRecDepth 100000 in
theorem pg_X9_seek_3_k : pg_X9_seek_3.all (ds_okb mt_X9_seek.1.cls mt_X9_seek.2.1) = true := by decide +kernel
def pg_X9_seek_4 : List ds_I := [(305, .if_icmp .lt 17, 3, 0, 0, 0, .int 0), (308, .iload 8, 2, 0, 0, 0, .int 0), (310, .iload 5, 2, 0, 0, 0, .int 0), (312, .if_icmp .ne 62, 3, 0, 0, 0, .int 0), (315, .aload_n 0, 1, 0, 0, 0, .int 0), (316, .invokevirtual 206, 3, 0, 0, 976, .int 0), (319, .ifCond .eq 55, 3, 0, 0, 0, .int 0), (322, .iload 8, 2, 0, 0, 0, .int 0), (324, .istore 5, 2, 0, 0, 0, .int 0), (326, .aload_n 0, 1, 0, 0, 0, .int 0), (327, .aload_n 0, 1, 0, 0, 0, .int 0), (328, .getfield 175, 3, 9, 22, 751, .int 0), (331, .putfield 200, 3, 9, 28, 757, .int 0), (334, .aload_n 0, 1, 0, 0, 0, .int 0), (335, .aload_n 0, 1, 0, 0, 0, .int 0), (336, .getfield 178, 3, 9, 23, 752, .int 0), (339, .putfield 203, 3, 9, 29, 758, .int 0), (342, .iconst 0, 1, 0, 0, 0, .int 0), (343, .istore 11, 2, 0, 0, 0, .int 0), (345, .iload 11, 2, 0, 0, 0, .int 0), (347, .aload_n 0, 1, 0, 0, 0, .int 0), (348, .getfield 77, 3, 9, 7, 736, .int 0), (351, .if_icmp .ge 23, 3, 0, 0, 0, .int 0), (354, .aload_n 0, 1, 0, 0, 0, .int 0), (355, .getfield 36, 3, 9, 11, 740, .int 0), (358, .iload 11, 2, 0, 0, 0, .int 0), (360, .aload_n 0, 1, 0, 0, 0, .int 0), (361, .getfield 23, 3, 9, 4, 733, .int 0), (364, .iload 11, 2, 0, 0, 0, .int 0), (366, .iaload, 1, 0, 0, 0, .int 0), (367, .iastore, 1, 0, 0, 0, .int 0), (368, .iinc 11 1, 3, 0, 0, 0, .int 1), (371, .goto (-26), 3, 0, 0, 0, .int 0), (374, .iinc 6 1, 3, 0, 0, 0, .int 1), (377, .goto (-248), 3, 0, 0, 0, .int 0), (380, .iconst 0, 1, 0, 0, 0, .int 0), (381, .istore 6, 2, 0, 0, 0, .int 0), (383, .iload 6, 2, 0, 0, 0, .int 0), (385, .aload_n 0, 1, 0, 0, 0, .int 0), (386, .getfield 77, 3, 9, 7, 736, .int 0)]
set_option maxRecDepth 100000 in
theorem pg_X9_seek_4_k : pg_X9_seek_4.all (ds_okb mt_X9_seek.1.cls mt_X9_seek.2.1) = true := by decide +kernel
def pg_X9_seek_5 : List ds_I := [(389, .if_icmp .ge 23, 3, 0, 0, 0, .int 0), (392, .aload_n 0, 1, 0, 0, 0, .int 0), (393, .getfield 23, 3, 9, 4, 733, .int 0), (396, .iload 6, 2, 0, 0, 0, .int 0), (398, .aload_n 0, 1, 0, 0, 0, .int 0), (399, .getfield 58, 3, 9, 26, 755, .int 0), (402, .iload 6, 2, 0, 0, 0, .int 0), (404, .iaload, 1, 0, 0, 0, .int 0), (405, .iastore, 1, 0, 0, 0, .int 0), (406, .iinc 6 1, 3, 0, 0, 0, .int 1), (409, .goto (-26), 3, 0, 0, 0, .int 0), (412, .aload_n 0, 1, 0, 0, 0, .int 0), (413, .iconst 1, 1, 0, 0, 0, .int 1), (414, .putfield 84, 3, 9, 10, 739, .int 0), (417, .iload 5, 2, 0, 0, 0, .int 0), (419, .ireturn, 1, 0, 0, 0, .int 0)]
set_option maxRecDepth 100000 in
theorem pg_X9_seek_5_k : pg_X9_seek_5.all (ds_okb mt_X9_seek.1.cls mt_X9_seek.2.1) = true := by decide +kernel
def pg_X9_seek : List ds_I := pg_X9_seek_0 ++ (pg_X9_seek_1 ++ (pg_X9_seek_2 ++ (pg_X9_seek_3 ++ (pg_X9_seek_4 ++ (pg_X9_seek_5)))))
theorem pg_X9_seek_k : pg_X9_seek.all (ds_okb mt_X9_seek.1.cls mt_X9_seek.2.1) = true := (ds_all_and pg_X9_seek_0_k (ds_all_and pg_X9_seek_1_k (ds_all_and pg_X9_seek_2_k (ds_all_and pg_X9_seek_3_k (ds_all_and pg_X9_seek_4_k pg_X9_seek_5_k)))))
theorem ok_X9_seek : ds_good mt_X9_seek pg_X9_seek := ds_good_of pg_X9_seek_k (by decide +kernel)
def mt_X9_sought : ds_M := (⟨"WayWeightsModel", "sought", "(I)I"⟩, prog_11_method_39_code, 2, some .int, 2, 46)
def pg_X9_sought : List ds_I := [(0, .aload_n 0, 1, 0, 0, 0, .int 0), (1, .getfield 84, 3, 9, 10, 739, .int 0), (4, .ifCond .ne 8, 3, 0, 0, 0, .int 0), (7, .bipush (-3), 2, 0, 0, 0, .int (-3)), (9, .goto 21, 3, 0, 0, 0, .int 0), (12, .aload_n 0, 1, 0, 0, 0, .int 0), (13, .iload_n 1, 1, 0, 0, 0, .int 0), (14, .invokevirtual 96, 3, 0, 0, 853, .int 0), (17, .ifCond .ne 7, 3, 0, 0, 0, .int 0), (20, .iconst (-1), 1, 0, 0, 0, .int (-1)), (21, .goto 9, 3, 0, 0, 0, .int 0), (24, .aload_n 0, 1, 0, 0, 0, .int 0), (25, .getfield 36, 3, 9, 11, 740, .int 0), (28, .iload_n 1, 1, 0, 0, 0, .int 0), (29, .iaload, 1, 0, 0, 0, .int 0), (30, .ireturn, 1, 0, 0, 0, .int 0)]
set_option maxRecDepth 100000 in
theorem pg_X9_sought_k : pg_X9_sought.all (ds_okb mt_X9_sought.1.cls mt_X9_sought.2.1) = true := by decide +kernel
theorem ok_X9_sought : ds_good mt_X9_sought pg_X9_sought := ds_good_of pg_X9_sought_k (by decide +kernel)
def mt_X9_better : ds_M := (⟨"WayWeightsModel", "better", "(I)J"⟩, prog_11_method_40_code, 2, some .long, 0, 0)
def pg_X9_better : List ds_I := [(0, .aload_n 0, 1, 0, 0, 0, .int 0), (1, .getfield 84, 3, 9, 10, 739, .int 0), (4, .ifCond .ne 7, 3, 0, 0, 0, .int 0), (7, .ldc2_w 210, 3, 0, 0, 988, .long (-1000000000000000003)), (10, .lreturn, 1, 0, 0, 0, .int 0), (11, .iload_n 1, 1, 0, 0, 0, .int 0), (12, .ifCond .ne 10, 3, 0, 0, 0, .int 0), (15, .aload_n 0, 1, 0, 0, 0, .int 0), (16, .getfield 200, 3, 9, 28, 757, .int 0), (19, .goto 18, 3, 0, 0, 0, .int 0), (22, .iload_n 1, 1, 0, 0, 0, .int 0), (23, .iconst 1, 1, 0, 0, 0, .int 1), (24, .if_icmp .ne 10, 3, 0, 0, 0, .int 0), (27, .aload_n 0, 1, 0, 0, 0, .int 0), (28, .getfield 203, 3, 9, 29, 758, .int 0), (31, .goto 6, 3, 0, 0, 0, .int 0), (34, .ldc2_w 140, 3, 0, 0, 907, .long (-1000000000000000002)), (37, .lreturn, 1, 0, 0, 0, .int 0)]
set_option maxRecDepth 100000 in
theorem pg_X9_better_k : pg_X9_better.all (ds_okb mt_X9_better.1.cls mt_X9_better.2.1) = true := by decide +kernel
theorem ok_X9_better : ds_good mt_X9_better pg_X9_better := ds_good_of pg_X9_better_k (by decide +kernel)
def mt_X9_take : ds_M := (⟨"WayWeightsModel", "take", "()I"⟩, prog_11_method_41_code, 3, some .int, 0, 0)
def pg_X9_take_0 : List ds_I := [(0, .aload_n 0, 1, 0, 0, 0, .int 0), (1, .getfield 84, 3, 9, 10, 739, .int 0), (4, .ifCond .ne 6, 3, 0, 0, 0, .int 0), (7, .bipush (-3), 2, 0, 0, 0, .int (-3)), (9, .ireturn, 1, 0, 0, 0, .int 0), (10, .iconst 0, 1, 0, 0, 0, .int 0), (11, .istore_n 1, 1, 0, 0, 0, .int 0), (12, .iconst 0, 1, 0, 0, 0, .int 0), (13, .istore_n 2, 1, 0, 0, 0, .int 0), (14, .iload_n 2, 1, 0, 0, 0, .int 0), (15, .aload_n 0, 1, 0, 0, 0, .int 0), (16, .getfield 77, 3, 9, 7, 736, .int 0), (19, .if_icmp .ge 44, 3, 0, 0, 0, .int 0), (22, .iload_n 1, 1, 0, 0, 0, .int 0), (23, .aload_n 0, 1, 0, 0, 0, .int 0), (24, .getfield 23, 3, 9, 4, 733, .int 0), (27, .iload_n 2, 1, 0, 0, 0, .int 0), (28, .iaload, 1, 0, 0, 0, .int 0), (29, .aload_n 0, 1, 0, 0, 0, .int 0), (30, .getfield 36, 3, 9, 11, 740, .int 0), (33, .iload_n 2, 1, 0, 0, 0, .int 0), (34, .iaload, 1, 0, 0, 0, .int 0), (35, .if_icmp .ne 7, 3, 0, 0, 0, .int 0), (38, .iconst 0, 1, 0, 0, 0, .int 0), (39, .goto 4, 3, 0, 0, 0, .int 0), (42, .iconst 1, 1, 0, 0, 0, .int 1), (43, .iadd, 1, 0, 0, 0, .int 0), (44, .istore_n 1, 1, 0, 0, 0, .int 0), (45, .aload_n 0, 1, 0, 0, 0, .int 0), (46, .getfield 23, 3, 9, 4, 733, .int 0), (49, .iload_n 2, 1, 0, 0, 0, .int 0), (50, .aload_n 0, 1, 0, 0, 0, .int 0), (51, .getfield 36, 3, 9, 11, 740, .int 0), (54, .iload_n 2, 1, 0, 0, 0, .int 0), (55, .iaload, 1, 0, 0, 0, .int 0), (56, .iastore, 1, 0, 0, 0, .int 0), (57, .iinc 2 1, 3, 0, 0, 0, .int 1), (60, .goto (-46), 3, 0, 0, 0, .int 0), (63, .aload_n 0, 1, 0, 0, 0, .int 0), (64, .iconst 0, 1, 0, 0, 0, .int 0)]
set_option maxRecDepth 100000 in
theorem pg_X9_take_0_k : pg_X9_take_0.all (ds_okb mt_X9_take.1.cls mt_X9_take.2.1) = true := by decide +kernel
def pg_X9_take_1 : List ds_I := [(65, .putfield 84, 3, 9, 10, 739, .int 0), (68, .iload_n 1, 1, 0, 0, 0, .int 0), (69, .ireturn, 1, 0, 0, 0, .int 0)]
set_option maxRecDepth 100000 in
theorem pg_X9_take_1_k : pg_X9_take_1.all (ds_okb mt_X9_take.1.cls mt_X9_take.2.1) = true := by decide +kernel
def pg_X9_take : List ds_I := pg_X9_take_0 ++ (pg_X9_take_1)
theorem pg_X9_take_k : pg_X9_take.all (ds_okb mt_X9_take.1.cls mt_X9_take.2.1) = true := (ds_all_and pg_X9_take_0_k pg_X9_take_1_k)
theorem ok_X9_take : ds_good mt_X9_take pg_X9_take := ds_good_of pg_X9_take_k (by decide +kernel)
def mt_X9_addGoes : ds_M := (⟨"WayWeightsModel", "addGoes", "(III)V"⟩, prog_11_method_42_code, 6, none, 2, 46)
def pg_X9_addGoes_0 : List ds_I := [(0, .aload_n 0, 1, 0, 0, 0, .int 0), (1, .getfield 23, 3, 9, 4, 733, .int 0), (4, .iload_n 1, 1, 0, 0, 0, .int 0), (5, .iaload, 1, 0, 0, 0, .int 0), (6, .istore 4, 2, 0, 0, 0, .int 0), (8, .aload_n 0, 1, 0, 0, 0, .int 0), (9, .getfield 23, 3, 9, 4, 733, .int 0), (12, .iload_n 1, 1, 0, 0, 0, .int 0), (13, .iload_n 2, 1, 0, 0, 0, .int 0), (14, .iastore, 1, 0, 0, 0, .int 0), (15, .aload_n 0, 1, 0, 0, 0, .int 0), (16, .iload_n 3, 1, 0, 0, 0, .int 0), (17, .invokevirtual 112, 3, 0, 0, 881, .int 0), (20, .iconst 0, 1, 0, 0, 0, .int 0), (21, .istore 5, 2, 0, 0, 0, .int 0), (23, .iload 5, 2, 0, 0, 0, .int 0), (25, .aload_n 0, 1, 0, 0, 0, .int 0), (26, .getfield 77, 3, 9, 7, 736, .int 0), (29, .if_icmp .ge 85, 3, 0, 0, 0, .int 0), (32, .aload_n 0, 1, 0, 0, 0, .int 0), (33, .getfield 64, 3, 9, 30, 759, .int 0), (36, .aload_n 0, 1, 0, 0, 0, .int 0), (37, .getfield 13, 3, 9, 1, 730, .int 0), (40, .iload 5, 2, 0, 0, 0, .int 0), (42, .iaload, 1, 0, 0, 0, .int 0), (43, .dup2, 1, 0, 0, 0, .int 0), (44, .iaload, 1, 0, 0, 0, .int 0), (45, .aload_n 0, 1, 0, 0, 0, .int 0), (46, .iload 5, 2, 0, 0, 0, .int 0), (48, .iconst 0, 1, 0, 0, 0, .int 0), (49, .invokevirtual 116, 3, 0, 0, 898, .int 0), (52, .ifCond .eq 15, 3, 0, 0, 0, .int 0), (55, .iconst 1, 1, 0, 0, 0, .int 1), (56, .aload_n 0, 1, 0, 0, 0, .int 0), (57, .getfield 17, 3, 9, 2, 731, .int 0), (60, .iload 5, 2, 0, 0, 0, .int 0), (62, .iaload, 1, 0, 0, 0, .int 0), (63, .ishl, 1, 0, 0, 0, .int 0), (64, .goto 4, 3, 0, 0, 0, .int 0), (67, .iconst 0, 1, 0, 0, 0, .int 0)]
set_option maxRecDepth 100000 in
theorem pg_X9_addGoes_0_k : pg_X9_addGoes_0.all (ds_okb mt_X9_addGoes.1.cls mt_X9_addGoes.2.1) = true := by decide +kernel
def pg_X9_addGoes_1 : List ds_I := [(68, .ior, 1, 0, 0, 0, .int 0), (69, .iastore, 1, 0, 0, 0, .int 0), (70, .aload_n 0, 1, 0, 0, 0, .int 0), (71, .getfield 64, 3, 9, 30, 759, .int 0), (74, .aload_n 0, 1, 0, 0, 0, .int 0), (75, .getfield 17, 3, 9, 2, 731, .int 0), (78, .iload 5, 2, 0, 0, 0, .int 0), (80, .iaload, 1, 0, 0, 0, .int 0), (81, .dup2, 1, 0, 0, 0, .int 0), (82, .iaload, 1, 0, 0, 0, .int 0), (83, .aload_n 0, 1, 0, 0, 0, .int 0), (84, .iload 5, 2, 0, 0, 0, .int 0), (86, .iconst 1, 1, 0, 0, 0, .int 1), (87, .invokevirtual 116, 3, 0, 0, 898, .int 0), (90, .ifCond .eq 15, 3, 0, 0, 0, .int 0), (93, .iconst 1, 1, 0, 0, 0, .int 1), (94, .aload_n 0, 1, 0, 0, 0, .int 0), (95, .getfield 13, 3, 9, 1, 730, .int 0), (98, .iload 5, 2, 0, 0, 0, .int 0), (100, .iaload, 1, 0, 0, 0, .int 0), (101, .ishl, 1, 0, 0, 0, .int 0), (102, .goto 4, 3, 0, 0, 0, .int 0), (105, .iconst 0, 1, 0, 0, 0, .int 0), (106, .ior, 1, 0, 0, 0, .int 0), (107, .iastore, 1, 0, 0, 0, .int 0), (108, .iinc 5 1, 3, 0, 0, 0, .int 1), (111, .goto (-88), 3, 0, 0, 0, .int 0), (114, .aload_n 0, 1, 0, 0, 0, .int 0), (115, .getfield 23, 3, 9, 4, 733, .int 0), (118, .iload_n 1, 1, 0, 0, 0, .int 0), (119, .iload 4, 2, 0, 0, 0, .int 0), (121, .iastore, 1, 0, 0, 0, .int 0), (122, .return_, 1, 0, 0, 0, .int 0)]
set_option maxRecDepth 100000 in
theorem pg_X9_addGoes_1_k : pg_X9_addGoes_1.all (ds_okb mt_X9_addGoes.1.cls mt_X9_addGoes.2.1) = true := by decide +kernel
def pg_X9_addGoes : List ds_I := pg_X9_addGoes_0 ++ (pg_X9_addGoes_1)
theorem pg_X9_addGoes_k : pg_X9_addGoes.all (ds_okb mt_X9_addGoes.1.cls mt_X9_addGoes.2.1) = true := (ds_all_and pg_X9_addGoes_0_k pg_X9_addGoes_1_k)
theorem ok_X9_addGoes : ds_good mt_X9_addGoes pg_X9_addGoes := ds_good_of pg_X9_addGoes_k (by decide +kernel)
def mt_X9_hasRing : ds_M := (⟨"WayWeightsModel", "hasRing", "(IIII)Z"⟩, prog_11_method_43_code, 8, some .boolean, 3, 71)
def pg_X9_hasRing_0 : List ds_I := [(0, .iconst 0, 1, 0, 0, 0, .int 0), (1, .istore 5, 2, 0, 0, 0, .int 0), (3, .iload 5, 2, 0, 0, 0, .int 0), (5, .bipush 6, 2, 0, 0, 0, .int 6), (7, .if_icmp .ge 17, 3, 0, 0, 0, .int 0), (10, .aload_n 0, 1, 0, 0, 0, .int 0), (11, .getfield 64, 3, 9, 30, 759, .int 0), (14, .iload 5, 2, 0, 0, 0, .int 0), (16, .iconst 0, 1, 0, 0, 0, .int 0), (17, .iastore, 1, 0, 0, 0, .int 0), (18, .iinc 5 1, 3, 0, 0, 0, .int 1), (21, .goto (-18), 3, 0, 0, 0, .int 0), (24, .aload_n 0, 1, 0, 0, 0, .int 0), (25, .iload_n 1, 1, 0, 0, 0, .int 0), (26, .iload_n 2, 1, 0, 0, 0, .int 0), (27, .iload 4, 2, 0, 0, 0, .int 0), (29, .invokevirtual 212, 3, 0, 0, 1009, .int 0), (32, .aload_n 0, 1, 0, 0, 0, .int 0), (33, .iload_n 1, 1, 0, 0, 0, .int 0), (34, .iload_n 3, 1, 0, 0, 0, .int 0), (35, .iload 4, 2, 0, 0, 0, .int 0), (37, .invokevirtual 212, 3, 0, 0, 1009, .int 0), (40, .iconst 1, 1, 0, 0, 0, .int 1), (41, .aload_n 0, 1, 0, 0, 0, .int 0), (42, .getfield 7, 3, 9, 0, 729, .int 0), (45, .ishl, 1, 0, 0, 0, .int 0), (46, .iconst 1, 1, 0, 0, 0, .int 1), (47, .isub, 1, 0, 0, 0, .int 0), (48, .iconst 1, 1, 0, 0, 0, .int 1), (49, .iload 4, 2, 0, 0, 0, .int 0), (51, .ishl, 1, 0, 0, 0, .int 0), (52, .iconst (-1), 1, 0, 0, 0, .int (-1)), (53, .ixor, 1, 0, 0, 0, .int 0), (54, .iand, 1, 0, 0, 0, .int 0), (55, .istore 5, 2, 0, 0, 0, .int 0), (57, .iconst 0, 1, 0, 0, 0, .int 0), (58, .istore 6, 2, 0, 0, 0, .int 0), (60, .iload 6, 2, 0, 0, 0, .int 0), (62, .aload_n 0, 1, 0, 0, 0, .int 0), (63, .getfield 7, 3, 9, 0, 729, .int 0)]
set_option maxRecDepth 100000 in
theorem pg_X9_hasRing_0_k : pg_X9_hasRing_0.all (ds_okb mt_X9_hasRing.1.cls mt_X9_hasRing.2.1) = true := by decide +kernel
def pg_X9_hasRing_1 : List ds_I := [(66, .if_icmp .ge 56, 3, 0, 0, 0, .int 0), (69, .iconst 0, 1, 0, 0, 0, .int 0), (70, .istore 7, 2, 0, 0, 0, .int 0), (72, .iload 7, 2, 0, 0, 0, .int 0), (74, .aload_n 0, 1, 0, 0, 0, .int 0), (75, .getfield 7, 3, 9, 0, 729, .int 0), (78, .if_icmp .ge 38, 3, 0, 0, 0, .int 0), (81, .aload_n 0, 1, 0, 0, 0, .int 0), (82, .getfield 64, 3, 9, 30, 759, .int 0), (85, .iload 7, 2, 0, 0, 0, .int 0), (87, .iaload, 1, 0, 0, 0, .int 0), (88, .iload 5, 2, 0, 0, 0, .int 0), (90, .iand, 1, 0, 0, 0, .int 0), (91, .ifCond .ne 15, 3, 0, 0, 0, .int 0), (94, .iload 5, 2, 0, 0, 0, .int 0), (96, .iconst 1, 1, 0, 0, 0, .int 1), (97, .iload 7, 2, 0, 0, 0, .int 0), (99, .ishl, 1, 0, 0, 0, .int 0), (100, .iconst (-1), 1, 0, 0, 0, .int (-1)), (101, .ixor, 1, 0, 0, 0, .int 0), (102, .iand, 1, 0, 0, 0, .int 0), (103, .goto 5, 3, 0, 0, 0, .int 0), (106, .iload 5, 2, 0, 0, 0, .int 0), (108, .istore 5, 2, 0, 0, 0, .int 0), (110, .iinc 7 1, 3, 0, 0, 0, .int 1), (113, .goto (-41), 3, 0, 0, 0, .int 0), (116, .iinc 6 1, 3, 0, 0, 0, .int 1), (119, .goto (-59), 3, 0, 0, 0, .int 0), (122, .iload 5, 2, 0, 0, 0, .int 0), (124, .ifCond .eq 7, 3, 0, 0, 0, .int 0), (127, .iconst 1, 1, 0, 0, 0, .int 1), (128, .goto 4, 3, 0, 0, 0, .int 0), (131, .iconst 0, 1, 0, 0, 0, .int 0), (132, .ireturn, 1, 0, 0, 0, .int 0)]
set_option maxRecDepth 100000 in
theorem pg_X9_hasRing_1_k : pg_X9_hasRing_1.all (ds_okb mt_X9_hasRing.1.cls mt_X9_hasRing.2.1) = true := by decide +kernel
def pg_X9_hasRing : List ds_I := pg_X9_hasRing_0 ++ (pg_X9_hasRing_1)
theorem pg_X9_hasRing_k : pg_X9_hasRing.all (ds_okb mt_X9_hasRing.1.cls mt_X9_hasRing.2.1) = true := (ds_all_and pg_X9_hasRing_0_k pg_X9_hasRing_1_k)
theorem ok_X9_hasRing : ds_good mt_X9_hasRing pg_X9_hasRing := ds_good_of pg_X9_hasRing_k (by decide +kernel)
def mt_X9_ringOf : ds_M := (⟨"WayWeightsModel", "ringOf", "(III)I"⟩, prog_11_method_44_code, 5, some .int, 4, 98)
def pg_X9_ringOf : List ds_I := [(0, .iconst 0, 1, 0, 0, 0, .int 0), (1, .istore 4, 2, 0, 0, 0, .int 0), (3, .iload 4, 2, 0, 0, 0, .int 0), (5, .aload_n 0, 1, 0, 0, 0, .int 0), (6, .getfield 7, 3, 9, 0, 729, .int 0), (9, .if_icmp .ge 24, 3, 0, 0, 0, .int 0), (12, .aload_n 0, 1, 0, 0, 0, .int 0), (13, .iload_n 1, 1, 0, 0, 0, .int 0), (14, .iload_n 2, 1, 0, 0, 0, .int 0), (15, .iload_n 3, 1, 0, 0, 0, .int 0), (16, .iload 4, 2, 0, 0, 0, .int 0), (18, .invokevirtual 216, 3, 0, 0, 1005, .int 0), (21, .ifCond .eq 6, 3, 0, 0, 0, .int 0), (24, .iload 4, 2, 0, 0, 0, .int 0), (26, .ireturn, 1, 0, 0, 0, .int 0), (27, .iinc 4 1, 3, 0, 0, 0, .int 1), (30, .goto (-27), 3, 0, 0, 0, .int 0), (33, .bipush (-6), 2, 0, 0, 0, .int (-6)), (35, .ireturn, 1, 0, 0, 0, .int 0)]
set_option maxRecDepth 100000 in
theorem pg_X9_ringOf_k : pg_X9_ringOf.all (ds_okb mt_X9_ringOf.1.cls mt_X9_ringOf.2.1) = true := by decide +kernel
theorem ok_X9_ringOf : ds_good mt_X9_ringOf pg_X9_ringOf := ds_good_of pg_X9_ringOf_k (by decide +kernel)
def mt_X9_whyNot : ds_M := (⟨"WayWeightsModel", "whyNot", "(II)I"⟩, prog_11_method_45_code, 3, some .int, 2, 46)
def pg_X9_whyNot : List ds_I := [(0, .aload_n 0, 1, 0, 0, 0, .int 0), (1, .iload_n 1, 1, 0, 0, 0, .int 0), (2, .invokevirtual 96, 3, 0, 0, 853, .int 0), (5, .ifCond .ne 5, 3, 0, 0, 0, .int 0), (8, .iconst (-1), 1, 0, 0, 0, .int (-1)), (9, .ireturn, 1, 0, 0, 0, .int 0), (10, .iload_n 2, 1, 0, 0, 0, .int 0), (11, .i2l, 1, 0, 0, 0, .int 0), (12, .lconst 1, 1, 0, 0, 0, .long 1), (13, .ldc2_w 94, 3, 0, 0, 848, .long 20), (16, .invokestatic 73, 3, 0, 0, 836, .int 0), (19, .ifCond .ne 8, 3, 0, 0, 0, .int 0), (22, .bipush (-2), 2, 0, 0, 0, .int (-2)), (24, .goto 18, 3, 0, 0, 0, .int 0), (27, .aload_n 0, 1, 0, 0, 0, .int 0), (28, .getfield 30, 3, 9, 6, 735, .int 0), (31, .iload_n 1, 1, 0, 0, 0, .int 0), (32, .baload, 1, 0, 0, 0, .int 0), (33, .ifCond .eq 8, 3, 0, 0, 0, .int 0), (36, .bipush (-3), 2, 0, 0, 0, .int (-3)), (38, .goto 4, 3, 0, 0, 0, .int 0), (41, .iconst 0, 1, 0, 0, 0, .int 0), (42, .ireturn, 1, 0, 0, 0, .int 0)]
set_option maxRecDepth 100000 in
theorem pg_X9_whyNot_k : pg_X9_whyNot.all (ds_okb mt_X9_whyNot.1.cls mt_X9_whyNot.2.1) = true := by decide +kernel
theorem ok_X9_whyNot : ds_good mt_X9_whyNot pg_X9_whyNot := ds_good_of pg_X9_whyNot_k (by decide +kernel)
def mt_X9_ring : ds_M := (⟨"WayWeightsModel", "ring", "(II)I"⟩, prog_11_method_46_code, 4, some .int, 5, 122)
def pg_X9_ring : List ds_I := [(0, .aload_n 0, 1, 0, 0, 0, .int 0), (1, .iload_n 1, 1, 0, 0, 0, .int 0), (2, .iload_n 2, 1, 0, 0, 0, .int 0), (3, .invokevirtual 220, 3, 0, 0, 997, .int 0), (6, .istore_n 3, 1, 0, 0, 0, .int 0), (7, .iload_n 3, 1, 0, 0, 0, .int 0), (8, .ifCond .ge 7, 3, 0, 0, 0, .int 0), (11, .iload_n 3, 1, 0, 0, 0, .int 0), (12, .goto 15, 3, 0, 0, 0, .int 0), (15, .aload_n 0, 1, 0, 0, 0, .int 0), (16, .iload_n 1, 1, 0, 0, 0, .int 0), (17, .aload_n 0, 1, 0, 0, 0, .int 0), (18, .getfield 23, 3, 9, 4, 733, .int 0), (21, .iload_n 1, 1, 0, 0, 0, .int 0), (22, .iaload, 1, 0, 0, 0, .int 0), (23, .iload_n 2, 1, 0, 0, 0, .int 0), (24, .invokevirtual 224, 3, 0, 0, 1001, .int 0), (27, .ireturn, 1, 0, 0, 0, .int 0)]
set_option maxRecDepth 100000 in
theorem pg_X9_ring_k : pg_X9_ring.all (ds_okb mt_X9_ring.1.cls mt_X9_ring.2.1) = true := by decide +kernel
theorem ok_X9_ring : ds_good mt_X9_ring pg_X9_ring := ds_good_of pg_X9_ring_k (by decide +kernel)
def mt_X9_findOff : ds_M := (⟨"WayWeightsModel", "findOff", "(II)V"⟩, prog_11_method_47_code, 6, none, 5, 122)
def pg_X9_findOff_0 : List ds_I := [(0, .iconst 0, 1, 0, 0, 0, .int 0), (1, .istore_n 3, 1, 0, 0, 0, .int 0), (2, .iload_n 3, 1, 0, 0, 0, .int 0), (3, .bipush 21, 2, 0, 0, 0, .int 21), (5, .if_icmp .ge 26, 3, 0, 0, 0, .int 0), (8, .aload_n 0, 1, 0, 0, 0, .int 0), (9, .getfield 67, 3, 9, 31, 760, .int 0), (12, .iload_n 3, 1, 0, 0, 0, .int 0), (13, .iload_n 3, 1, 0, 0, 0, .int 0), (14, .iload_n 2, 1, 0, 0, 0, .int 0), (15, .if_icmp .ne 7, 3, 0, 0, 0, .int 0), (18, .iconst 0, 1, 0, 0, 0, .int 0), (19, .goto 5, 3, 0, 0, 0, .int 0), (22, .ldc 108, 2, 0, 0, 885, .int 1000000), (24, .iastore, 1, 0, 0, 0, .int 0), (25, .iinc 3 1, 3, 0, 0, 0, .int 1), (28, .goto (-26), 3, 0, 0, 0, .int 0), (31, .iconst 0, 1, 0, 0, 0, .int 0), (32, .istore_n 3, 1, 0, 0, 0, .int 0), (33, .iload_n 3, 1, 0, 0, 0, .int 0), (34, .bipush 20, 2, 0, 0, 0, .int 20), (36, .if_icmp .ge 86, 3, 0, 0, 0, .int 0), (39, .iconst 1, 1, 0, 0, 0, .int 1), (40, .istore 4, 2, 0, 0, 0, .int 0), (42, .iload 4, 2, 0, 0, 0, .int 0), (44, .bipush 21, 2, 0, 0, 0, .int 21), (46, .if_icmp .ge 70, 3, 0, 0, 0, .int 0), (49, .iconst 1, 1, 0, 0, 0, .int 1), (50, .istore 5, 2, 0, 0, 0, .int 0), (52, .iload 5, 2, 0, 0, 0, .int 0), (54, .bipush 21, 2, 0, 0, 0, .int 21), (56, .if_icmp .ge 54, 3, 0, 0, 0, .int 0), (59, .aload_n 0, 1, 0, 0, 0, .int 0), (60, .getfield 67, 3, 9, 31, 760, .int 0), (63, .iload 4, 2, 0, 0, 0, .int 0), (65, .iaload, 1, 0, 0, 0, .int 0), (66, .iload_n 3, 1, 0, 0, 0, .int 0), (67, .if_icmp .ne 43, 3, 0, 0, 0, .int 0), (70, .aload_n 0, 1, 0, 0, 0, .int 0), (71, .getfield 67, 3, 9, 31, 760, .int 0)]
set_option maxRecDepth 100000 in
theorem pg_X9_findOff_0_k : pg_X9_findOff_0.all (ds_okb mt_X9_findOff.1.cls mt_X9_findOff.2.1) = true := by decide +kernel
def pg_X9_findOff_1 : List ds_I := [(74, .iload 5, 2, 0, 0, 0, .int 0), (76, .iaload, 1, 0, 0, 0, .int 0), (77, .ldc 108, 2, 0, 0, 885, .int 1000000), (79, .if_icmp .ne 25, 3, 0, 0, 0, .int 0), (82, .aload_n 0, 1, 0, 0, 0, .int 0), (83, .iload_n 1, 1, 0, 0, 0, .int 0), (84, .iload 5, 2, 0, 0, 0, .int 0), (86, .iload 4, 2, 0, 0, 0, .int 0), (88, .invokevirtual 224, 3, 0, 0, 1001, .int 0), (91, .ifCond .ge 13, 3, 0, 0, 0, .int 0), (94, .aload_n 0, 1, 0, 0, 0, .int 0), (95, .getfield 67, 3, 9, 31, 760, .int 0), (98, .iload 5, 2, 0, 0, 0, .int 0), (100, .iload_n 3, 1, 0, 0, 0, .int 0), (101, .iconst 1, 1, 0, 0, 0, .int 1), (102, .iadd, 1, 0, 0, 0, .int 0), (103, .iastore, 1, 0, 0, 0, .int 0), (104, .iinc 5 1, 3, 0, 0, 0, .int 1), (107, .goto (-55), 3, 0, 0, 0, .int 0), (110, .iinc 4 1, 3, 0, 0, 0, .int 1), (113, .goto (-71), 3, 0, 0, 0, .int 0), (116, .iinc 3 1, 3, 0, 0, 0, .int 1), (119, .goto (-86), 3, 0, 0, 0, .int 0), (122, .return_, 1, 0, 0, 0, .int 0)]
set_option maxRecDepth 100000 in
theorem pg_X9_findOff_1_k : pg_X9_findOff_1.all (ds_okb mt_X9_findOff.1.cls mt_X9_findOff.2.1) = true := by decide +kernel
def pg_X9_findOff : List ds_I := pg_X9_findOff_0 ++ (pg_X9_findOff_1)
theorem pg_X9_findOff_k : pg_X9_findOff.all (ds_okb mt_X9_findOff.1.cls mt_X9_findOff.2.1) = true := (ds_all_and pg_X9_findOff_0_k pg_X9_findOff_1_k)
theorem ok_X9_findOff : ds_good mt_X9_findOff pg_X9_findOff := ds_good_of pg_X9_findOff_k (by decide +kernel)
def mt_X9_between : ds_M := (⟨"WayWeightsModel", "between", "(II)I"⟩, prog_11_method_48_code, 5, some .int, 6, 147)
def pg_X9_between : List ds_I := [(0, .aload_n 0, 1, 0, 0, 0, .int 0), (1, .iload_n 1, 1, 0, 0, 0, .int 0), (2, .iload_n 2, 1, 0, 0, 0, .int 0), (3, .invokevirtual 220, 3, 0, 0, 997, .int 0), (6, .istore_n 3, 1, 0, 0, 0, .int 0), (7, .iload_n 3, 1, 0, 0, 0, .int 0), (8, .ifCond .ge 5, 3, 0, 0, 0, .int 0), (11, .iload_n 3, 1, 0, 0, 0, .int 0), (12, .ireturn, 1, 0, 0, 0, .int 0), (13, .aload_n 0, 1, 0, 0, 0, .int 0), (14, .iload_n 1, 1, 0, 0, 0, .int 0), (15, .iload_n 2, 1, 0, 0, 0, .int 0), (16, .invokevirtual 227, 3, 0, 0, 1017, .int 0), (19, .aload_n 0, 1, 0, 0, 0, .int 0), (20, .getfield 67, 3, 9, 31, 760, .int 0), (23, .aload_n 0, 1, 0, 0, 0, .int 0), (24, .getfield 23, 3, 9, 4, 733, .int 0), (27, .iload_n 1, 1, 0, 0, 0, .int 0), (28, .iaload, 1, 0, 0, 0, .int 0), (29, .iaload, 1, 0, 0, 0, .int 0), (30, .istore 4, 2, 0, 0, 0, .int 0), (32, .iload 4, 2, 0, 0, 0, .int 0), (34, .ldc 108, 2, 0, 0, 885, .int 1000000), (36, .if_icmp .ge 8, 3, 0, 0, 0, .int 0), (39, .iload 4, 2, 0, 0, 0, .int 0), (41, .goto 5, 3, 0, 0, 0, .int 0), (44, .bipush (-6), 2, 0, 0, 0, .int (-6)), (46, .ireturn, 1, 0, 0, 0, .int 0)]
set_option maxRecDepth 100000 in
theorem pg_X9_between_k : pg_X9_between.all (ds_okb mt_X9_between.1.cls mt_X9_between.2.1) = true := by decide +kernel
theorem ok_X9_between : ds_good mt_X9_between pg_X9_between := ds_good_of pg_X9_between_k (by decide +kernel)
def mt_X9_value : ds_M := (⟨"WayWeightsModel", "value", "(III)I"⟩, prog_11_method_49_code, 9, some .int, 6, 147)
def pg_X9_value_0 : List ds_I := [(0, .aload_n 0, 1, 0, 0, 0, .int 0), (1, .iload_n 1, 1, 0, 0, 0, .int 0), (2, .iload_n 2, 1, 0, 0, 0, .int 0), (3, .invokevirtual 220, 3, 0, 0, 997, .int 0), (6, .istore 4, 2, 0, 0, 0, .int 0), (8, .iload 4, 2, 0, 0, 0, .int 0), (10, .ifCond .ge 6, 3, 0, 0, 0, .int 0), (13, .iload 4, 2, 0, 0, 0, .int 0), (15, .ireturn, 1, 0, 0, 0, .int 0), (16, .aload_n 0, 1, 0, 0, 0, .int 0), (17, .iload_n 1, 1, 0, 0, 0, .int 0), (18, .iload_n 2, 1, 0, 0, 0, .int 0), (19, .invokevirtual 227, 3, 0, 0, 1017, .int 0), (22, .aload_n 0, 1, 0, 0, 0, .int 0), (23, .getfield 23, 3, 9, 4, 733, .int 0), (26, .iload_n 1, 1, 0, 0, 0, .int 0), (27, .iaload, 1, 0, 0, 0, .int 0), (28, .istore 5, 2, 0, 0, 0, .int 0), (30, .aload_n 0, 1, 0, 0, 0, .int 0), (31, .getfield 67, 3, 9, 31, 760, .int 0), (34, .iload 5, 2, 0, 0, 0, .int 0), (36, .iaload, 1, 0, 0, 0, .int 0), (37, .ldc 108, 2, 0, 0, 885, .int 1000000), (39, .if_icmp .eq 22, 3, 0, 0, 0, .int 0), (42, .iload_n 3, 1, 0, 0, 0, .int 0), (43, .i2l, 1, 0, 0, 0, .int 0), (44, .lconst 0, 1, 0, 0, 0, .long 0), (45, .aload_n 0, 1, 0, 0, 0, .int 0), (46, .getfield 67, 3, 9, 31, 760, .int 0), (49, .iload 5, 2, 0, 0, 0, .int 0), (51, .iaload, 1, 0, 0, 0, .int 0), (52, .iconst 1, 1, 0, 0, 0, .int 1), (53, .isub, 1, 0, 0, 0, .int 0), (54, .i2l, 1, 0, 0, 0, .int 0), (55, .invokestatic 73, 3, 0, 0, 836, .int 0), (58, .ifCond .ne 6, 3, 0, 0, 0, .int 0), (61, .bipush (-6), 2, 0, 0, 0, .int (-6)), (63, .ireturn, 1, 0, 0, 0, .int 0), (64, .iconst 0, 1, 0, 0, 0, .int 0), (65, .istore 6, 2, 0, 0, 0, .int 0)]
set_option maxRecDepth 100000 in
theorem pg_X9_value_0_k : pg_X9_value_0.all (ds_okb mt_X9_value.1.cls mt_X9_value.2.1) = true := by decide +kernel
def pg_X9_value_1 : List ds_I := [(67, .iload 6, 2, 0, 0, 0, .int 0), (69, .iload_n 3, 1, 0, 0, 0, .int 0), (70, .if_icmp .gt 71, 3, 0, 0, 0, .int 0), (73, .iconst 0, 1, 0, 0, 0, .int 0), (74, .istore 7, 2, 0, 0, 0, .int 0), (76, .bipush 20, 2, 0, 0, 0, .int 20), (78, .istore 8, 2, 0, 0, 0, .int 0), (80, .iload 8, 2, 0, 0, 0, .int 0), (82, .ifCond .le 49, 3, 0, 0, 0, .int 0), (85, .aload_n 0, 1, 0, 0, 0, .int 0), (86, .getfield 67, 3, 9, 31, 760, .int 0), (89, .iload 8, 2, 0, 0, 0, .int 0), (91, .iaload, 1, 0, 0, 0, .int 0), (92, .aload_n 0, 1, 0, 0, 0, .int 0), (93, .getfield 67, 3, 9, 31, 760, .int 0), (96, .iload 5, 2, 0, 0, 0, .int 0), (98, .iaload, 1, 0, 0, 0, .int 0), (99, .iconst 1, 1, 0, 0, 0, .int 1), (100, .isub, 1, 0, 0, 0, .int 0), (101, .if_icmp .ne 20, 3, 0, 0, 0, .int 0), (104, .aload_n 0, 1, 0, 0, 0, .int 0), (105, .iload_n 1, 1, 0, 0, 0, .int 0), (106, .iload 5, 2, 0, 0, 0, .int 0), (108, .iload 8, 2, 0, 0, 0, .int 0), (110, .invokevirtual 224, 3, 0, 0, 1001, .int 0), (113, .ifCond .ge 8, 3, 0, 0, 0, .int 0), (116, .iload 8, 2, 0, 0, 0, .int 0), (118, .goto 5, 3, 0, 0, 0, .int 0), (121, .iload 7, 2, 0, 0, 0, .int 0), (123, .istore 7, 2, 0, 0, 0, .int 0), (125, .iinc 8 (-1), 3, 0, 0, 0, .int (-1)), (128, .goto (-48), 3, 0, 0, 0, .int 0), (131, .iload 7, 2, 0, 0, 0, .int 0), (133, .istore 5, 2, 0, 0, 0, .int 0), (135, .iinc 6 1, 3, 0, 0, 0, .int 1), (138, .goto (-71), 3, 0, 0, 0, .int 0), (141, .iload 5, 2, 0, 0, 0, .int 0), (143, .ireturn, 1, 0, 0, 0, .int 0)]
set_option maxRecDepth 100000 in
theorem pg_X9_value_1_k : pg_X9_value_1.all (ds_okb mt_X9_value.1.cls mt_X9_value.2.1) = true := by decide +kernel
def pg_X9_value : List ds_I := pg_X9_value_0 ++ (pg_X9_value_1)
theorem pg_X9_value_k : pg_X9_value.all (ds_okb mt_X9_value.1.cls mt_X9_value.2.1) = true := (ds_all_and pg_X9_value_0_k pg_X9_value_1_k)
theorem ok_X9_value : ds_good mt_X9_value pg_X9_value := ds_good_of pg_X9_value_k (by decide +kernel)
def mt_X9_grow : ds_M := (⟨"WayWeightsModel", "grow", "(II)J"⟩, prog_11_method_50_code, 3, some .long, 7, 172)
def pg_X9_grow : List ds_I := [(0, .iload_n 1, 1, 0, 0, 0, .int 0), (1, .invokestatic 99, 3, 0, 0, 869, .int 0), (4, .ifCond .ne 7, 3, 0, 0, 0, .int 0), (7, .ldc2_w 138, 3, 0, 0, 906, .long (-1000000000000000001)), (10, .lreturn, 1, 0, 0, 0, .int 0), (11, .iload_n 2, 1, 0, 0, 0, .int 0), (12, .i2l, 1, 0, 0, 0, .int 0), (13, .lconst 0, 1, 0, 0, 0, .long 0), (14, .lconst 1, 1, 0, 0, 0, .long 1), (15, .invokestatic 73, 3, 0, 0, 836, .int 0), (18, .ifCond .ne 7, 3, 0, 0, 0, .int 0), (21, .ldc2_w 140, 3, 0, 0, 907, .long (-1000000000000000002)), (24, .lreturn, 1, 0, 0, 0, .int 0), (25, .aload_n 0, 1, 0, 0, 0, .int 0), (26, .iload_n 1, 1, 0, 0, 0, .int 0), (27, .invokevirtual 167, 3, 0, 0, 938, .int 0), (30, .aload_n 0, 1, 0, 0, 0, .int 0), (31, .getfield 152, 3, 9, 19, 748, .int 0), (34, .lconst 0, 1, 0, 0, 0, .long 0), (35, .lcmp, 1, 0, 0, 0, .int 0), (36, .ifCond .ne 9, 3, 0, 0, 0, .int 0), (39, .ldc2_w 231, 3, 0, 0, 1029, .long (-1000000000000000006)), (42, .goto 18, 3, 0, 0, 0, .int 0), (45, .iload_n 2, 1, 0, 0, 0, .int 0), (46, .ifCond .ne 10, 3, 0, 0, 0, .int 0), (49, .aload_n 0, 1, 0, 0, 0, .int 0), (50, .getfield 155, 3, 9, 20, 749, .int 0), (53, .goto 7, 3, 0, 0, 0, .int 0), (56, .aload_n 0, 1, 0, 0, 0, .int 0), (57, .getfield 152, 3, 9, 19, 748, .int 0), (60, .lreturn, 1, 0, 0, 0, .int 0)]
set_option maxRecDepth 100000 in
theorem pg_X9_grow_k : pg_X9_grow.all (ds_okb mt_X9_grow.1.cls mt_X9_grow.2.1) = true := by decide +kernel
theorem ok_X9_grow : ds_good mt_X9_grow pg_X9_grow := ds_good_of pg_X9_grow_k (by decide +kernel)
def mt_X9_year : ds_M := (⟨"WayWeightsModel", "year", "(II)I"⟩, prog_11_method_51_code, 8, some .int, 7, 172)
def pg_X9_year_0 : List ds_I := [(0, .iload_n 1, 1, 0, 0, 0, .int 0), (1, .invokestatic 99, 3, 0, 0, 869, .int 0), (4, .ifCond .ne 5, 3, 0, 0, 0, .int 0), (7, .iconst (-1), 1, 0, 0, 0, .int (-1)), (8, .ireturn, 1, 0, 0, 0, .int 0), (9, .iload_n 2, 1, 0, 0, 0, .int 0), (10, .i2l, 1, 0, 0, 0, .int 0), (11, .lconst 1, 1, 0, 0, 0, .long 1), (12, .ldc2_w 92, 3, 0, 0, 847, .long 100), (15, .invokestatic 73, 3, 0, 0, 836, .int 0), (18, .ifCond .ne 6, 3, 0, 0, 0, .int 0), (21, .bipush (-2), 2, 0, 0, 0, .int (-2)), (23, .ireturn, 1, 0, 0, 0, .int 0), (24, .iconst 0, 1, 0, 0, 0, .int 0), (25, .istore_n 3, 1, 0, 0, 0, .int 0), (26, .iload_n 3, 1, 0, 0, 0, .int 0), (27, .bipush 36, 2, 0, 0, 0, .int 36), (29, .if_icmp .ge 26, 3, 0, 0, 0, .int 0), (32, .aload_n 0, 1, 0, 0, 0, .int 0), (33, .getfield 70, 3, 9, 32, 761, .int 0), (36, .iload_n 3, 1, 0, 0, 0, .int 0), (37, .aload_n 0, 1, 0, 0, 0, .int 0), (38, .getfield 33, 3, 9, 8, 737, .int 0), (41, .bipush 36, 2, 0, 0, 0, .int 36), (43, .iload_n 1, 1, 0, 0, 0, .int 0), (44, .imul, 1, 0, 0, 0, .int 0), (45, .iload_n 3, 1, 0, 0, 0, .int 0), (46, .iadd, 1, 0, 0, 0, .int 0), (47, .iaload, 1, 0, 0, 0, .int 0), (48, .iastore, 1, 0, 0, 0, .int 0), (49, .iinc 3 1, 3, 0, 0, 0, .int 1), (52, .goto (-26), 3, 0, 0, 0, .int 0), (55, .bipush (-6), 2, 0, 0, 0, .int (-6)), (57, .istore_n 3, 1, 0, 0, 0, .int 0), (58, .iconst 0, 1, 0, 0, 0, .int 0), (59, .istore 4, 2, 0, 0, 0, .int 0), (61, .iload 4, 2, 0, 0, 0, .int 0), (63, .bipush 100, 2, 0, 0, 0, .int 100), (65, .if_icmp .ge 116, 3, 0, 0, 0, .int 0), (68, .iload_n 3, 1, 0, 0, 0, .int 0)]
set_option maxRecDepth 100000 in
theorem pg_X9_year_0_k : pg_X9_year_0.all (ds_okb mt_X9_year.1.cls mt_X9_year.2.1) = true := by decide +kernel
def pg_X9_year_1 : List ds_I := [(69, .ifCond .ge 112, 3, 0, 0, 0, .int 0), (72, .aload_n 0, 1, 0, 0, 0, .int 0), (73, .iload_n 1, 1, 0, 0, 0, .int 0), (74, .invokevirtual 167, 3, 0, 0, 938, .int 0), (77, .aload_n 0, 1, 0, 0, 0, .int 0), (78, .getfield 152, 3, 9, 19, 748, .int 0), (81, .aload_n 0, 1, 0, 0, 0, .int 0), (82, .getfield 155, 3, 9, 20, 749, .int 0), (85, .lcmp, 1, 0, 0, 0, .int 0), (86, .ifCond .le 8, 3, 0, 0, 0, .int 0), (89, .iload 4, 2, 0, 0, 0, .int 0), (91, .goto 5, 3, 0, 0, 0, .int 0), (94, .bipush (-6), 2, 0, 0, 0, .int (-6)), (96, .istore_n 3, 1, 0, 0, 0, .int 0), (97, .bipush 36, 2, 0, 0, 0, .int 36), (99, .iload_n 1, 1, 0, 0, 0, .int 0), (100, .imul, 1, 0, 0, 0, .int 0), (101, .istore 5, 2, 0, 0, 0, .int 0), (103, .iload 5, 2, 0, 0, 0, .int 0), (105, .bipush 36, 2, 0, 0, 0, .int 36), (107, .iload_n 1, 1, 0, 0, 0, .int 0), (108, .imul, 1, 0, 0, 0, .int 0), (109, .bipush 36, 2, 0, 0, 0, .int 36), (111, .iadd, 1, 0, 0, 0, .int 0), (112, .if_icmp .ge 63, 3, 0, 0, 0, .int 0), (115, .aload_n 0, 1, 0, 0, 0, .int 0), (116, .getfield 33, 3, 9, 8, 737, .int 0), (119, .iload 5, 2, 0, 0, 0, .int 0), (121, .iaload, 1, 0, 0, 0, .int 0), (122, .i2l, 1, 0, 0, 0, .int 0), (123, .aload_n 0, 1, 0, 0, 0, .int 0), (124, .getfield 33, 3, 9, 8, 737, .int 0), (127, .iload 5, 2, 0, 0, 0, .int 0), (129, .iaload, 1, 0, 0, 0, .int 0), (130, .i2l, 1, 0, 0, 0, .int 0), (131, .iload_n 2, 1, 0, 0, 0, .int 0), (132, .i2l, 1, 0, 0, 0, .int 0), (133, .lmul, 1, 0, 0, 0, .int 0), (134, .ldc2_w 233, 3, 0, 0, 1034, .long 99), (137, .ladd, 1, 0, 0, 0, .int 0)]
set_option maxRecDepth 100000 in
theorem pg_X9_year_1_k : pg_X9_year_1.all (ds_okb mt_X9_year.1.cls mt_X9_year.2.1) = true := by decide +kernel
def pg_X9_year_2 : List ds_I := [(138, .ldc2_w 92, 3, 0, 0, 847, .long 100), (141, .ldiv, 1, 0, 0, 0, .int 0), (142, .ladd, 1, 0, 0, 0, .int 0), (143, .lstore 6, 2, 0, 0, 0, .int 0), (145, .aload_n 0, 1, 0, 0, 0, .int 0), (146, .getfield 33, 3, 9, 8, 737, .int 0), (149, .iload 5, 2, 0, 0, 0, .int 0), (151, .lload 6, 2, 0, 0, 0, .int 0), (153, .ldc2_w 235, 3, 0, 0, 1035, .long 1000000), (156, .lcmp, 1, 0, 0, 0, .int 0), (157, .ifCond .le 8, 3, 0, 0, 0, .int 0), (160, .ldc 108, 2, 0, 0, 885, .int 1000000), (162, .goto 6, 3, 0, 0, 0, .int 0), (165, .lload 6, 2, 0, 0, 0, .int 0), (167, .l2i, 1, 0, 0, 0, .int 0), (168, .iastore, 1, 0, 0, 0, .int 0), (169, .iinc 5 1, 3, 0, 0, 0, .int 1), (172, .goto (-69), 3, 0, 0, 0, .int 0), (175, .iinc 4 1, 3, 0, 0, 0, .int 1), (178, .goto (-117), 3, 0, 0, 0, .int 0), (181, .iconst 0, 1, 0, 0, 0, .int 0), (182, .istore 4, 2, 0, 0, 0, .int 0), (184, .iload 4, 2, 0, 0, 0, .int 0), (186, .bipush 36, 2, 0, 0, 0, .int 36), (188, .if_icmp .ge 28, 3, 0, 0, 0, .int 0), (191, .aload_n 0, 1, 0, 0, 0, .int 0), (192, .getfield 33, 3, 9, 8, 737, .int 0), (195, .bipush 36, 2, 0, 0, 0, .int 36), (197, .iload_n 1, 1, 0, 0, 0, .int 0), (198, .imul, 1, 0, 0, 0, .int 0), (199, .iload 4, 2, 0, 0, 0, .int 0), (201, .iadd, 1, 0, 0, 0, .int 0), (202, .aload_n 0, 1, 0, 0, 0, .int 0), (203, .getfield 70, 3, 9, 32, 761, .int 0), (206, .iload 4, 2, 0, 0, 0, .int 0), (208, .iaload, 1, 0, 0, 0, .int 0), (209, .iastore, 1, 0, 0, 0, .int 0), (210, .iinc 4 1, 3, 0, 0, 0, .int 1), (213, .goto (-29), 3, 0, 0, 0, .int 0), (216, .iload_n 3, 1, 0, 0, 0, .int 0)]
set_option maxRecDepth 100000 in
theorem pg_X9_year_2_k : pg_X9_year_2.all (ds_okb mt_X9_year.1.cls mt_X9_year.2.1) = true := by decide +kernel
def pg_X9_year_3 : List ds_I := [(217, .ireturn, 1, 0, 0, 0, .int 0)]
set_option maxRecDepth 100000 in
theorem pg_X9_year_3_k : pg_X9_year_3.all (ds_okb mt_X9_year.1.cls mt_X9_year.2.1) = true := by decide +kernel
def pg_X9_year : List ds_I := pg_X9_year_0 ++ (pg_X9_year_1 ++ (pg_X9_year_2 ++ (pg_X9_year_3)))
theorem pg_X9_year_k : pg_X9_year.all (ds_okb mt_X9_year.1.cls mt_X9_year.2.1) = true := (ds_all_and pg_X9_year_0_k (ds_all_and pg_X9_year_1_k (ds_all_and pg_X9_year_2_k pg_X9_year_3_k)))
theorem ok_X9_year : ds_good mt_X9_year pg_X9_year := ds_good_of pg_X9_year_k (by decide +kernel)
def mt_X9_told : ds_M := (⟨"WayWeightsModel", "told", "(I)I"⟩, prog_11_method_52_code, 4, some .int, 1, 25)
def pg_X9_told_0 : List ds_I := [(0, .iconst 0, 1, 0, 0, 0, .int 0), (1, .istore_n 2, 1, 0, 0, 0, .int 0), (2, .iload_n 1, 1, 0, 0, 0, .int 0), (3, .tableswitch 130 0 4 #[33, 38, 43, 80, 117], 33, 0, 0, 0, .int 0), (36, .aload_n 0, 1, 0, 0, 0, .int 0), (37, .getfield 7, 3, 9, 0, 729, .int 0), (40, .ireturn, 1, 0, 0, 0, .int 0), (41, .aload_n 0, 1, 0, 0, 0, .int 0), (42, .getfield 77, 3, 9, 7, 736, .int 0), (45, .ireturn, 1, 0, 0, 0, .int 0), (46, .iconst 0, 1, 0, 0, 0, .int 0), (47, .istore_n 3, 1, 0, 0, 0, .int 0), (48, .iload_n 3, 1, 0, 0, 0, .int 0), (49, .aload_n 0, 1, 0, 0, 0, .int 0), (50, .getfield 77, 3, 9, 7, 736, .int 0), (53, .if_icmp .ge 28, 3, 0, 0, 0, .int 0), (56, .iload_n 2, 1, 0, 0, 0, .int 0), (57, .aload_n 0, 1, 0, 0, 0, .int 0), (58, .getfield 26, 3, 9, 5, 734, .int 0), (61, .iload_n 3, 1, 0, 0, 0, .int 0), (62, .baload, 1, 0, 0, 0, .int 0), (63, .ifCond .eq 9, 3, 0, 0, 0, .int 0), (66, .iconst 1, 1, 0, 0, 0, .int 1), (67, .iload_n 3, 1, 0, 0, 0, .int 0), (68, .ishl, 1, 0, 0, 0, .int 0), (69, .goto 4, 3, 0, 0, 0, .int 0), (72, .iconst 0, 1, 0, 0, 0, .int 0), (73, .ior, 1, 0, 0, 0, .int 0), (74, .istore_n 2, 1, 0, 0, 0, .int 0), (75, .iinc 3 1, 3, 0, 0, 0, .int 1), (78, .goto (-30), 3, 0, 0, 0, .int 0), (81, .iload_n 2, 1, 0, 0, 0, .int 0), (82, .ireturn, 1, 0, 0, 0, .int 0), (83, .iconst 0, 1, 0, 0, 0, .int 0), (84, .istore_n 3, 1, 0, 0, 0, .int 0), (85, .iload_n 3, 1, 0, 0, 0, .int 0), (86, .aload_n 0, 1, 0, 0, 0, .int 0), (87, .getfield 77, 3, 9, 7, 736, .int 0), (90, .if_icmp .ge 28, 3, 0, 0, 0, .int 0), (93, .iload_n 2, 1, 0, 0, 0, .int 0)]
set_option maxRecDepth 100000 in
theorem pg_X9_told_0_k : pg_X9_told_0.all (ds_okb mt_X9_told.1.cls mt_X9_told.2.1) = true := by decide +kernel
def pg_X9_told_1 : List ds_I := [(94, .aload_n 0, 1, 0, 0, 0, .int 0), (95, .getfield 30, 3, 9, 6, 735, .int 0), (98, .iload_n 3, 1, 0, 0, 0, .int 0), (99, .baload, 1, 0, 0, 0, .int 0), (100, .ifCond .eq 9, 3, 0, 0, 0, .int 0), (103, .iconst 1, 1, 0, 0, 0, .int 1), (104, .iload_n 3, 1, 0, 0, 0, .int 0), (105, .ishl, 1, 0, 0, 0, .int 0), (106, .goto 4, 3, 0, 0, 0, .int 0), (109, .iconst 0, 1, 0, 0, 0, .int 0), (110, .ior, 1, 0, 0, 0, .int 0), (111, .istore_n 2, 1, 0, 0, 0, .int 0), (112, .iinc 3 1, 3, 0, 0, 0, .int 1), (115, .goto (-30), 3, 0, 0, 0, .int 0), (118, .iload_n 2, 1, 0, 0, 0, .int 0), (119, .ireturn, 1, 0, 0, 0, .int 0), (120, .aload_n 0, 1, 0, 0, 0, .int 0), (121, .getfield 172, 3, 9, 9, 738, .int 0), (124, .ifCond .eq 7, 3, 0, 0, 0, .int 0), (127, .iconst 1, 1, 0, 0, 0, .int 1), (128, .goto 4, 3, 0, 0, 0, .int 0), (131, .iconst 0, 1, 0, 0, 0, .int 0), (132, .ireturn, 1, 0, 0, 0, .int 0), (133, .iload_n 1, 1, 0, 0, 0, .int 0), (134, .i2l, 1, 0, 0, 0, .int 0), (135, .ldc2_w 237, 3, 0, 0, 1040, .long 5), (138, .ldc2_w 239, 3, 0, 0, 1041, .long 7), (141, .invokestatic 73, 3, 0, 0, 836, .int 0), (144, .ifCond .ne 6, 3, 0, 0, 0, .int 0), (147, .bipush (-2), 2, 0, 0, 0, .int (-2)), (149, .ireturn, 1, 0, 0, 0, .int 0), (150, .bipush 36, 2, 0, 0, 0, .int 36), (152, .iload_n 1, 1, 0, 0, 0, .int 0), (153, .iconst 5, 1, 0, 0, 0, .int 5), (154, .isub, 1, 0, 0, 0, .int 0), (155, .imul, 1, 0, 0, 0, .int 0), (156, .istore_n 3, 1, 0, 0, 0, .int 0), (157, .iload_n 3, 1, 0, 0, 0, .int 0), (158, .bipush 36, 2, 0, 0, 0, .int 36), (160, .iload_n 1, 1, 0, 0, 0, .int 0)]
set_option maxRecDepth 100000 in
theorem pg_X9_told_1_k : pg_X9_told_1.all (ds_okb mt_X9_told.1.cls mt_X9_told.2.1) = true := by decide +kernel
def pg_X9_told_2 : List ds_I := [(161, .iconst 5, 1, 0, 0, 0, .int 5), (162, .isub, 1, 0, 0, 0, .int 0), (163, .imul, 1, 0, 0, 0, .int 0), (164, .bipush 36, 2, 0, 0, 0, .int 36), (166, .iadd, 1, 0, 0, 0, .int 0), (167, .if_icmp .ge 18, 3, 0, 0, 0, .int 0), (170, .iload_n 2, 1, 0, 0, 0, .int 0), (171, .aload_n 0, 1, 0, 0, 0, .int 0), (172, .getfield 33, 3, 9, 8, 737, .int 0), (175, .iload_n 3, 1, 0, 0, 0, .int 0), (176, .iaload, 1, 0, 0, 0, .int 0), (177, .iadd, 1, 0, 0, 0, .int 0), (178, .istore_n 2, 1, 0, 0, 0, .int 0), (179, .iinc 3 1, 3, 0, 0, 0, .int 1), (182, .goto (-25), 3, 0, 0, 0, .int 0), (185, .iload_n 2, 1, 0, 0, 0, .int 0), (186, .ireturn, 1, 0, 0, 0, .int 0)]
set_option maxRecDepth 100000 in
theorem pg_X9_told_2_k : pg_X9_told_2.all (ds_okb mt_X9_told.1.cls mt_X9_told.2.1) = true := by decide +kernel
def pg_X9_told : List ds_I := pg_X9_told_0 ++ (pg_X9_told_1 ++ (pg_X9_told_2))
theorem pg_X9_told_k : pg_X9_told.all (ds_okb mt_X9_told.1.cls mt_X9_told.2.1) = true := (ds_all_and pg_X9_told_0_k (ds_all_and pg_X9_told_1_k pg_X9_told_2_k))
theorem ok_X9_told : ds_good mt_X9_told pg_X9_told := ds_good_of pg_X9_told_k (by decide +kernel)
end
section
/-- one int, one long of a cell; an array's first n ints out of another -/
def ds_wi (σ : ds_S) (c k : Nat) (x : Int32) : ds_S := ds_si σ c (upd (σ.1 c) k x)
def ds_wl (σ : ds_S) (c k : Nat) (x : Int64) : ds_S := ds_sl σ c (vp_updL (σ.2 c) k x)
def ds_cp (σ : ds_S) (a b n : Nat) : ds_S := ds_si σ b (va_cpy (σ.1 a) (σ.1 b) 0 0 n)
def ds_EI (z : ds_M) (Y : ds_Y) (as : List Value) (σ : ds_S) (K : Int32 → ds_S → Prop) : Prop := ds_E z Y as σ (fun r σ' => ∃ x, r = some (.int x) ∧ K x σ')
def ds_EL (z : ds_M) (Y : ds_Y) (as : List Value) (σ : ds_S) (K : Int64 → ds_S → Prop) : Prop := ds_E z Y as σ (fun r σ' => ∃ x, r = some (.long x) ∧ K x σ')
def ds_ER (z : ds_M) (Y : ds_Y) (as : List Value) (σ : ds_S) (K : Nat → ds_S → Prop) : Prop := ds_E z Y as σ (fun r σ' => ∃ x, r = some (.ref x) ∧ K x σ')
def ds_EV (z : ds_M) (Y : ds_Y) (as : List Value) (σ : ds_S) (K : ds_S → Prop) : Prop := ds_E z Y as σ (fun r σ' => r = none ∧ K σ')
theorem ds_EI.mo {z : ds_M} {Y : ds_Y} {as : List Value} {σ : ds_S} {K K' : Int32 → ds_S → Prop} (h : ds_EI z Y as σ K) (hk : ∀ x σ', K x σ' → K' x σ') : ds_EI z Y as σ K' := ds_E.mono h fun r σ' ⟨x, e, q⟩ => ⟨x, e, hk x σ' q⟩
theorem ds_EL.mo {z : ds_M} {Y : ds_Y} {as : List Value} {σ : ds_S} {K K' : Int64 → ds_S → Prop} (h : ds_EL z Y as σ K) (hk : ∀ x σ', K x σ' → K' x σ') : ds_EL z Y as σ K' := ds_E.mono h fun r σ' ⟨x, e, q⟩ => ⟨x, e, hk x σ' q⟩
theorem ds_ER.mo {z : ds_M} {Y : ds_Y} {as : List Value} {σ : ds_S} {K K' : Nat → ds_S → Prop} (h : ds_ER z Y as σ K) (hk : ∀ x σ', K x σ' → K' x σ') : ds_ER z Y as σ K' := ds_E.mono h fun r σ' ⟨x, e, q⟩ => ⟨x, e, hk x σ' q⟩
theorem ds_EV.mo {z : ds_M} {Y : ds_Y} {as : List Value} {σ : ds_S} {K K' : ds_S → Prop} (h : ds_EV z Y as σ K) (hk : ∀ σ', K σ' → K' σ') : ds_EV z Y as σ K' := ds_E.mono h fun r σ' ⟨e, q⟩ => ⟨e, hk σ' q⟩
def Ym : ds_Y := (19, fun c => ([9, 10, 10, 10, 10, 12, 12, 10, 10, 10, 11, 11, 11, 11, 10, 10, 10, 10, 10] : List Nat).getD c 99, fun c => ([0, 10, 10, 10, 10, 10, 10, 108, 10, 6, 6, 20, 20, 20, 10, 5, 6, 21, 36] : List Nat).getD c 0, fun c k => (([[0, 1, 2, 3, 4, 5, 6, 0, 7, 0, 0, 8, 9, 0, 10, 11, 0, 12, 13, 0, 0, 0, 0, 0, 0, 0, 14, 15, 0, 0, 16, 17, 18], [], [], [], [], [], [], [], [], [], [], [], [], [], [], [], [], [], []] : List (List Nat)).getD c []).getD k 0)
def Yc : ds_Y := (65, fun c => ([8, 1, 14, 10, 10, 10, 4, 13, 0, 11, 11, 3, 6, 3, 5, 10, 3, 10, 10, 3, 7, 7, 7, 7, 7, 7, 10, 10, 10, 10, 10, 10, 10, 10, 10, 10, 10, 10, 10, 10, 10, 10, 10, 10, 10, 10, 10, 10, 10, 10, 10, 10, 10, 10, 10, 10, 2, 10, 10, 10, 10, 10, 10, 10, 10] : List Nat).getD c 99, fun c => ([0, 0, 3, 36, 36, 36, 0, 6, 0, 6, 20, 0, 0, 0, 0, 10, 0, 5, 10, 0, 0, 0, 0, 0, 0, 0, 6, 6, 6, 6, 6, 6, 6, 6, 6, 6, 6, 6, 6, 6, 6, 6, 6, 6, 10, 10, 10, 10, 10, 10, 10, 10, 10, 10, 10, 10, 0, 10, 756, 21, 36, 10, 10, 10, 10] : List Nat).getD c 0, fun c k => (([[1, 2, 6, 8, 11, 12, 14, 56, 60], [0, 0, 61, 62, 63, 64, 0, 0], [3, 4, 5], [], [], [], [7], [20, 21, 22, 23, 24, 25], [9, 10], [], [], [0, 0, 0, 0, 0, 0], [1, 2, 0, 6, 8, 13], [0, 0, 0, 0, 0, 0], [1, 12, 0, 0, 15, 16, 0, 0, 17, 0, 0, 18, 19], [], [0, 0, 0, 0, 0, 0], [], [], [0, 0, 0, 0, 0, 0], [26, 32, 0, 38, 44, 50], [27, 33, 0, 39, 45, 51], [28, 34, 0, 40, 46, 52], [29, 35, 0, 41, 47, 53], [30, 36, 0, 42, 48, 54], [31, 37, 0, 43, 49, 55], [], [], [], [], [], [], [], [], [], [], [], [], [], [], [], [], [], [], [], [], [], [], [], [], [], [], [], [], [], [], [1, 6, 57, 58, 59], [], [], [], [], [], [], [], []] : List (List Nat)).getD c []).getD k 0)
theorem ds_ac1 : Cond.native arraycopyName ∈ ds_T := ds_wb_T (p := 592) (by decide +kernel)
theorem ds_ac2 : Cond.static arraycopyName ∈ ds_T := ds_wb_T (p := 591) (by decide +kernel)
theorem ds_ac3 : Cond.initialized "java/lang/System" ∈ ds_T := ds_wb_T (p := 54) (by decide +kernel)
set_option maxRecDepth 100000 in
theorem zw_X0_sendOne : Cond.code mt_X0_sendOne.1 mt_X0_sendOne.2.1 mt_X0_sendOne.2.2.1 mt_X0_sendOne.2.2.2.1 ∈ ds_T ∧ Cond.initialized mt_X0_sendOne.1.cls ∈ ds_T ∧ (mt_X0_sendOne.1.cls ≠ "java/lang/invoke/MethodHandle" ∧ mt_X0_sendOne.1.cls ≠ "java/lang/invoke/VarHandle" ∧ (parseMethodDescriptor mt_X0_sendOne.1.desc).map (fun d => d.parameters.length) = some 3) := ⟨ds_T_of (i := 465) rfl rfl, ds_wb_T (p := 46) (by decide +kernel), by decide +kernel⟩
theorem zi_X0_sendOne : Cond.instanceMethod mt_X0_sendOne.1 ∈ ds_T := ds_wb_T (p := 463) (by decide +kernel)
theorem zs_X0_sendOne : Cond.selects mt_X0_sendOne.1.cls mt_X0_sendOne.1 mt_X0_sendOne.1 ∈ ds_T := ds_wb_T (p := 464) (by decide +kernel)
set_option maxRecDepth 100000 in
theorem zw_X0_sendTable : Cond.code mt_X0_sendTable.1 mt_X0_sendTable.2.1 mt_X0_sendTable.2.2.1 mt_X0_sendTable.2.2.2.1 ∈ ds_T ∧ Cond.initialized mt_X0_sendTable.1.cls ∈ ds_T ∧ (mt_X0_sendTable.1.cls ≠ "java/lang/invoke/MethodHandle" ∧ mt_X0_sendTable.1.cls ≠ "java/lang/invoke/VarHandle" ∧ (parseMethodDescriptor mt_X0_sendTable.1.desc).map (fun d => d.parameters.length) = some 3) := ⟨ds_T_of (i := 504) rfl rfl, ds_wb_T (p := 46) (by decide +kernel), by decide +kernel⟩
theorem zi_X0_sendTable : Cond.instanceMethod mt_X0_sendTable.1 ∈ ds_T := ds_wb_T (p := 502) (by decide +kernel)
theorem zs_X0_sendTable : Cond.selects mt_X0_sendTable.1.cls mt_X0_sendTable.1 mt_X0_sendTable.1 ∈ ds_T := ds_wb_T (p := 503) (by decide +kernel)
set_option maxRecDepth 100000 in
theorem zw_X0_collect : Cond.code mt_X0_collect.1 mt_X0_collect.2.1 mt_X0_collect.2.2.1 mt_X0_collect.2.2.2.1 ∈ ds_T ∧ Cond.initialized mt_X0_collect.1.cls ∈ ds_T ∧ (mt_X0_collect.1.cls ≠ "java/lang/invoke/MethodHandle" ∧ mt_X0_collect.1.cls ≠ "java/lang/invoke/VarHandle" ∧ (parseMethodDescriptor mt_X0_collect.1.desc).map (fun d => d.parameters.length) = some 3) := ⟨ds_T_of (i := 508) rfl rfl, ds_wb_T (p := 46) (by decide +kernel), by decide +kernel⟩
theorem zi_X0_collect : Cond.instanceMethod mt_X0_collect.1 ∈ ds_T := ds_wb_T (p := 507) (by decide +kernel)
theorem zs_X0_collect : Cond.selects mt_X0_collect.1.cls mt_X0_collect.1 mt_X0_collect.1 ∈ ds_T := ds_wb_T (p := 5) (by decide +kernel)
set_option maxRecDepth 100000 in
theorem zw_X0_pass : Cond.code mt_X0_pass.1 mt_X0_pass.2.1 mt_X0_pass.2.2.1 mt_X0_pass.2.2.2.1 ∈ ds_T ∧ Cond.initialized mt_X0_pass.1.cls ∈ ds_T ∧ (mt_X0_pass.1.cls ≠ "java/lang/invoke/MethodHandle" ∧ mt_X0_pass.1.cls ≠ "java/lang/invoke/VarHandle" ∧ (parseMethodDescriptor mt_X0_pass.1.desc).map (fun d => d.parameters.length) = some 2) := ⟨ds_T_of (i := 473) rfl rfl, ds_wb_T (p := 46) (by decide +kernel), by decide +kernel⟩
theorem zi_X0_pass : Cond.instanceMethod mt_X0_pass.1 ∈ ds_T := ds_wb_T (p := 472) (by decide +kernel)
theorem zs_X0_pass : Cond.selects mt_X0_pass.1.cls mt_X0_pass.1 mt_X0_pass.1 ∈ ds_T := ds_wb_T (p := 3) (by decide +kernel)
set_option maxRecDepth 100000 in
theorem zw_X0_divide : Cond.code mt_X0_divide.1 mt_X0_divide.2.1 mt_X0_divide.2.2.1 mt_X0_divide.2.2.2.1 ∈ ds_T ∧ Cond.initialized mt_X0_divide.1.cls ∈ ds_T ∧ (mt_X0_divide.1.cls ≠ "java/lang/invoke/MethodHandle" ∧ mt_X0_divide.1.cls ≠ "java/lang/invoke/VarHandle" ∧ (parseMethodDescriptor mt_X0_divide.1.desc).map (fun d => d.parameters.length) = some 4) := ⟨ds_T_of (i := 477) rfl rfl, ds_wb_T (p := 46) (by decide +kernel), by decide +kernel⟩
theorem zi_X0_divide : Cond.instanceMethod mt_X0_divide.1 ∈ ds_T := ds_wb_T (p := 476) (by decide +kernel)
theorem zs_X0_divide : Cond.selects mt_X0_divide.1.cls mt_X0_divide.1 mt_X0_divide.1 ∈ ds_T := ds_wb_T (p := 4) (by decide +kernel)
set_option maxRecDepth 100000 in
theorem zw_X1_renew : Cond.code mt_X1_renew.1 mt_X1_renew.2.1 mt_X1_renew.2.2.1 mt_X1_renew.2.2.2.1 ∈ ds_T ∧ Cond.initialized mt_X1_renew.1.cls ∈ ds_T ∧ (mt_X1_renew.1.cls ≠ "java/lang/invoke/MethodHandle" ∧ mt_X1_renew.1.cls ≠ "java/lang/invoke/VarHandle" ∧ (parseMethodDescriptor mt_X1_renew.1.desc).map (fun d => d.parameters.length) = some 1) := ⟨ds_T_of (i := 360) rfl rfl, ds_wb_T (p := 43) (by decide +kernel), by decide +kernel⟩
theorem zi_X1_renew : Cond.instanceMethod mt_X1_renew.1 ∈ ds_T := ds_wb_T (p := 358) (by decide +kernel)
theorem zs_X1_renew : Cond.selects mt_X1_renew.1.cls mt_X1_renew.1 mt_X1_renew.1 ∈ ds_T := ds_wb_T (p := 359) (by decide +kernel)
set_option maxRecDepth 100000 in
theorem zw_X1_join : Cond.code mt_X1_join.1 mt_X1_join.2.1 mt_X1_join.2.2.1 mt_X1_join.2.2.2.1 ∈ ds_T ∧ Cond.initialized mt_X1_join.1.cls ∈ ds_T ∧ (mt_X1_join.1.cls ≠ "java/lang/invoke/MethodHandle" ∧ mt_X1_join.1.cls ≠ "java/lang/invoke/VarHandle" ∧ (parseMethodDescriptor mt_X1_join.1.desc).map (fun d => d.parameters.length) = some 4) := ⟨ds_T_of (i := 386) rfl rfl, ds_wb_T (p := 43) (by decide +kernel), by decide +kernel⟩
theorem zi_X1_join : Cond.instanceMethod mt_X1_join.1 ∈ ds_T := ds_wb_T (p := 384) (by decide +kernel)
theorem zs_X1_join : Cond.selects mt_X1_join.1.cls mt_X1_join.1 mt_X1_join.1 ∈ ds_T := ds_wb_T (p := 385) (by decide +kernel)
set_option maxRecDepth 100000 in
theorem zw_X1_hasBox : Cond.code mt_X1_hasBox.1 mt_X1_hasBox.2.1 mt_X1_hasBox.2.2.1 mt_X1_hasBox.2.2.2.1 ∈ ds_T ∧ Cond.initialized mt_X1_hasBox.1.cls ∈ ds_T ∧ (mt_X1_hasBox.1.cls ≠ "java/lang/invoke/MethodHandle" ∧ mt_X1_hasBox.1.cls ≠ "java/lang/invoke/VarHandle" ∧ (parseMethodDescriptor mt_X1_hasBox.1.desc).map (fun d => d.parameters.length) = some 1) := ⟨ds_T_of (i := 379) rfl rfl, ds_wb_T (p := 43) (by decide +kernel), by decide +kernel⟩
theorem zi_X1_hasBox : Cond.instanceMethod mt_X1_hasBox.1 ∈ ds_T := ds_wb_T (p := 377) (by decide +kernel)
theorem zs_X1_hasBox : Cond.selects mt_X1_hasBox.1.cls mt_X1_hasBox.1 mt_X1_hasBox.1 ∈ ds_T := ds_wb_T (p := 378) (by decide +kernel)
set_option maxRecDepth 100000 in
theorem zw_X1_hasLine : Cond.code mt_X1_hasLine.1 mt_X1_hasLine.2.1 mt_X1_hasLine.2.2.1 mt_X1_hasLine.2.2.2.1 ∈ ds_T ∧ Cond.initialized mt_X1_hasLine.1.cls ∈ ds_T ∧ (mt_X1_hasLine.1.cls ≠ "java/lang/invoke/MethodHandle" ∧ mt_X1_hasLine.1.cls ≠ "java/lang/invoke/VarHandle" ∧ (parseMethodDescriptor mt_X1_hasLine.1.desc).map (fun d => d.parameters.length) = some 1) := ⟨ds_T_of (i := 394) rfl rfl, ds_wb_T (p := 43) (by decide +kernel), by decide +kernel⟩
theorem zi_X1_hasLine : Cond.instanceMethod mt_X1_hasLine.1 ∈ ds_T := ds_wb_T (p := 392) (by decide +kernel)
theorem zs_X1_hasLine : Cond.selects mt_X1_hasLine.1.cls mt_X1_hasLine.1 mt_X1_hasLine.1 ∈ ds_T := ds_wb_T (p := 393) (by decide +kernel)
set_option maxRecDepth 100000 in
theorem zw_X1_arePair : Cond.code mt_X1_arePair.1 mt_X1_arePair.2.1 mt_X1_arePair.2.2.1 mt_X1_arePair.2.2.2.1 ∈ ds_T ∧ Cond.initialized mt_X1_arePair.1.cls ∈ ds_T ∧ (mt_X1_arePair.1.cls ≠ "java/lang/invoke/MethodHandle" ∧ mt_X1_arePair.1.cls ≠ "java/lang/invoke/VarHandle" ∧ (parseMethodDescriptor mt_X1_arePair.1.desc).map (fun d => d.parameters.length) = some 2) := ⟨ds_T_of (i := 375) rfl rfl, ds_wb_T (p := 43) (by decide +kernel), by decide +kernel⟩
theorem zi_X1_arePair : Cond.instanceMethod mt_X1_arePair.1 ∈ ds_T := ds_wb_T (p := 373) (by decide +kernel)
theorem zs_X1_arePair : Cond.selects mt_X1_arePair.1.cls mt_X1_arePair.1 mt_X1_arePair.1 ∈ ds_T := ds_wb_T (p := 374) (by decide +kernel)
set_option maxRecDepth 100000 in
theorem zw_X1_linesThere : Cond.code mt_X1_linesThere.1 mt_X1_linesThere.2.1 mt_X1_linesThere.2.2.1 mt_X1_linesThere.2.2.2.1 ∈ ds_T ∧ Cond.initialized mt_X1_linesThere.1.cls ∈ ds_T ∧ (mt_X1_linesThere.1.cls ≠ "java/lang/invoke/MethodHandle" ∧ mt_X1_linesThere.1.cls ≠ "java/lang/invoke/VarHandle" ∧ (parseMethodDescriptor mt_X1_linesThere.1.desc).map (fun d => d.parameters.length) = some 1) := ⟨ds_T_of (i := 434) rfl rfl, ds_wb_T (p := 43) (by decide +kernel), by decide +kernel⟩
theorem zi_X1_linesThere : Cond.instanceMethod mt_X1_linesThere.1 ∈ ds_T := ds_wb_T (p := 432) (by decide +kernel)
theorem zs_X1_linesThere : Cond.selects mt_X1_linesThere.1.cls mt_X1_linesThere.1 mt_X1_linesThere.1 ∈ ds_T := ds_wb_T (p := 433) (by decide +kernel)
set_option maxRecDepth 100000 in
theorem zw_X2_firstRing : Cond.code mt_X2_firstRing.1 mt_X2_firstRing.2.1 mt_X2_firstRing.2.2.1 mt_X2_firstRing.2.2.2.1 ∈ ds_T ∧ Cond.initialized mt_X2_firstRing.1.cls ∈ ds_T ∧ (mt_X2_firstRing.1.cls ≠ "java/lang/invoke/MethodHandle" ∧ mt_X2_firstRing.1.cls ≠ "java/lang/invoke/VarHandle" ∧ (parseMethodDescriptor mt_X2_firstRing.1.desc).map (fun d => d.parameters.length) = some 2) := ⟨ds_T_of (i := 640) rfl rfl, ds_wb_T (p := 50) (by decide +kernel), by decide +kernel⟩
theorem zi_X2_firstRing : Cond.instanceMethod mt_X2_firstRing.1 ∈ ds_T := ds_wb_T (p := 638) (by decide +kernel)
theorem zs_X2_firstRing : Cond.selects mt_X2_firstRing.1.cls mt_X2_firstRing.1 mt_X2_firstRing.1 ∈ ds_T := ds_wb_T (p := 639) (by decide +kernel)
set_option maxRecDepth 100000 in
theorem zw_X2_countChanges : Cond.code mt_X2_countChanges.1 mt_X2_countChanges.2.1 mt_X2_countChanges.2.2.1 mt_X2_countChanges.2.2.2.1 ∈ ds_T ∧ Cond.initialized mt_X2_countChanges.1.cls ∈ ds_T ∧ (mt_X2_countChanges.1.cls ≠ "java/lang/invoke/MethodHandle" ∧ mt_X2_countChanges.1.cls ≠ "java/lang/invoke/VarHandle" ∧ (parseMethodDescriptor mt_X2_countChanges.1.desc).map (fun d => d.parameters.length) = some 2) := ⟨ds_T_of (i := 669) rfl rfl, ds_wb_T (p := 50) (by decide +kernel), by decide +kernel⟩
theorem zi_X2_countChanges : Cond.instanceMethod mt_X2_countChanges.1 ∈ ds_T := ds_wb_T (p := 667) (by decide +kernel)
theorem zs_X2_countChanges : Cond.selects mt_X2_countChanges.1.cls mt_X2_countChanges.1 mt_X2_countChanges.1 ∈ ds_T := ds_wb_T (p := 668) (by decide +kernel)
set_option maxRecDepth 100000 in
theorem zw_X2_valueAt : Cond.code mt_X2_valueAt.1 mt_X2_valueAt.2.1 mt_X2_valueAt.2.2.1 mt_X2_valueAt.2.2.2.1 ∈ ds_T ∧ Cond.initialized mt_X2_valueAt.1.cls ∈ ds_T ∧ (mt_X2_valueAt.1.cls ≠ "java/lang/invoke/MethodHandle" ∧ mt_X2_valueAt.1.cls ≠ "java/lang/invoke/VarHandle" ∧ (parseMethodDescriptor mt_X2_valueAt.1.desc).map (fun d => d.parameters.length) = some 3) := ⟨ds_T_of (i := 686) rfl rfl, ds_wb_T (p := 50) (by decide +kernel), by decide +kernel⟩
theorem zi_X2_valueAt : Cond.instanceMethod mt_X2_valueAt.1 ∈ ds_T := ds_wb_T (p := 684) (by decide +kernel)
theorem zs_X2_valueAt : Cond.selects mt_X2_valueAt.1.cls mt_X2_valueAt.1 mt_X2_valueAt.1 ∈ ds_T := ds_wb_T (p := 685) (by decide +kernel)
set_option maxRecDepth 100000 in
theorem zw_X2_leastNearer : Cond.code mt_X2_leastNearer.1 mt_X2_leastNearer.2.1 mt_X2_leastNearer.2.2.1 mt_X2_leastNearer.2.2.2.1 ∈ ds_T ∧ Cond.initialized mt_X2_leastNearer.1.cls ∈ ds_T ∧ (mt_X2_leastNearer.1.cls ≠ "java/lang/invoke/MethodHandle" ∧ mt_X2_leastNearer.1.cls ≠ "java/lang/invoke/VarHandle" ∧ (parseMethodDescriptor mt_X2_leastNearer.1.desc).map (fun d => d.parameters.length) = some 1) := ⟨ds_T_of (i := 690) rfl rfl, ds_wb_T (p := 50) (by decide +kernel), by decide +kernel⟩
theorem zi_X2_leastNearer : Cond.instanceMethod mt_X2_leastNearer.1 ∈ ds_T := ds_wb_T (p := 689) (by decide +kernel)
theorem zs_X2_leastNearer : Cond.selects mt_X2_leastNearer.1.cls mt_X2_leastNearer.1 mt_X2_leastNearer.1 ∈ ds_T := ds_wb_T (p := 19) (by decide +kernel)
set_option maxRecDepth 100000 in
theorem zw_X2_measure : Cond.code mt_X2_measure.1 mt_X2_measure.2.1 mt_X2_measure.2.2.1 mt_X2_measure.2.2.2.1 ∈ ds_T ∧ Cond.initialized mt_X2_measure.1.cls ∈ ds_T ∧ (mt_X2_measure.1.cls ≠ "java/lang/invoke/MethodHandle" ∧ mt_X2_measure.1.cls ≠ "java/lang/invoke/VarHandle" ∧ (parseMethodDescriptor mt_X2_measure.1.desc).map (fun d => d.parameters.length) = some 2) := ⟨ds_T_of (i := 673) rfl rfl, ds_wb_T (p := 50) (by decide +kernel), by decide +kernel⟩
theorem zi_X2_measure : Cond.instanceMethod mt_X2_measure.1 ∈ ds_T := ds_wb_T (p := 672) (by decide +kernel)
theorem zs_X2_measure : Cond.selects mt_X2_measure.1.cls mt_X2_measure.1 mt_X2_measure.1 ∈ ds_T := ds_wb_T (p := 17) (by decide +kernel)
set_option maxRecDepth 100000 in
theorem zw_X2_meetFrom : Cond.code mt_X2_meetFrom.1 mt_X2_meetFrom.2.1 mt_X2_meetFrom.2.2.1 mt_X2_meetFrom.2.2.2.1 ∈ ds_T ∧ Cond.initialized mt_X2_meetFrom.1.cls ∈ ds_T ∧ (mt_X2_meetFrom.1.cls ≠ "java/lang/invoke/MethodHandle" ∧ mt_X2_meetFrom.1.cls ≠ "java/lang/invoke/VarHandle" ∧ (parseMethodDescriptor mt_X2_meetFrom.1.desc).map (fun d => d.parameters.length) = some 1) := ⟨ds_T_of (i := 678) rfl rfl, ds_wb_T (p := 50) (by decide +kernel), by decide +kernel⟩
theorem zi_X2_meetFrom : Cond.instanceMethod mt_X2_meetFrom.1 ∈ ds_T := ds_wb_T (p := 677) (by decide +kernel)
theorem zs_X2_meetFrom : Cond.selects mt_X2_meetFrom.1.cls mt_X2_meetFrom.1 mt_X2_meetFrom.1 ∈ ds_T := ds_wb_T (p := 18) (by decide +kernel)
set_option maxRecDepth 100000 in
theorem zw_X2_learn : Cond.code mt_X2_learn.1 mt_X2_learn.2.1 mt_X2_learn.2.2.1 mt_X2_learn.2.2.2.1 ∈ ds_T ∧ Cond.initialized mt_X2_learn.1.cls ∈ ds_T ∧ (mt_X2_learn.1.cls ≠ "java/lang/invoke/MethodHandle" ∧ mt_X2_learn.1.cls ≠ "java/lang/invoke/VarHandle" ∧ (parseMethodDescriptor mt_X2_learn.1.desc).map (fun d => d.parameters.length) = some 2) := ⟨ds_T_of (i := 644) rfl rfl, ds_wb_T (p := 50) (by decide +kernel), by decide +kernel⟩
theorem zi_X2_learn : Cond.instanceMethod mt_X2_learn.1 ∈ ds_T := ds_wb_T (p := 643) (by decide +kernel)
theorem zs_X2_learn : Cond.selects mt_X2_learn.1.cls mt_X2_learn.1 mt_X2_learn.1 ∈ ds_T := ds_wb_T (p := 13) (by decide +kernel)
set_option maxRecDepth 100000 in
theorem zw_X2_learnSteps : Cond.code mt_X2_learnSteps.1 mt_X2_learnSteps.2.1 mt_X2_learnSteps.2.2.1 mt_X2_learnSteps.2.2.2.1 ∈ ds_T ∧ Cond.initialized mt_X2_learnSteps.1.cls ∈ ds_T ∧ (mt_X2_learnSteps.1.cls ≠ "java/lang/invoke/MethodHandle" ∧ mt_X2_learnSteps.1.cls ≠ "java/lang/invoke/VarHandle" ∧ (parseMethodDescriptor mt_X2_learnSteps.1.desc).map (fun d => d.parameters.length) = some 3) := ⟨ds_T_of (i := 650) rfl rfl, ds_wb_T (p := 50) (by decide +kernel), by decide +kernel⟩
theorem zi_X2_learnSteps : Cond.instanceMethod mt_X2_learnSteps.1 ∈ ds_T := ds_wb_T (p := 649) (by decide +kernel)
theorem zs_X2_learnSteps : Cond.selects mt_X2_learnSteps.1.cls mt_X2_learnSteps.1 mt_X2_learnSteps.1 ∈ ds_T := ds_wb_T (p := 14) (by decide +kernel)
set_option maxRecDepth 100000 in
theorem zw_X2_leastRing : Cond.code mt_X2_leastRing.1 mt_X2_leastRing.2.1 mt_X2_leastRing.2.2.1 mt_X2_leastRing.2.2.2.1 ∈ ds_T ∧ Cond.initialized mt_X2_leastRing.1.cls ∈ ds_T ∧ (mt_X2_leastRing.1.cls ≠ "java/lang/invoke/MethodHandle" ∧ mt_X2_leastRing.1.cls ≠ "java/lang/invoke/VarHandle" ∧ (parseMethodDescriptor mt_X2_leastRing.1.desc).map (fun d => d.parameters.length) = some 2) := ⟨ds_T_of (i := 657) rfl rfl, ds_wb_T (p := 50) (by decide +kernel), by decide +kernel⟩
theorem zi_X2_leastRing : Cond.instanceMethod mt_X2_leastRing.1 ∈ ds_T := ds_wb_T (p := 656) (by decide +kernel)
theorem zs_X2_leastRing : Cond.selects mt_X2_leastRing.1.cls mt_X2_leastRing.1 mt_X2_leastRing.1 ∈ ds_T := ds_wb_T (p := 15) (by decide +kernel)
set_option maxRecDepth 100000 in
theorem zw_X2_hasRing : Cond.code mt_X2_hasRing.1 mt_X2_hasRing.2.1 mt_X2_hasRing.2.2.1 mt_X2_hasRing.2.2.2.1 ∈ ds_T ∧ Cond.initialized mt_X2_hasRing.1.cls ∈ ds_T ∧ (mt_X2_hasRing.1.cls ≠ "java/lang/invoke/MethodHandle" ∧ mt_X2_hasRing.1.cls ≠ "java/lang/invoke/VarHandle" ∧ (parseMethodDescriptor mt_X2_hasRing.1.desc).map (fun d => d.parameters.length) = some 3) := ⟨ds_T_of (i := 661) rfl rfl, ds_wb_T (p := 50) (by decide +kernel), by decide +kernel⟩
theorem zi_X2_hasRing : Cond.instanceMethod mt_X2_hasRing.1 ∈ ds_T := ds_wb_T (p := 660) (by decide +kernel)
theorem zs_X2_hasRing : Cond.selects mt_X2_hasRing.1.cls mt_X2_hasRing.1 mt_X2_hasRing.1 ∈ ds_T := ds_wb_T (p := 16) (by decide +kernel)
set_option maxRecDepth 100000 in
theorem zw_X2_place : Cond.code mt_X2_place.1 mt_X2_place.2.1 mt_X2_place.2.2.1 mt_X2_place.2.2.2.1 ∈ ds_T ∧ Cond.initialized mt_X2_place.1.cls ∈ ds_T ∧ (mt_X2_place.1.cls ≠ "java/lang/invoke/MethodHandle" ∧ mt_X2_place.1.cls ≠ "java/lang/invoke/VarHandle" ∧ (parseMethodDescriptor mt_X2_place.1.desc).map (fun d => d.parameters.length) = some 3) := ⟨ds_T_of (i := 653) rfl rfl, ds_wb_T (p := 50) (by decide +kernel), by decide +kernel⟩
theorem zt_X2_place : Cond.static mt_X2_place.1 ∈ ds_T := ds_wb_T (p := 652) (by decide +kernel)
set_option maxRecDepth 100000 in
theorem zw_X3_clear : Cond.code mt_X3_clear.1 mt_X3_clear.2.1 mt_X3_clear.2.2.1 mt_X3_clear.2.2.2.1 ∈ ds_T ∧ Cond.initialized mt_X3_clear.1.cls ∈ ds_T ∧ (mt_X3_clear.1.cls ≠ "java/lang/invoke/MethodHandle" ∧ mt_X3_clear.1.cls ≠ "java/lang/invoke/VarHandle" ∧ (parseMethodDescriptor mt_X3_clear.1.desc).map (fun d => d.parameters.length) = some 0) := ⟨ds_T_of (i := 521) rfl rfl, ds_wb_T (p := 47) (by decide +kernel), by decide +kernel⟩
theorem zi_X3_clear : Cond.instanceMethod mt_X3_clear.1 ∈ ds_T := ds_wb_T (p := 519) (by decide +kernel)
theorem zs_X3_clear : Cond.selects mt_X3_clear.1.cls mt_X3_clear.1 mt_X3_clear.1 ∈ ds_T := ds_wb_T (p := 520) (by decide +kernel)
set_option maxRecDepth 100000 in
theorem zw_X3_climb : Cond.code mt_X3_climb.1 mt_X3_climb.2.1 mt_X3_climb.2.2.1 mt_X3_climb.2.2.2.1 ∈ ds_T ∧ Cond.initialized mt_X3_climb.1.cls ∈ ds_T ∧ (mt_X3_climb.1.cls ≠ "java/lang/invoke/MethodHandle" ∧ mt_X3_climb.1.cls ≠ "java/lang/invoke/VarHandle" ∧ (parseMethodDescriptor mt_X3_climb.1.desc).map (fun d => d.parameters.length) = some 2) := ⟨ds_T_of (i := 525) rfl rfl, ds_wb_T (p := 47) (by decide +kernel), by decide +kernel⟩
theorem zi_X3_climb : Cond.instanceMethod mt_X3_climb.1 ∈ ds_T := ds_wb_T (p := 523) (by decide +kernel)
theorem zs_X3_climb : Cond.selects mt_X3_climb.1.cls mt_X3_climb.1 mt_X3_climb.1 ∈ ds_T := ds_wb_T (p := 524) (by decide +kernel)
set_option maxRecDepth 100000 in
theorem zw_X3_compareWith : Cond.code mt_X3_compareWith.1 mt_X3_compareWith.2.1 mt_X3_compareWith.2.2.1 mt_X3_compareWith.2.2.2.1 ∈ ds_T ∧ Cond.initialized mt_X3_compareWith.1.cls ∈ ds_T ∧ (mt_X3_compareWith.1.cls ≠ "java/lang/invoke/MethodHandle" ∧ mt_X3_compareWith.1.cls ≠ "java/lang/invoke/VarHandle" ∧ (parseMethodDescriptor mt_X3_compareWith.1.desc).map (fun d => d.parameters.length) = some 1) := ⟨ds_T_of (i := 559) rfl rfl, ds_wb_T (p := 47) (by decide +kernel), by decide +kernel⟩
theorem zi_X3_compareWith : Cond.instanceMethod mt_X3_compareWith.1 ∈ ds_T := ds_wb_T (p := 557) (by decide +kernel)
theorem zs_X3_compareWith : Cond.selects mt_X3_compareWith.1.cls mt_X3_compareWith.1 mt_X3_compareWith.1 ∈ ds_T := ds_wb_T (p := 558) (by decide +kernel)
set_option maxRecDepth 100000 in
theorem zw_X3_isAboveOne : Cond.code mt_X3_isAboveOne.1 mt_X3_isAboveOne.2.1 mt_X3_isAboveOne.2.2.1 mt_X3_isAboveOne.2.2.2.1 ∈ ds_T ∧ Cond.initialized mt_X3_isAboveOne.1.cls ∈ ds_T ∧ (mt_X3_isAboveOne.1.cls ≠ "java/lang/invoke/MethodHandle" ∧ mt_X3_isAboveOne.1.cls ≠ "java/lang/invoke/VarHandle" ∧ (parseMethodDescriptor mt_X3_isAboveOne.1.desc).map (fun d => d.parameters.length) = some 0) := ⟨ds_T_of (i := 703) rfl rfl, ds_wb_T (p := 47) (by decide +kernel), by decide +kernel⟩
theorem zi_X3_isAboveOne : Cond.instanceMethod mt_X3_isAboveOne.1 ∈ ds_T := ds_wb_T (p := 701) (by decide +kernel)
theorem zs_X3_isAboveOne : Cond.selects mt_X3_isAboveOne.1.cls mt_X3_isAboveOne.1 mt_X3_isAboveOne.1 ∈ ds_T := ds_wb_T (p := 702) (by decide +kernel)
set_option maxRecDepth 100000 in
theorem zw_X3_copy : Cond.code mt_X3_copy.1 mt_X3_copy.2.1 mt_X3_copy.2.2.1 mt_X3_copy.2.2.2.1 ∈ ds_T ∧ Cond.initialized mt_X3_copy.1.cls ∈ ds_T ∧ (mt_X3_copy.1.cls ≠ "java/lang/invoke/MethodHandle" ∧ mt_X3_copy.1.cls ≠ "java/lang/invoke/VarHandle" ∧ (parseMethodDescriptor mt_X3_copy.1.desc).map (fun d => d.parameters.length) = some 1) := ⟨ds_T_of (i := 566) rfl rfl, ds_wb_T (p := 47) (by decide +kernel), by decide +kernel⟩
theorem zi_X3_copy : Cond.instanceMethod mt_X3_copy.1 ∈ ds_T := ds_wb_T (p := 564) (by decide +kernel)
theorem zs_X3_copy : Cond.selects mt_X3_copy.1.cls mt_X3_copy.1 mt_X3_copy.1 ∈ ds_T := ds_wb_T (p := 565) (by decide +kernel)
set_option maxRecDepth 100000 in
theorem zw_X4_findOne : Cond.code mt_X4_findOne.1 mt_X4_findOne.2.1 mt_X4_findOne.2.2.1 mt_X4_findOne.2.2.2.1 ∈ ds_T ∧ Cond.initialized mt_X4_findOne.1.cls ∈ ds_T ∧ (mt_X4_findOne.1.cls ≠ "java/lang/invoke/MethodHandle" ∧ mt_X4_findOne.1.cls ≠ "java/lang/invoke/VarHandle" ∧ (parseMethodDescriptor mt_X4_findOne.1.desc).map (fun d => d.parameters.length) = some 2) := ⟨ds_T_of (i := 430) rfl rfl, ds_wb_T (p := 44) (by decide +kernel), by decide +kernel⟩
theorem zi_X4_findOne : Cond.instanceMethod mt_X4_findOne.1 ∈ ds_T := ds_wb_T (p := 428) (by decide +kernel)
theorem zs_X4_findOne : Cond.selects mt_X4_findOne.1.cls mt_X4_findOne.1 mt_X4_findOne.1 ∈ ds_T := ds_wb_T (p := 429) (by decide +kernel)
set_option maxRecDepth 100000 in
theorem zw_X4_findAll : Cond.code mt_X4_findAll.1 mt_X4_findAll.2.1 mt_X4_findAll.2.2.1 mt_X4_findAll.2.2.2.1 ∈ ds_T ∧ Cond.initialized mt_X4_findAll.1.cls ∈ ds_T ∧ (mt_X4_findAll.1.cls ≠ "java/lang/invoke/MethodHandle" ∧ mt_X4_findAll.1.cls ≠ "java/lang/invoke/VarHandle" ∧ (parseMethodDescriptor mt_X4_findAll.1.desc).map (fun d => d.parameters.length) = some 2) := ⟨ds_T_of (i := 495) rfl rfl, ds_wb_T (p := 44) (by decide +kernel), by decide +kernel⟩
theorem zi_X4_findAll : Cond.instanceMethod mt_X4_findAll.1 ∈ ds_T := ds_wb_T (p := 493) (by decide +kernel)
theorem zs_X4_findAll : Cond.selects mt_X4_findAll.1.cls mt_X4_findAll.1 mt_X4_findAll.1 ∈ ds_T := ds_wb_T (p := 494) (by decide +kernel)
set_option maxRecDepth 100000 in
theorem zw_X4_findSome : Cond.code mt_X4_findSome.1 mt_X4_findSome.2.1 mt_X4_findSome.2.2.1 mt_X4_findSome.2.2.2.1 ∈ ds_T ∧ Cond.initialized mt_X4_findSome.1.cls ∈ ds_T ∧ (mt_X4_findSome.1.cls ≠ "java/lang/invoke/MethodHandle" ∧ mt_X4_findSome.1.cls ≠ "java/lang/invoke/VarHandle" ∧ (parseMethodDescriptor mt_X4_findSome.1.desc).map (fun d => d.parameters.length) = some 4) := ⟨ds_T_of (i := 499) rfl rfl, ds_wb_T (p := 44) (by decide +kernel), by decide +kernel⟩
theorem zi_X4_findSome : Cond.instanceMethod mt_X4_findSome.1 ∈ ds_T := ds_wb_T (p := 497) (by decide +kernel)
theorem zs_X4_findSome : Cond.selects mt_X4_findSome.1.cls mt_X4_findSome.1 mt_X4_findSome.1 ∈ ds_T := ds_wb_T (p := 498) (by decide +kernel)
set_option maxRecDepth 100000 in
theorem zw_X5_forget : Cond.code mt_X5_forget.1 mt_X5_forget.2.1 mt_X5_forget.2.2.1 mt_X5_forget.2.2.2.1 ∈ ds_T ∧ Cond.initialized mt_X5_forget.1.cls ∈ ds_T ∧ (mt_X5_forget.1.cls ≠ "java/lang/invoke/MethodHandle" ∧ mt_X5_forget.1.cls ≠ "java/lang/invoke/VarHandle" ∧ (parseMethodDescriptor mt_X5_forget.1.desc).map (fun d => d.parameters.length) = some 0) := ⟨ds_T_of (i := 367) rfl rfl, ds_wb_T (p := 49) (by decide +kernel), by decide +kernel⟩
theorem zi_X5_forget : Cond.instanceMethod mt_X5_forget.1 ∈ ds_T := ds_wb_T (p := 365) (by decide +kernel)
theorem zs_X5_forget : Cond.selects mt_X5_forget.1.cls mt_X5_forget.1 mt_X5_forget.1 ∈ ds_T := ds_wb_T (p := 366) (by decide +kernel)
set_option maxRecDepth 100000 in
theorem zw_X5_search : Cond.code mt_X5_search.1 mt_X5_search.2.1 mt_X5_search.2.2.1 mt_X5_search.2.2.2.1 ∈ ds_T ∧ Cond.initialized mt_X5_search.1.cls ∈ ds_T ∧ (mt_X5_search.1.cls ≠ "java/lang/invoke/MethodHandle" ∧ mt_X5_search.1.cls ≠ "java/lang/invoke/VarHandle" ∧ (parseMethodDescriptor mt_X5_search.1.desc).map (fun d => d.parameters.length) = some 2) := ⟨ds_T_of (i := 583) rfl rfl, ds_wb_T (p := 49) (by decide +kernel), by decide +kernel⟩
theorem zi_X5_search : Cond.instanceMethod mt_X5_search.1 ∈ ds_T := ds_wb_T (p := 581) (by decide +kernel)
theorem zs_X5_search : Cond.selects mt_X5_search.1.cls mt_X5_search.1 mt_X5_search.1 ∈ ds_T := ds_wb_T (p := 582) (by decide +kernel)
set_option maxRecDepth 100000 in
theorem zw_X5_chooseFree : Cond.code mt_X5_chooseFree.1 mt_X5_chooseFree.2.1 mt_X5_chooseFree.2.2.1 mt_X5_chooseFree.2.2.2.1 ∈ ds_T ∧ Cond.initialized mt_X5_chooseFree.1.cls ∈ ds_T ∧ (mt_X5_chooseFree.1.cls ≠ "java/lang/invoke/MethodHandle" ∧ mt_X5_chooseFree.1.cls ≠ "java/lang/invoke/VarHandle" ∧ (parseMethodDescriptor mt_X5_chooseFree.1.desc).map (fun d => d.parameters.length) = some 0) := ⟨ds_T_of (i := 588) rfl rfl, ds_wb_T (p := 49) (by decide +kernel), by decide +kernel⟩
theorem zi_X5_chooseFree : Cond.instanceMethod mt_X5_chooseFree.1 ∈ ds_T := ds_wb_T (p := 587) (by decide +kernel)
theorem zs_X5_chooseFree : Cond.selects mt_X5_chooseFree.1.cls mt_X5_chooseFree.1 mt_X5_chooseFree.1 ∈ ds_T := ds_wb_T (p := 7) (by decide +kernel)
set_option maxRecDepth 100000 in
theorem zw_X5_countChoices : Cond.code mt_X5_countChoices.1 mt_X5_countChoices.2.1 mt_X5_countChoices.2.2.1 mt_X5_countChoices.2.2.2.1 ∈ ds_T ∧ Cond.initialized mt_X5_countChoices.1.cls ∈ ds_T ∧ (mt_X5_countChoices.1.cls ≠ "java/lang/invoke/MethodHandle" ∧ mt_X5_countChoices.1.cls ≠ "java/lang/invoke/VarHandle" ∧ (parseMethodDescriptor mt_X5_countChoices.1.desc).map (fun d => d.parameters.length) = some 0) := ⟨ds_T_of (i := 597) rfl rfl, ds_wb_T (p := 49) (by decide +kernel), by decide +kernel⟩
theorem zi_X5_countChoices : Cond.instanceMethod mt_X5_countChoices.1 ∈ ds_T := ds_wb_T (p := 596) (by decide +kernel)
theorem zs_X5_countChoices : Cond.selects mt_X5_countChoices.1.cls mt_X5_countChoices.1 mt_X5_countChoices.1 ∈ ds_T := ds_wb_T (p := 8) (by decide +kernel)
set_option maxRecDepth 100000 in
theorem zw_X5_choicesOf : Cond.code mt_X5_choicesOf.1 mt_X5_choicesOf.2.1 mt_X5_choicesOf.2.2.1 mt_X5_choicesOf.2.2.2.1 ∈ ds_T ∧ Cond.initialized mt_X5_choicesOf.1.cls ∈ ds_T ∧ (mt_X5_choicesOf.1.cls ≠ "java/lang/invoke/MethodHandle" ∧ mt_X5_choicesOf.1.cls ≠ "java/lang/invoke/VarHandle" ∧ (parseMethodDescriptor mt_X5_choicesOf.1.desc).map (fun d => d.parameters.length) = some 1) := ⟨ds_T_of (i := 601) rfl rfl, ds_wb_T (p := 49) (by decide +kernel), by decide +kernel⟩
theorem zi_X5_choicesOf : Cond.instanceMethod mt_X5_choicesOf.1 ∈ ds_T := ds_wb_T (p := 600) (by decide +kernel)
theorem zs_X5_choicesOf : Cond.selects mt_X5_choicesOf.1.cls mt_X5_choicesOf.1 mt_X5_choicesOf.1 ∈ ds_T := ds_wb_T (p := 9) (by decide +kernel)
set_option maxRecDepth 100000 in
theorem zw_X5_choose : Cond.code mt_X5_choose.1 mt_X5_choose.2.1 mt_X5_choose.2.2.1 mt_X5_choose.2.2.2.1 ∈ ds_T ∧ Cond.initialized mt_X5_choose.1.cls ∈ ds_T ∧ (mt_X5_choose.1.cls ≠ "java/lang/invoke/MethodHandle" ∧ mt_X5_choose.1.cls ≠ "java/lang/invoke/VarHandle" ∧ (parseMethodDescriptor mt_X5_choose.1.desc).map (fun d => d.parameters.length) = some 1) := ⟨ds_T_of (i := 605) rfl rfl, ds_wb_T (p := 49) (by decide +kernel), by decide +kernel⟩
theorem zi_X5_choose : Cond.instanceMethod mt_X5_choose.1 ∈ ds_T := ds_wb_T (p := 604) (by decide +kernel)
theorem zs_X5_choose : Cond.selects mt_X5_choose.1.cls mt_X5_choose.1 mt_X5_choose.1 ∈ ds_T := ds_wb_T (p := 10) (by decide +kernel)
set_option maxRecDepth 100000 in
theorem zw_X5_isBetter : Cond.code mt_X5_isBetter.1 mt_X5_isBetter.2.1 mt_X5_isBetter.2.2.1 mt_X5_isBetter.2.2.2.1 ∈ ds_T ∧ Cond.initialized mt_X5_isBetter.1.cls ∈ ds_T ∧ (mt_X5_isBetter.1.cls ≠ "java/lang/invoke/MethodHandle" ∧ mt_X5_isBetter.1.cls ≠ "java/lang/invoke/VarHandle" ∧ (parseMethodDescriptor mt_X5_isBetter.1.desc).map (fun d => d.parameters.length) = some 1) := ⟨ds_T_of (i := 609) rfl rfl, ds_wb_T (p := 49) (by decide +kernel), by decide +kernel⟩
theorem zi_X5_isBetter : Cond.instanceMethod mt_X5_isBetter.1 ∈ ds_T := ds_wb_T (p := 608) (by decide +kernel)
theorem zs_X5_isBetter : Cond.selects mt_X5_isBetter.1.cls mt_X5_isBetter.1 mt_X5_isBetter.1 ∈ ds_T := ds_wb_T (p := 11) (by decide +kernel)
set_option maxRecDepth 100000 in
theorem zw_X6_findWorst : Cond.code mt_X6_findWorst.1 mt_X6_findWorst.2.1 mt_X6_findWorst.2.2.1 mt_X6_findWorst.2.2.2.1 ∈ ds_T ∧ Cond.initialized mt_X6_findWorst.1.cls ∈ ds_T ∧ (mt_X6_findWorst.1.cls ≠ "java/lang/invoke/MethodHandle" ∧ mt_X6_findWorst.1.cls ≠ "java/lang/invoke/VarHandle" ∧ (parseMethodDescriptor mt_X6_findWorst.1.desc).map (fun d => d.parameters.length) = some 2) := ⟨ds_T_of (i := 538) rfl rfl, ds_wb_T (p := 48) (by decide +kernel), by decide +kernel⟩
theorem zi_X6_findWorst : Cond.instanceMethod mt_X6_findWorst.1 ∈ ds_T := ds_wb_T (p := 536) (by decide +kernel)
theorem zs_X6_findWorst : Cond.selects mt_X6_findWorst.1.cls mt_X6_findWorst.1 mt_X6_findWorst.1 ∈ ds_T := ds_wb_T (p := 537) (by decide +kernel)
set_option maxRecDepth 100000 in
theorem zw_X6_countNets : Cond.code mt_X6_countNets.1 mt_X6_countNets.2.1 mt_X6_countNets.2.2.1 mt_X6_countNets.2.2.2.1 ∈ ds_T ∧ Cond.initialized mt_X6_countNets.1.cls ∈ ds_T ∧ (mt_X6_countNets.1.cls ≠ "java/lang/invoke/MethodHandle" ∧ mt_X6_countNets.1.cls ≠ "java/lang/invoke/VarHandle" ∧ (parseMethodDescriptor mt_X6_countNets.1.desc).map (fun d => d.parameters.length) = some 0) := ⟨ds_T_of (i := 547) rfl rfl, ds_wb_T (p := 48) (by decide +kernel), by decide +kernel⟩
theorem zi_X6_countNets : Cond.instanceMethod mt_X6_countNets.1 ∈ ds_T := ds_wb_T (p := 545) (by decide +kernel)
theorem zs_X6_countNets : Cond.selects mt_X6_countNets.1.cls mt_X6_countNets.1 mt_X6_countNets.1 ∈ ds_T := ds_wb_T (p := 546) (by decide +kernel)
set_option maxRecDepth 100000 in
theorem zw_X6_addNet : Cond.code mt_X6_addNet.1 mt_X6_addNet.2.1 mt_X6_addNet.2.2.1 mt_X6_addNet.2.2.2.1 ∈ ds_T ∧ Cond.initialized mt_X6_addNet.1.cls ∈ ds_T ∧ (mt_X6_addNet.1.cls ≠ "java/lang/invoke/MethodHandle" ∧ mt_X6_addNet.1.cls ≠ "java/lang/invoke/VarHandle" ∧ (parseMethodDescriptor mt_X6_addNet.1.desc).map (fun d => d.parameters.length) = some 4) := ⟨ds_T_of (i := 551) rfl rfl, ds_wb_T (p := 48) (by decide +kernel), by decide +kernel⟩
theorem zi_X6_addNet : Cond.instanceMethod mt_X6_addNet.1 ∈ ds_T := ds_wb_T (p := 549) (by decide +kernel)
theorem zs_X6_addNet : Cond.selects mt_X6_addNet.1.cls mt_X6_addNet.1 mt_X6_addNet.1 ∈ ds_T := ds_wb_T (p := 550) (by decide +kernel)
set_option maxRecDepth 100000 in
theorem zw_X6_targetsOfLoads : Cond.code mt_X6_targetsOfLoads.1 mt_X6_targetsOfLoads.2.1 mt_X6_targetsOfLoads.2.2.1 mt_X6_targetsOfLoads.2.2.2.1 ∈ ds_T ∧ Cond.initialized mt_X6_targetsOfLoads.1.cls ∈ ds_T ∧ (mt_X6_targetsOfLoads.1.cls ≠ "java/lang/invoke/MethodHandle" ∧ mt_X6_targetsOfLoads.1.cls ≠ "java/lang/invoke/VarHandle" ∧ (parseMethodDescriptor mt_X6_targetsOfLoads.1.desc).map (fun d => d.parameters.length) = some 0) := ⟨ds_T_of (i := 543) rfl rfl, ds_wb_T (p := 48) (by decide +kernel), by decide +kernel⟩
theorem zi_X6_targetsOfLoads : Cond.instanceMethod mt_X6_targetsOfLoads.1 ∈ ds_T := ds_wb_T (p := 541) (by decide +kernel)
theorem zs_X6_targetsOfLoads : Cond.selects mt_X6_targetsOfLoads.1.cls mt_X6_targetsOfLoads.1 mt_X6_targetsOfLoads.1 ∈ ds_T := ds_wb_T (p := 542) (by decide +kernel)
set_option maxRecDepth 100000 in
theorem zw_X7_find : Cond.code mt_X7_find.1 mt_X7_find.2.1 mt_X7_find.2.2.1 mt_X7_find.2.2.2.1 ∈ ds_T ∧ Cond.initialized mt_X7_find.1.cls ∈ ds_T ∧ (mt_X7_find.1.cls ≠ "java/lang/invoke/MethodHandle" ∧ mt_X7_find.1.cls ≠ "java/lang/invoke/VarHandle" ∧ (parseMethodDescriptor mt_X7_find.1.desc).map (fun d => d.parameters.length) = some 4) := ⟨ds_T_of (i := 438) rfl rfl, ds_wb_T (p := 45) (by decide +kernel), by decide +kernel⟩
theorem zi_X7_find : Cond.instanceMethod mt_X7_find.1 ∈ ds_T := ds_wb_T (p := 436) (by decide +kernel)
theorem zs_X7_find : Cond.selects mt_X7_find.1.cls mt_X7_find.1 mt_X7_find.1 ∈ ds_T := ds_wb_T (p := 437) (by decide +kernel)
set_option maxRecDepth 100000 in
theorem zw_X7_nearest : Cond.code mt_X7_nearest.1 mt_X7_nearest.2.1 mt_X7_nearest.2.2.1 mt_X7_nearest.2.2.2.1 ∈ ds_T ∧ Cond.initialized mt_X7_nearest.1.cls ∈ ds_T ∧ (mt_X7_nearest.1.cls ≠ "java/lang/invoke/MethodHandle" ∧ mt_X7_nearest.1.cls ≠ "java/lang/invoke/VarHandle" ∧ (parseMethodDescriptor mt_X7_nearest.1.desc).map (fun d => d.parameters.length) = some 2) := ⟨ds_T_of (i := 443) rfl rfl, ds_wb_T (p := 45) (by decide +kernel), by decide +kernel⟩
theorem zi_X7_nearest : Cond.instanceMethod mt_X7_nearest.1 ∈ ds_T := ds_wb_T (p := 442) (by decide +kernel)
theorem zs_X7_nearest : Cond.selects mt_X7_nearest.1.cls mt_X7_nearest.1 mt_X7_nearest.1 ∈ ds_T := ds_wb_T (p := 0) (by decide +kernel)
set_option maxRecDepth 100000 in
theorem zw_X7_comeNearerBy : Cond.code mt_X7_comeNearerBy.1 mt_X7_comeNearerBy.2.1 mt_X7_comeNearerBy.2.2.1 mt_X7_comeNearerBy.2.2.2.1 ∈ ds_T ∧ Cond.initialized mt_X7_comeNearerBy.1.cls ∈ ds_T ∧ (mt_X7_comeNearerBy.1.cls ≠ "java/lang/invoke/MethodHandle" ∧ mt_X7_comeNearerBy.1.cls ≠ "java/lang/invoke/VarHandle" ∧ (parseMethodDescriptor mt_X7_comeNearerBy.1.desc).map (fun d => d.parameters.length) = some 4) := ⟨ds_T_of (i := 447) rfl rfl, ds_wb_T (p := 45) (by decide +kernel), by decide +kernel⟩
theorem zi_X7_comeNearerBy : Cond.instanceMethod mt_X7_comeNearerBy.1 ∈ ds_T := ds_wb_T (p := 446) (by decide +kernel)
theorem zs_X7_comeNearerBy : Cond.selects mt_X7_comeNearerBy.1.cls mt_X7_comeNearerBy.1 mt_X7_comeNearerBy.1 ∈ ds_T := ds_wb_T (p := 1) (by decide +kernel)
set_option maxRecDepth 100000 in
theorem zw_X7_findNext : Cond.code mt_X7_findNext.1 mt_X7_findNext.2.1 mt_X7_findNext.2.2.1 mt_X7_findNext.2.2.2.1 ∈ ds_T ∧ Cond.initialized mt_X7_findNext.1.cls ∈ ds_T ∧ (mt_X7_findNext.1.cls ≠ "java/lang/invoke/MethodHandle" ∧ mt_X7_findNext.1.cls ≠ "java/lang/invoke/VarHandle" ∧ (parseMethodDescriptor mt_X7_findNext.1.desc).map (fun d => d.parameters.length) = some 3) := ⟨ds_T_of (i := 451) rfl rfl, ds_wb_T (p := 45) (by decide +kernel), by decide +kernel⟩
theorem zi_X7_findNext : Cond.instanceMethod mt_X7_findNext.1 ∈ ds_T := ds_wb_T (p := 450) (by decide +kernel)
theorem zs_X7_findNext : Cond.selects mt_X7_findNext.1.cls mt_X7_findNext.1 mt_X7_findNext.1 ∈ ds_T := ds_wb_T (p := 2) (by decide +kernel)
set_option maxRecDepth 100000 in
theorem zw_X8_boxes : Cond.code mt_X8_boxes.1 mt_X8_boxes.2.1 mt_X8_boxes.2.2.1 mt_X8_boxes.2.2.2.1 ∈ ds_T ∧ Cond.initialized mt_X8_boxes.1.cls ∈ ds_T ∧ (mt_X8_boxes.1.cls ≠ "java/lang/invoke/MethodHandle" ∧ mt_X8_boxes.1.cls ≠ "java/lang/invoke/VarHandle" ∧ (parseMethodDescriptor mt_X8_boxes.1.desc).map (fun d => d.parameters.length) = some 1) := ⟨ds_T_of (i := 356) rfl rfl, ds_wb_T (p := 42) (by decide +kernel), by decide +kernel⟩
theorem zi_X8_boxes : Cond.instanceMethod mt_X8_boxes.1 ∈ ds_T := ds_wb_T (p := 354) (by decide +kernel)
theorem zs_X8_boxes : Cond.selects mt_X8_boxes.1.cls mt_X8_boxes.1 mt_X8_boxes.1 ∈ ds_T := ds_wb_T (p := 355) (by decide +kernel)
set_option maxRecDepth 100000 in
theorem zw_X8_line : Cond.code mt_X8_line.1 mt_X8_line.2.1 mt_X8_line.2.2.1 mt_X8_line.2.2.2.1 ∈ ds_T ∧ Cond.initialized mt_X8_line.1.cls ∈ ds_T ∧ (mt_X8_line.1.cls ≠ "java/lang/invoke/MethodHandle" ∧ mt_X8_line.1.cls ≠ "java/lang/invoke/VarHandle" ∧ (parseMethodDescriptor mt_X8_line.1.desc).map (fun d => d.parameters.length) = some 4) := ⟨ds_T_of (i := 371) rfl rfl, ds_wb_T (p := 42) (by decide +kernel), by decide +kernel⟩
theorem zi_X8_line : Cond.instanceMethod mt_X8_line.1 ∈ ds_T := ds_wb_T (p := 369) (by decide +kernel)
theorem zs_X8_line : Cond.selects mt_X8_line.1.cls mt_X8_line.1 mt_X8_line.1 ∈ ds_T := ds_wb_T (p := 370) (by decide +kernel)
set_option maxRecDepth 100000 in
theorem zw_X8_about : Cond.code mt_X8_about.1 mt_X8_about.2.1 mt_X8_about.2.2.1 mt_X8_about.2.2.2.1 ∈ ds_T ∧ Cond.initialized mt_X8_about.1.cls ∈ ds_T ∧ (mt_X8_about.1.cls ≠ "java/lang/invoke/MethodHandle" ∧ mt_X8_about.1.cls ≠ "java/lang/invoke/VarHandle" ∧ (parseMethodDescriptor mt_X8_about.1.desc).map (fun d => d.parameters.length) = some 2) := ⟨ds_T_of (i := 390) rfl rfl, ds_wb_T (p := 42) (by decide +kernel), by decide +kernel⟩
theorem zi_X8_about : Cond.instanceMethod mt_X8_about.1 ∈ ds_T := ds_wb_T (p := 388) (by decide +kernel)
theorem zs_X8_about : Cond.selects mt_X8_about.1.cls mt_X8_about.1 mt_X8_about.1 ∈ ds_T := ds_wb_T (p := 389) (by decide +kernel)
set_option maxRecDepth 100000 in
theorem zw_X8_weigh : Cond.code mt_X8_weigh.1 mt_X8_weigh.2.1 mt_X8_weigh.2.2.1 mt_X8_weigh.2.2.2.1 ∈ ds_T ∧ Cond.initialized mt_X8_weigh.1.cls ∈ ds_T ∧ (mt_X8_weigh.1.cls ≠ "java/lang/invoke/MethodHandle" ∧ mt_X8_weigh.1.cls ≠ "java/lang/invoke/VarHandle" ∧ (parseMethodDescriptor mt_X8_weigh.1.desc).map (fun d => d.parameters.length) = some 2) := ⟨ds_T_of (i := 401) rfl rfl, ds_wb_T (p := 42) (by decide +kernel), by decide +kernel⟩
theorem zi_X8_weigh : Cond.instanceMethod mt_X8_weigh.1 ∈ ds_T := ds_wb_T (p := 399) (by decide +kernel)
theorem zs_X8_weigh : Cond.selects mt_X8_weigh.1.cls mt_X8_weigh.1 mt_X8_weigh.1 ∈ ds_T := ds_wb_T (p := 400) (by decide +kernel)
set_option maxRecDepth 100000 in
theorem zw_X8_mark : Cond.code mt_X8_mark.1 mt_X8_mark.2.1 mt_X8_mark.2.2.1 mt_X8_mark.2.2.2.1 ∈ ds_T ∧ Cond.initialized mt_X8_mark.1.cls ∈ ds_T ∧ (mt_X8_mark.1.cls ≠ "java/lang/invoke/MethodHandle" ∧ mt_X8_mark.1.cls ≠ "java/lang/invoke/VarHandle" ∧ (parseMethodDescriptor mt_X8_mark.1.desc).map (fun d => d.parameters.length) = some 3) := ⟨ds_T_of (i := 405) rfl rfl, ds_wb_T (p := 42) (by decide +kernel), by decide +kernel⟩
theorem zi_X8_mark : Cond.instanceMethod mt_X8_mark.1 ∈ ds_T := ds_wb_T (p := 403) (by decide +kernel)
theorem zs_X8_mark : Cond.selects mt_X8_mark.1.cls mt_X8_mark.1 mt_X8_mark.1 ∈ ds_T := ds_wb_T (p := 404) (by decide +kernel)
set_option maxRecDepth 100000 in
theorem zw_X8_load : Cond.code mt_X8_load.1 mt_X8_load.2.1 mt_X8_load.2.2.1 mt_X8_load.2.2.2.1 ∈ ds_T ∧ Cond.initialized mt_X8_load.1.cls ∈ ds_T ∧ (mt_X8_load.1.cls ≠ "java/lang/invoke/MethodHandle" ∧ mt_X8_load.1.cls ≠ "java/lang/invoke/VarHandle" ∧ (parseMethodDescriptor mt_X8_load.1.desc).map (fun d => d.parameters.length) = some 4) := ⟨ds_T_of (i := 415) rfl rfl, ds_wb_T (p := 42) (by decide +kernel), by decide +kernel⟩
theorem zi_X8_load : Cond.instanceMethod mt_X8_load.1 ∈ ds_T := ds_wb_T (p := 413) (by decide +kernel)
theorem zs_X8_load : Cond.selects mt_X8_load.1.cls mt_X8_load.1 mt_X8_load.1 ∈ ds_T := ds_wb_T (p := 414) (by decide +kernel)
set_option maxRecDepth 100000 in
theorem zw_X8_least : Cond.code mt_X8_least.1 mt_X8_least.2.1 mt_X8_least.2.2.1 mt_X8_least.2.2.2.1 ∈ ds_T ∧ Cond.initialized mt_X8_least.1.cls ∈ ds_T ∧ (mt_X8_least.1.cls ≠ "java/lang/invoke/MethodHandle" ∧ mt_X8_least.1.cls ≠ "java/lang/invoke/VarHandle" ∧ (parseMethodDescriptor mt_X8_least.1.desc).map (fun d => d.parameters.length) = some 2) := ⟨ds_T_of (i := 425) rfl rfl, ds_wb_T (p := 42) (by decide +kernel), by decide +kernel⟩
theorem zi_X8_least : Cond.instanceMethod mt_X8_least.1 ∈ ds_T := ds_wb_T (p := 423) (by decide +kernel)
theorem zs_X8_least : Cond.selects mt_X8_least.1.cls mt_X8_least.1 mt_X8_least.1 ∈ ds_T := ds_wb_T (p := 424) (by decide +kernel)
set_option maxRecDepth 100000 in
theorem zw_X8_next : Cond.code mt_X8_next.1 mt_X8_next.2.1 mt_X8_next.2.2.1 mt_X8_next.2.2.2.1 ∈ ds_T ∧ Cond.initialized mt_X8_next.1.cls ∈ ds_T ∧ (mt_X8_next.1.cls ≠ "java/lang/invoke/MethodHandle" ∧ mt_X8_next.1.cls ≠ "java/lang/invoke/VarHandle" ∧ (parseMethodDescriptor mt_X8_next.1.desc).map (fun d => d.parameters.length) = some 2) := ⟨ds_T_of (i := 455) rfl rfl, ds_wb_T (p := 42) (by decide +kernel), by decide +kernel⟩
theorem zi_X8_next : Cond.instanceMethod mt_X8_next.1 ∈ ds_T := ds_wb_T (p := 453) (by decide +kernel)
theorem zs_X8_next : Cond.selects mt_X8_next.1.cls mt_X8_next.1 mt_X8_next.1 ∈ ds_T := ds_wb_T (p := 454) (by decide +kernel)
set_option maxRecDepth 100000 in
theorem zw_X8_share : Cond.code mt_X8_share.1 mt_X8_share.2.1 mt_X8_share.2.2.1 mt_X8_share.2.2.2.1 ∈ ds_T ∧ Cond.initialized mt_X8_share.1.cls ∈ ds_T ∧ (mt_X8_share.1.cls ≠ "java/lang/invoke/MethodHandle" ∧ mt_X8_share.1.cls ≠ "java/lang/invoke/VarHandle" ∧ (parseMethodDescriptor mt_X8_share.1.desc).map (fun d => d.parameters.length) = some 5) := ⟨ds_T_of (i := 459) rfl rfl, ds_wb_T (p := 42) (by decide +kernel), by decide +kernel⟩
theorem zi_X8_share : Cond.instanceMethod mt_X8_share.1 ∈ ds_T := ds_wb_T (p := 457) (by decide +kernel)
theorem zs_X8_share : Cond.selects mt_X8_share.1.cls mt_X8_share.1 mt_X8_share.1 ∈ ds_T := ds_wb_T (p := 458) (by decide +kernel)
set_option maxRecDepth 100000 in
theorem zw_X8_on : Cond.code mt_X8_on.1 mt_X8_on.2.1 mt_X8_on.2.2.1 mt_X8_on.2.2.2.1 ∈ ds_T ∧ Cond.initialized mt_X8_on.1.cls ∈ ds_T ∧ (mt_X8_on.1.cls ≠ "java/lang/invoke/MethodHandle" ∧ mt_X8_on.1.cls ≠ "java/lang/invoke/VarHandle" ∧ (parseMethodDescriptor mt_X8_on.1.desc).map (fun d => d.parameters.length) = some 4) := ⟨ds_T_of (i := 491) rfl rfl, ds_wb_T (p := 42) (by decide +kernel), by decide +kernel⟩
theorem zi_X8_on : Cond.instanceMethod mt_X8_on.1 ∈ ds_T := ds_wb_T (p := 489) (by decide +kernel)
theorem zs_X8_on : Cond.selects mt_X8_on.1.cls mt_X8_on.1 mt_X8_on.1 ∈ ds_T := ds_wb_T (p := 490) (by decide +kernel)
set_option maxRecDepth 100000 in
theorem zw_X8_worst : Cond.code mt_X8_worst.1 mt_X8_worst.2.1 mt_X8_worst.2.2.1 mt_X8_worst.2.2.2.1 ∈ ds_T ∧ Cond.initialized mt_X8_worst.1.cls ∈ ds_T ∧ (mt_X8_worst.1.cls ≠ "java/lang/invoke/MethodHandle" ∧ mt_X8_worst.1.cls ≠ "java/lang/invoke/VarHandle" ∧ (parseMethodDescriptor mt_X8_worst.1.desc).map (fun d => d.parameters.length) = some 2) := ⟨ds_T_of (i := 513) rfl rfl, ds_wb_T (p := 42) (by decide +kernel), by decide +kernel⟩
theorem zi_X8_worst : Cond.instanceMethod mt_X8_worst.1 ∈ ds_T := ds_wb_T (p := 511) (by decide +kernel)
theorem zs_X8_worst : Cond.selects mt_X8_worst.1.cls mt_X8_worst.1 mt_X8_worst.1 ∈ ds_T := ds_wb_T (p := 512) (by decide +kernel)
set_option maxRecDepth 100000 in
theorem zw_X8_guard : Cond.code mt_X8_guard.1 mt_X8_guard.2.1 mt_X8_guard.2.2.1 mt_X8_guard.2.2.2.1 ∈ ds_T ∧ Cond.initialized mt_X8_guard.1.cls ∈ ds_T ∧ (mt_X8_guard.1.cls ≠ "java/lang/invoke/MethodHandle" ∧ mt_X8_guard.1.cls ≠ "java/lang/invoke/VarHandle" ∧ (parseMethodDescriptor mt_X8_guard.1.desc).map (fun d => d.parameters.length) = some 1) := ⟨ds_T_of (i := 530) rfl rfl, ds_wb_T (p := 42) (by decide +kernel), by decide +kernel⟩
theorem zi_X8_guard : Cond.instanceMethod mt_X8_guard.1 ∈ ds_T := ds_wb_T (p := 528) (by decide +kernel)
theorem zs_X8_guard : Cond.selects mt_X8_guard.1.cls mt_X8_guard.1 mt_X8_guard.1 ∈ ds_T := ds_wb_T (p := 529) (by decide +kernel)
set_option maxRecDepth 100000 in
theorem zw_X8_all : Cond.code mt_X8_all.1 mt_X8_all.2.1 mt_X8_all.2.2.1 mt_X8_all.2.2.2.1 ∈ ds_T ∧ Cond.initialized mt_X8_all.1.cls ∈ ds_T ∧ (mt_X8_all.1.cls ≠ "java/lang/invoke/MethodHandle" ∧ mt_X8_all.1.cls ≠ "java/lang/invoke/VarHandle" ∧ (parseMethodDescriptor mt_X8_all.1.desc).map (fun d => d.parameters.length) = some 1) := ⟨ds_T_of (i := 534) rfl rfl, ds_wb_T (p := 42) (by decide +kernel), by decide +kernel⟩
theorem zi_X8_all : Cond.instanceMethod mt_X8_all.1 ∈ ds_T := ds_wb_T (p := 532) (by decide +kernel)
theorem zs_X8_all : Cond.selects mt_X8_all.1.cls mt_X8_all.1 mt_X8_all.1 ∈ ds_T := ds_wb_T (p := 533) (by decide +kernel)
set_option maxRecDepth 100000 in
theorem zw_X8_parted : Cond.code mt_X8_parted.1 mt_X8_parted.2.1 mt_X8_parted.2.2.1 mt_X8_parted.2.2.2.1 ∈ ds_T ∧ Cond.initialized mt_X8_parted.1.cls ∈ ds_T ∧ (mt_X8_parted.1.cls ≠ "java/lang/invoke/MethodHandle" ∧ mt_X8_parted.1.cls ≠ "java/lang/invoke/VarHandle" ∧ (parseMethodDescriptor mt_X8_parted.1.desc).map (fun d => d.parameters.length) = some 2) := ⟨ds_T_of (i := 571) rfl rfl, ds_wb_T (p := 42) (by decide +kernel), by decide +kernel⟩
theorem zi_X8_parted : Cond.instanceMethod mt_X8_parted.1 ∈ ds_T := ds_wb_T (p := 569) (by decide +kernel)
theorem zs_X8_parted : Cond.selects mt_X8_parted.1.cls mt_X8_parted.1 mt_X8_parted.1 ∈ ds_T := ds_wb_T (p := 570) (by decide +kernel)
set_option maxRecDepth 100000 in
theorem zw_X8_who : Cond.code mt_X8_who.1 mt_X8_who.2.1 mt_X8_who.2.2.1 mt_X8_who.2.2.2.1 ∈ ds_T ∧ Cond.initialized mt_X8_who.1.cls ∈ ds_T ∧ (mt_X8_who.1.cls ≠ "java/lang/invoke/MethodHandle" ∧ mt_X8_who.1.cls ≠ "java/lang/invoke/VarHandle" ∧ (parseMethodDescriptor mt_X8_who.1.desc).map (fun d => d.parameters.length) = some 3) := ⟨ds_T_of (i := 575) rfl rfl, ds_wb_T (p := 42) (by decide +kernel), by decide +kernel⟩
theorem zi_X8_who : Cond.instanceMethod mt_X8_who.1 ∈ ds_T := ds_wb_T (p := 573) (by decide +kernel)
theorem zs_X8_who : Cond.selects mt_X8_who.1.cls mt_X8_who.1 mt_X8_who.1 ∈ ds_T := ds_wb_T (p := 574) (by decide +kernel)
set_option maxRecDepth 100000 in
theorem zw_X8_seek : Cond.code mt_X8_seek.1 mt_X8_seek.2.1 mt_X8_seek.2.2.1 mt_X8_seek.2.2.2.1 ∈ ds_T ∧ Cond.initialized mt_X8_seek.1.cls ∈ ds_T ∧ (mt_X8_seek.1.cls ≠ "java/lang/invoke/MethodHandle" ∧ mt_X8_seek.1.cls ≠ "java/lang/invoke/VarHandle" ∧ (parseMethodDescriptor mt_X8_seek.1.desc).map (fun d => d.parameters.length) = some 2) := ⟨ds_T_of (i := 579) rfl rfl, ds_wb_T (p := 42) (by decide +kernel), by decide +kernel⟩
theorem zi_X8_seek : Cond.instanceMethod mt_X8_seek.1 ∈ ds_T := ds_wb_T (p := 577) (by decide +kernel)
theorem zs_X8_seek : Cond.selects mt_X8_seek.1.cls mt_X8_seek.1 mt_X8_seek.1 ∈ ds_T := ds_wb_T (p := 578) (by decide +kernel)
set_option maxRecDepth 100000 in
theorem zw_X8_sought : Cond.code mt_X8_sought.1 mt_X8_sought.2.1 mt_X8_sought.2.2.1 mt_X8_sought.2.2.2.1 ∈ ds_T ∧ Cond.initialized mt_X8_sought.1.cls ∈ ds_T ∧ (mt_X8_sought.1.cls ≠ "java/lang/invoke/MethodHandle" ∧ mt_X8_sought.1.cls ≠ "java/lang/invoke/VarHandle" ∧ (parseMethodDescriptor mt_X8_sought.1.desc).map (fun d => d.parameters.length) = some 1) := ⟨ds_T_of (i := 618) rfl rfl, ds_wb_T (p := 42) (by decide +kernel), by decide +kernel⟩
theorem zi_X8_sought : Cond.instanceMethod mt_X8_sought.1 ∈ ds_T := ds_wb_T (p := 616) (by decide +kernel)
theorem zs_X8_sought : Cond.selects mt_X8_sought.1.cls mt_X8_sought.1 mt_X8_sought.1 ∈ ds_T := ds_wb_T (p := 617) (by decide +kernel)
set_option maxRecDepth 100000 in
theorem zw_X8_better : Cond.code mt_X8_better.1 mt_X8_better.2.1 mt_X8_better.2.2.1 mt_X8_better.2.2.2.1 ∈ ds_T ∧ Cond.initialized mt_X8_better.1.cls ∈ ds_T ∧ (mt_X8_better.1.cls ≠ "java/lang/invoke/MethodHandle" ∧ mt_X8_better.1.cls ≠ "java/lang/invoke/VarHandle" ∧ (parseMethodDescriptor mt_X8_better.1.desc).map (fun d => d.parameters.length) = some 1) := ⟨ds_T_of (i := 622) rfl rfl, ds_wb_T (p := 42) (by decide +kernel), by decide +kernel⟩
theorem zi_X8_better : Cond.instanceMethod mt_X8_better.1 ∈ ds_T := ds_wb_T (p := 620) (by decide +kernel)
theorem zs_X8_better : Cond.selects mt_X8_better.1.cls mt_X8_better.1 mt_X8_better.1 ∈ ds_T := ds_wb_T (p := 621) (by decide +kernel)
set_option maxRecDepth 100000 in
theorem zw_X8_take : Cond.code mt_X8_take.1 mt_X8_take.2.1 mt_X8_take.2.2.1 mt_X8_take.2.2.2.1 ∈ ds_T ∧ Cond.initialized mt_X8_take.1.cls ∈ ds_T ∧ (mt_X8_take.1.cls ≠ "java/lang/invoke/MethodHandle" ∧ mt_X8_take.1.cls ≠ "java/lang/invoke/VarHandle" ∧ (parseMethodDescriptor mt_X8_take.1.desc).map (fun d => d.parameters.length) = some 0) := ⟨ds_T_of (i := 627) rfl rfl, ds_wb_T (p := 42) (by decide +kernel), by decide +kernel⟩
theorem zi_X8_take : Cond.instanceMethod mt_X8_take.1 ∈ ds_T := ds_wb_T (p := 625) (by decide +kernel)
theorem zs_X8_take : Cond.selects mt_X8_take.1.cls mt_X8_take.1 mt_X8_take.1 ∈ ds_T := ds_wb_T (p := 626) (by decide +kernel)
set_option maxRecDepth 100000 in
theorem zw_X8_ring : Cond.code mt_X8_ring.1 mt_X8_ring.2.1 mt_X8_ring.2.2.1 mt_X8_ring.2.2.2.1 ∈ ds_T ∧ Cond.initialized mt_X8_ring.1.cls ∈ ds_T ∧ (mt_X8_ring.1.cls ≠ "java/lang/invoke/MethodHandle" ∧ mt_X8_ring.1.cls ≠ "java/lang/invoke/VarHandle" ∧ (parseMethodDescriptor mt_X8_ring.1.desc).map (fun d => d.parameters.length) = some 2) := ⟨ds_T_of (i := 632) rfl rfl, ds_wb_T (p := 42) (by decide +kernel), by decide +kernel⟩
theorem zi_X8_ring : Cond.instanceMethod mt_X8_ring.1 ∈ ds_T := ds_wb_T (p := 630) (by decide +kernel)
theorem zs_X8_ring : Cond.selects mt_X8_ring.1.cls mt_X8_ring.1 mt_X8_ring.1 ∈ ds_T := ds_wb_T (p := 631) (by decide +kernel)
set_option maxRecDepth 100000 in
theorem zw_X8_between : Cond.code mt_X8_between.1 mt_X8_between.2.1 mt_X8_between.2.2.1 mt_X8_between.2.2.2.1 ∈ ds_T ∧ Cond.initialized mt_X8_between.1.cls ∈ ds_T ∧ (mt_X8_between.1.cls ≠ "java/lang/invoke/MethodHandle" ∧ mt_X8_between.1.cls ≠ "java/lang/invoke/VarHandle" ∧ (parseMethodDescriptor mt_X8_between.1.desc).map (fun d => d.parameters.length) = some 2) := ⟨ds_T_of (i := 665) rfl rfl, ds_wb_T (p := 42) (by decide +kernel), by decide +kernel⟩
theorem zi_X8_between : Cond.instanceMethod mt_X8_between.1 ∈ ds_T := ds_wb_T (p := 663) (by decide +kernel)
theorem zs_X8_between : Cond.selects mt_X8_between.1.cls mt_X8_between.1 mt_X8_between.1 ∈ ds_T := ds_wb_T (p := 664) (by decide +kernel)
set_option maxRecDepth 100000 in
theorem zw_X8_value : Cond.code mt_X8_value.1 mt_X8_value.2.1 mt_X8_value.2.2.1 mt_X8_value.2.2.2.1 ∈ ds_T ∧ Cond.initialized mt_X8_value.1.cls ∈ ds_T ∧ (mt_X8_value.1.cls ≠ "java/lang/invoke/MethodHandle" ∧ mt_X8_value.1.cls ≠ "java/lang/invoke/VarHandle" ∧ (parseMethodDescriptor mt_X8_value.1.desc).map (fun d => d.parameters.length) = some 3) := ⟨ds_T_of (i := 682) rfl rfl, ds_wb_T (p := 42) (by decide +kernel), by decide +kernel⟩
theorem zi_X8_value : Cond.instanceMethod mt_X8_value.1 ∈ ds_T := ds_wb_T (p := 680) (by decide +kernel)
theorem zs_X8_value : Cond.selects mt_X8_value.1.cls mt_X8_value.1 mt_X8_value.1 ∈ ds_T := ds_wb_T (p := 681) (by decide +kernel)
set_option maxRecDepth 100000 in
theorem zw_X8_grow : Cond.code mt_X8_grow.1 mt_X8_grow.2.1 mt_X8_grow.2.2.1 mt_X8_grow.2.2.2.1 ∈ ds_T ∧ Cond.initialized mt_X8_grow.1.cls ∈ ds_T ∧ (mt_X8_grow.1.cls ≠ "java/lang/invoke/MethodHandle" ∧ mt_X8_grow.1.cls ≠ "java/lang/invoke/VarHandle" ∧ (parseMethodDescriptor mt_X8_grow.1.desc).map (fun d => d.parameters.length) = some 2) := ⟨ds_T_of (i := 694) rfl rfl, ds_wb_T (p := 42) (by decide +kernel), by decide +kernel⟩
theorem zi_X8_grow : Cond.instanceMethod mt_X8_grow.1 ∈ ds_T := ds_wb_T (p := 692) (by decide +kernel)
theorem zs_X8_grow : Cond.selects mt_X8_grow.1.cls mt_X8_grow.1 mt_X8_grow.1 ∈ ds_T := ds_wb_T (p := 693) (by decide +kernel)
set_option maxRecDepth 100000 in
theorem zw_X8_year : Cond.code mt_X8_year.1 mt_X8_year.2.1 mt_X8_year.2.2.1 mt_X8_year.2.2.2.1 ∈ ds_T ∧ Cond.initialized mt_X8_year.1.cls ∈ ds_T ∧ (mt_X8_year.1.cls ≠ "java/lang/invoke/MethodHandle" ∧ mt_X8_year.1.cls ≠ "java/lang/invoke/VarHandle" ∧ (parseMethodDescriptor mt_X8_year.1.desc).map (fun d => d.parameters.length) = some 2) := ⟨ds_T_of (i := 699) rfl rfl, ds_wb_T (p := 42) (by decide +kernel), by decide +kernel⟩
theorem zi_X8_year : Cond.instanceMethod mt_X8_year.1 ∈ ds_T := ds_wb_T (p := 697) (by decide +kernel)
theorem zs_X8_year : Cond.selects mt_X8_year.1.cls mt_X8_year.1 mt_X8_year.1 ∈ ds_T := ds_wb_T (p := 698) (by decide +kernel)
set_option maxRecDepth 100000 in
theorem zw_X8_told : Cond.code mt_X8_told.1 mt_X8_told.2.1 mt_X8_told.2.2.1 mt_X8_told.2.2.2.1 ∈ ds_T ∧ Cond.initialized mt_X8_told.1.cls ∈ ds_T ∧ (mt_X8_told.1.cls ≠ "java/lang/invoke/MethodHandle" ∧ mt_X8_told.1.cls ≠ "java/lang/invoke/VarHandle" ∧ (parseMethodDescriptor mt_X8_told.1.desc).map (fun d => d.parameters.length) = some 1) := ⟨ds_T_of (i := 718) rfl rfl, ds_wb_T (p := 42) (by decide +kernel), by decide +kernel⟩
theorem zi_X8_told : Cond.instanceMethod mt_X8_told.1 ∈ ds_T := ds_wb_T (p := 716) (by decide +kernel)
theorem zs_X8_told : Cond.selects mt_X8_told.1.cls mt_X8_told.1 mt_X8_told.1 ∈ ds_T := ds_wb_T (p := 717) (by decide +kernel)
set_option maxRecDepth 100000 in
theorem zw_X8_refusalOfNews : Cond.code mt_X8_refusalOfNews.1 mt_X8_refusalOfNews.2.1 mt_X8_refusalOfNews.2.2.1 mt_X8_refusalOfNews.2.2.2.1 ∈ ds_T ∧ Cond.initialized mt_X8_refusalOfNews.1.cls ∈ ds_T ∧ (mt_X8_refusalOfNews.1.cls ≠ "java/lang/invoke/MethodHandle" ∧ mt_X8_refusalOfNews.1.cls ≠ "java/lang/invoke/VarHandle" ∧ (parseMethodDescriptor mt_X8_refusalOfNews.1.desc).map (fun d => d.parameters.length) = some 2) := ⟨ds_T_of (i := 636) rfl rfl, ds_wb_T (p := 42) (by decide +kernel), by decide +kernel⟩
theorem zi_X8_refusalOfNews : Cond.instanceMethod mt_X8_refusalOfNews.1 ∈ ds_T := ds_wb_T (p := 635) (by decide +kernel)
theorem zs_X8_refusalOfNews : Cond.selects mt_X8_refusalOfNews.1.cls mt_X8_refusalOfNews.1 mt_X8_refusalOfNews.1 ∈ ds_T := ds_wb_T (p := 12) (by decide +kernel)
set_option maxRecDepth 100000 in
theorem zw_X8_findPeak : Cond.code mt_X8_findPeak.1 mt_X8_findPeak.2.1 mt_X8_findPeak.2.2.1 mt_X8_findPeak.2.2.2.1 ∈ ds_T ∧ Cond.initialized mt_X8_findPeak.1.cls ∈ ds_T ∧ (mt_X8_findPeak.1.cls ≠ "java/lang/invoke/MethodHandle" ∧ mt_X8_findPeak.1.cls ≠ "java/lang/invoke/VarHandle" ∧ (parseMethodDescriptor mt_X8_findPeak.1.desc).map (fun d => d.parameters.length) = some 1) := ⟨ds_T_of (i := 517) rfl rfl, ds_wb_T (p := 42) (by decide +kernel), by decide +kernel⟩
theorem zi_X8_findPeak : Cond.instanceMethod mt_X8_findPeak.1 ∈ ds_T := ds_wb_T (p := 516) (by decide +kernel)
theorem zs_X8_findPeak : Cond.selects mt_X8_findPeak.1.cls mt_X8_findPeak.1 mt_X8_findPeak.1 ∈ ds_T := ds_wb_T (p := 6) (by decide +kernel)
set_option maxRecDepth 100000 in
theorem zw_X8_growByHundredths : Cond.code mt_X8_growByHundredths.1 mt_X8_growByHundredths.2.1 mt_X8_growByHundredths.2.2.1 mt_X8_growByHundredths.2.2.2.1 ∈ ds_T ∧ Cond.initialized mt_X8_growByHundredths.1.cls ∈ ds_T ∧ (mt_X8_growByHundredths.1.cls ≠ "java/lang/invoke/MethodHandle" ∧ mt_X8_growByHundredths.1.cls ≠ "java/lang/invoke/VarHandle" ∧ (parseMethodDescriptor mt_X8_growByHundredths.1.desc).map (fun d => d.parameters.length) = some 1) := ⟨ds_T_of (i := 708) rfl rfl, ds_wb_T (p := 42) (by decide +kernel), by decide +kernel⟩
theorem zi_X8_growByHundredths : Cond.instanceMethod mt_X8_growByHundredths.1 ∈ ds_T := ds_wb_T (p := 707) (by decide +kernel)
theorem zs_X8_growByHundredths : Cond.selects mt_X8_growByHundredths.1.cls mt_X8_growByHundredths.1 mt_X8_growByHundredths.1 ∈ ds_T := ds_wb_T (p := 20) (by decide +kernel)
set_option maxRecDepth 100000 in
theorem zw_X8_sumOfLoads : Cond.code mt_X8_sumOfLoads.1 mt_X8_sumOfLoads.2.1 mt_X8_sumOfLoads.2.2.1 mt_X8_sumOfLoads.2.2.2.1 ∈ ds_T ∧ Cond.initialized mt_X8_sumOfLoads.1.cls ∈ ds_T ∧ (mt_X8_sumOfLoads.1.cls ≠ "java/lang/invoke/MethodHandle" ∧ mt_X8_sumOfLoads.1.cls ≠ "java/lang/invoke/VarHandle" ∧ (parseMethodDescriptor mt_X8_sumOfLoads.1.desc).map (fun d => d.parameters.length) = some 1) := ⟨ds_T_of (i := 722) rfl rfl, ds_wb_T (p := 42) (by decide +kernel), by decide +kernel⟩
theorem zi_X8_sumOfLoads : Cond.instanceMethod mt_X8_sumOfLoads.1 ∈ ds_T := ds_wb_T (p := 721) (by decide +kernel)
theorem zs_X8_sumOfLoads : Cond.selects mt_X8_sumOfLoads.1.cls mt_X8_sumOfLoads.1 mt_X8_sumOfLoads.1 ∈ ds_T := ds_wb_T (p := 21) (by decide +kernel)
set_option maxRecDepth 100000 in
theorem zw_X8_isTable : Cond.code mt_X8_isTable.1 mt_X8_isTable.2.1 mt_X8_isTable.2.2.1 mt_X8_isTable.2.2.2.1 ∈ ds_T ∧ Cond.initialized mt_X8_isTable.1.cls ∈ ds_T ∧ (mt_X8_isTable.1.cls ≠ "java/lang/invoke/MethodHandle" ∧ mt_X8_isTable.1.cls ≠ "java/lang/invoke/VarHandle" ∧ (parseMethodDescriptor mt_X8_isTable.1.desc).map (fun d => d.parameters.length) = some 1) := ⟨ds_T_of (i := 418) rfl rfl, ds_wb_T (p := 42) (by decide +kernel), by decide +kernel⟩
theorem zt_X8_isTable : Cond.static mt_X8_isTable.1 ∈ ds_T := ds_wb_T (p := 417) (by decide +kernel)
set_option maxRecDepth 100000 in
theorem zw_X8_isWeight : Cond.code mt_X8_isWeight.1 mt_X8_isWeight.2.1 mt_X8_isWeight.2.2.1 mt_X8_isWeight.2.2.2.1 ∈ ds_T ∧ Cond.initialized mt_X8_isWeight.1.cls ∈ ds_T ∧ (mt_X8_isWeight.1.cls ≠ "java/lang/invoke/MethodHandle" ∧ mt_X8_isWeight.1.cls ≠ "java/lang/invoke/VarHandle" ∧ (parseMethodDescriptor mt_X8_isWeight.1.desc).map (fun d => d.parameters.length) = some 1) := ⟨ds_T_of (i := 382) rfl rfl, ds_wb_T (p := 42) (by decide +kernel), by decide +kernel⟩
theorem zt_X8_isWeight : Cond.static mt_X8_isWeight.1 ∈ ds_T := ds_wb_T (p := 381) (by decide +kernel)
set_option maxRecDepth 100000 in
theorem zw_X8_isOneOfTwo : Cond.code mt_X8_isOneOfTwo.1 mt_X8_isOneOfTwo.2.1 mt_X8_isOneOfTwo.2.2.1 mt_X8_isOneOfTwo.2.2.2.1 ∈ ds_T ∧ Cond.initialized mt_X8_isOneOfTwo.1.cls ∈ ds_T ∧ (mt_X8_isOneOfTwo.1.cls ≠ "java/lang/invoke/MethodHandle" ∧ mt_X8_isOneOfTwo.1.cls ≠ "java/lang/invoke/VarHandle" ∧ (parseMethodDescriptor mt_X8_isOneOfTwo.1.desc).map (fun d => d.parameters.length) = some 1) := ⟨ds_T_of (i := 408) rfl rfl, ds_wb_T (p := 42) (by decide +kernel), by decide +kernel⟩
theorem zt_X8_isOneOfTwo : Cond.static mt_X8_isOneOfTwo.1 ∈ ds_T := ds_wb_T (p := 407) (by decide +kernel)
set_option maxRecDepth 100000 in
theorem zw_X8_bit : Cond.code mt_X8_bit.1 mt_X8_bit.2.1 mt_X8_bit.2.2.1 mt_X8_bit.2.2.2.1 ∈ ds_T ∧ Cond.initialized mt_X8_bit.1.cls ∈ ds_T ∧ (mt_X8_bit.1.cls ≠ "java/lang/invoke/MethodHandle" ∧ mt_X8_bit.1.cls ≠ "java/lang/invoke/VarHandle" ∧ (parseMethodDescriptor mt_X8_bit.1.desc).map (fun d => d.parameters.length) = some 2) := ⟨ds_T_of (i := 397) rfl rfl, ds_wb_T (p := 42) (by decide +kernel), by decide +kernel⟩
theorem zt_X8_bit : Cond.static mt_X8_bit.1 ∈ ds_T := ds_wb_T (p := 396) (by decide +kernel)
set_option maxRecDepth 100000 in
theorem zw_X8_withBit : Cond.code mt_X8_withBit.1 mt_X8_withBit.2.1 mt_X8_withBit.2.2.1 mt_X8_withBit.2.2.2.1 ∈ ds_T ∧ Cond.initialized mt_X8_withBit.1.cls ∈ ds_T ∧ (mt_X8_withBit.1.cls ≠ "java/lang/invoke/MethodHandle" ∧ mt_X8_withBit.1.cls ≠ "java/lang/invoke/VarHandle" ∧ (parseMethodDescriptor mt_X8_withBit.1.desc).map (fun d => d.parameters.length) = some 3) := ⟨ds_T_of (i := 411) rfl rfl, ds_wb_T (p := 42) (by decide +kernel), by decide +kernel⟩
theorem zt_X8_withBit : Cond.static mt_X8_withBit.1 ∈ ds_T := ds_wb_T (p := 410) (by decide +kernel)
set_option maxRecDepth 100000 in
theorem zw_X8_pair : Cond.code mt_X8_pair.1 mt_X8_pair.2.1 mt_X8_pair.2.2.1 mt_X8_pair.2.2.2.1 ∈ ds_T ∧ Cond.initialized mt_X8_pair.1.cls ∈ ds_T ∧ (mt_X8_pair.1.cls ≠ "java/lang/invoke/MethodHandle" ∧ mt_X8_pair.1.cls ≠ "java/lang/invoke/VarHandle" ∧ (parseMethodDescriptor mt_X8_pair.1.desc).map (fun d => d.parameters.length) = some 2) := ⟨ds_T_of (i := 421) rfl rfl, ds_wb_T (p := 42) (by decide +kernel), by decide +kernel⟩
theorem zt_X8_pair : Cond.static mt_X8_pair.1 ∈ ds_T := ds_wb_T (p := 420) (by decide +kernel)
set_option maxRecDepth 100000 in
theorem zw_X8_slot : Cond.code mt_X8_slot.1 mt_X8_slot.2.1 mt_X8_slot.2.2.1 mt_X8_slot.2.2.2.1 ∈ ds_T ∧ Cond.initialized mt_X8_slot.1.cls ∈ ds_T ∧ (mt_X8_slot.1.cls ≠ "java/lang/invoke/MethodHandle" ∧ mt_X8_slot.1.cls ≠ "java/lang/invoke/VarHandle" ∧ (parseMethodDescriptor mt_X8_slot.1.desc).map (fun d => d.parameters.length) = some 2) := ⟨ds_T_of (i := 480) rfl rfl, ds_wb_T (p := 42) (by decide +kernel), by decide +kernel⟩
theorem zt_X8_slot : Cond.static mt_X8_slot.1 ∈ ds_T := ds_wb_T (p := 479) (by decide +kernel)
set_option maxRecDepth 100000 in
theorem zw_X8_fraction : Cond.code mt_X8_fraction.1 mt_X8_fraction.2.1 mt_X8_fraction.2.2.1 mt_X8_fraction.2.2.2.1 ∈ ds_T ∧ Cond.initialized mt_X8_fraction.1.cls ∈ ds_T ∧ (mt_X8_fraction.1.cls ≠ "java/lang/invoke/MethodHandle" ∧ mt_X8_fraction.1.cls ≠ "java/lang/invoke/VarHandle" ∧ (parseMethodDescriptor mt_X8_fraction.1.desc).map (fun d => d.parameters.length) = some 3) := ⟨ds_T_of (i := 484) rfl rfl, ds_wb_T (p := 42) (by decide +kernel), by decide +kernel⟩
theorem zt_X8_fraction : Cond.static mt_X8_fraction.1 ∈ ds_T := ds_wb_T (p := 483) (by decide +kernel)
set_option maxRecDepth 100000 in
theorem zw_X8_commonDivisor : Cond.code mt_X8_commonDivisor.1 mt_X8_commonDivisor.2.1 mt_X8_commonDivisor.2.2.1 mt_X8_commonDivisor.2.2.2.1 ∈ ds_T ∧ Cond.initialized mt_X8_commonDivisor.1.cls ∈ ds_T ∧ (mt_X8_commonDivisor.1.cls ≠ "java/lang/invoke/MethodHandle" ∧ mt_X8_commonDivisor.1.cls ≠ "java/lang/invoke/VarHandle" ∧ (parseMethodDescriptor mt_X8_commonDivisor.1.desc).map (fun d => d.parameters.length) = some 2) := ⟨ds_T_of (i := 487) rfl rfl, ds_wb_T (p := 42) (by decide +kernel), by decide +kernel⟩
theorem zt_X8_commonDivisor : Cond.static mt_X8_commonDivisor.1 ∈ ds_T := ds_wb_T (p := 486) (by decide +kernel)
set_option maxRecDepth 100000 in
theorem zw_X9_in : Cond.code mt_X9_in.1 mt_X9_in.2.1 mt_X9_in.2.2.1 mt_X9_in.2.2.2.1 ∈ ds_T ∧ Cond.initialized mt_X9_in.1.cls ∈ ds_T ∧ (mt_X9_in.1.cls ≠ "java/lang/invoke/MethodHandle" ∧ mt_X9_in.1.cls ≠ "java/lang/invoke/VarHandle" ∧ (parseMethodDescriptor mt_X9_in.1.desc).map (fun d => d.parameters.length) = some 3) := ⟨ds_T_of (i := 838) rfl rfl, ds_wb_T (p := 51) (by decide +kernel), by decide +kernel⟩
theorem zt_X9_in : Cond.static mt_X9_in.1 ∈ ds_T := ds_wb_T (p := 837) (by decide +kernel)
set_option maxRecDepth 100000 in
theorem zw_X9_common : Cond.code mt_X9_common.1 mt_X9_common.2.1 mt_X9_common.2.2.1 mt_X9_common.2.2.2.1 ∈ ds_T ∧ Cond.initialized mt_X9_common.1.cls ∈ ds_T ∧ (mt_X9_common.1.cls ≠ "java/lang/invoke/MethodHandle" ∧ mt_X9_common.1.cls ≠ "java/lang/invoke/VarHandle" ∧ (parseMethodDescriptor mt_X9_common.1.desc).map (fun d => d.parameters.length) = some 2) := ⟨ds_T_of (i := 924) rfl rfl, ds_wb_T (p := 51) (by decide +kernel), by decide +kernel⟩
theorem zt_X9_common : Cond.static mt_X9_common.1 ∈ ds_T := ds_wb_T (p := 923) (by decide +kernel)
set_option maxRecDepth 100000 in
theorem zw_X9_isGreater : Cond.code mt_X9_isGreater.1 mt_X9_isGreater.2.1 mt_X9_isGreater.2.2.1 mt_X9_isGreater.2.2.2.1 ∈ ds_T ∧ Cond.initialized mt_X9_isGreater.1.cls ∈ ds_T ∧ (mt_X9_isGreater.1.cls ≠ "java/lang/invoke/MethodHandle" ∧ mt_X9_isGreater.1.cls ≠ "java/lang/invoke/VarHandle" ∧ (parseMethodDescriptor mt_X9_isGreater.1.desc).map (fun d => d.parameters.length) = some 4) := ⟨ds_T_of (i := 944) rfl rfl, ds_wb_T (p := 51) (by decide +kernel), by decide +kernel⟩
theorem zt_X9_isGreater : Cond.static mt_X9_isGreater.1 ∈ ds_T := ds_wb_T (p := 943) (by decide +kernel)
set_option maxRecDepth 100000 in
theorem zw_X9_isBox : Cond.code mt_X9_isBox.1 mt_X9_isBox.2.1 mt_X9_isBox.2.2.1 mt_X9_isBox.2.2.2.1 ∈ ds_T ∧ Cond.initialized mt_X9_isBox.1.cls ∈ ds_T ∧ (mt_X9_isBox.1.cls ≠ "java/lang/invoke/MethodHandle" ∧ mt_X9_isBox.1.cls ≠ "java/lang/invoke/VarHandle" ∧ (parseMethodDescriptor mt_X9_isBox.1.desc).map (fun d => d.parameters.length) = some 1) := ⟨ds_T_of (i := 846) rfl rfl, ds_wb_T (p := 51) (by decide +kernel), by decide +kernel⟩
theorem zi_X9_isBox : Cond.instanceMethod mt_X9_isBox.1 ∈ ds_T := ds_wb_T (p := 845) (by decide +kernel)
theorem zs_X9_isBox : Cond.selects mt_X9_isBox.1.cls mt_X9_isBox.1 mt_X9_isBox.1 ∈ ds_T := ds_wb_T (p := 22) (by decide +kernel)
set_option maxRecDepth 100000 in
theorem zw_X9_isLine : Cond.code mt_X9_isLine.1 mt_X9_isLine.2.1 mt_X9_isLine.2.2.1 mt_X9_isLine.2.2.2.1 ∈ ds_T ∧ Cond.initialized mt_X9_isLine.1.cls ∈ ds_T ∧ (mt_X9_isLine.1.cls ≠ "java/lang/invoke/MethodHandle" ∧ mt_X9_isLine.1.cls ≠ "java/lang/invoke/VarHandle" ∧ (parseMethodDescriptor mt_X9_isLine.1.desc).map (fun d => d.parameters.length) = some 1) := ⟨ds_T_of (i := 856) rfl rfl, ds_wb_T (p := 51) (by decide +kernel), by decide +kernel⟩
theorem zi_X9_isLine : Cond.instanceMethod mt_X9_isLine.1 ∈ ds_T := ds_wb_T (p := 855) (by decide +kernel)
theorem zs_X9_isLine : Cond.selects mt_X9_isLine.1.cls mt_X9_isLine.1 mt_X9_isLine.1 ∈ ds_T := ds_wb_T (p := 23) (by decide +kernel)
set_option maxRecDepth 100000 in
theorem zw_X9_isTable : Cond.code mt_X9_isTable.1 mt_X9_isTable.2.1 mt_X9_isTable.2.2.1 mt_X9_isTable.2.2.2.1 ∈ ds_T ∧ Cond.initialized mt_X9_isTable.1.cls ∈ ds_T ∧ (mt_X9_isTable.1.cls ≠ "java/lang/invoke/MethodHandle" ∧ mt_X9_isTable.1.cls ≠ "java/lang/invoke/VarHandle" ∧ (parseMethodDescriptor mt_X9_isTable.1.desc).map (fun d => d.parameters.length) = some 1) := ⟨ds_T_of (i := 871) rfl rfl, ds_wb_T (p := 51) (by decide +kernel), by decide +kernel⟩
theorem zt_X9_isTable : Cond.static mt_X9_isTable.1 ∈ ds_T := ds_wb_T (p := 870) (by decide +kernel)
set_option maxRecDepth 100000 in
theorem zw_X9_boxes : Cond.code mt_X9_boxes.1 mt_X9_boxes.2.1 mt_X9_boxes.2.2.1 mt_X9_boxes.2.2.2.1 ∈ ds_T ∧ Cond.initialized mt_X9_boxes.1.cls ∈ ds_T ∧ (mt_X9_boxes.1.cls ≠ "java/lang/invoke/MethodHandle" ∧ mt_X9_boxes.1.cls ≠ "java/lang/invoke/VarHandle" ∧ (parseMethodDescriptor mt_X9_boxes.1.desc).map (fun d => d.parameters.length) = some 1) := ⟨ds_T_of (i := 833) rfl rfl, ds_wb_T (p := 51) (by decide +kernel), by decide +kernel⟩
theorem zi_X9_boxes : Cond.instanceMethod mt_X9_boxes.1 ∈ ds_T := ds_wb_T (p := 831) (by decide +kernel)
theorem zs_X9_boxes : Cond.selects mt_X9_boxes.1.cls mt_X9_boxes.1 mt_X9_boxes.1 ∈ ds_T := ds_wb_T (p := 832) (by decide +kernel)
set_option maxRecDepth 100000 in
theorem zw_X9_line : Cond.code mt_X9_line.1 mt_X9_line.2.1 mt_X9_line.2.2.1 mt_X9_line.2.2.2.1 ∈ ds_T ∧ Cond.initialized mt_X9_line.1.cls ∈ ds_T ∧ (mt_X9_line.1.cls ≠ "java/lang/invoke/MethodHandle" ∧ mt_X9_line.1.cls ≠ "java/lang/invoke/VarHandle" ∧ (parseMethodDescriptor mt_X9_line.1.desc).map (fun d => d.parameters.length) = some 4) := ⟨ds_T_of (i := 842) rfl rfl, ds_wb_T (p := 51) (by decide +kernel), by decide +kernel⟩
theorem zi_X9_line : Cond.instanceMethod mt_X9_line.1 ∈ ds_T := ds_wb_T (p := 840) (by decide +kernel)
theorem zs_X9_line : Cond.selects mt_X9_line.1.cls mt_X9_line.1 mt_X9_line.1 ∈ ds_T := ds_wb_T (p := 841) (by decide +kernel)
set_option maxRecDepth 100000 in
theorem zw_X9_about : Cond.code mt_X9_about.1 mt_X9_about.2.1 mt_X9_about.2.2.1 mt_X9_about.2.2.2.1 ∈ ds_T ∧ Cond.initialized mt_X9_about.1.cls ∈ ds_T ∧ (mt_X9_about.1.cls ≠ "java/lang/invoke/MethodHandle" ∧ mt_X9_about.1.cls ≠ "java/lang/invoke/VarHandle" ∧ (parseMethodDescriptor mt_X9_about.1.desc).map (fun d => d.parameters.length) = some 2) := ⟨ds_T_of (i := 852) rfl rfl, ds_wb_T (p := 51) (by decide +kernel), by decide +kernel⟩
theorem zi_X9_about : Cond.instanceMethod mt_X9_about.1 ∈ ds_T := ds_wb_T (p := 850) (by decide +kernel)
theorem zs_X9_about : Cond.selects mt_X9_about.1.cls mt_X9_about.1 mt_X9_about.1 ∈ ds_T := ds_wb_T (p := 851) (by decide +kernel)
set_option maxRecDepth 100000 in
theorem zw_X9_weigh : Cond.code mt_X9_weigh.1 mt_X9_weigh.2.1 mt_X9_weigh.2.2.1 mt_X9_weigh.2.2.2.1 ∈ ds_T ∧ Cond.initialized mt_X9_weigh.1.cls ∈ ds_T ∧ (mt_X9_weigh.1.cls ≠ "java/lang/invoke/MethodHandle" ∧ mt_X9_weigh.1.cls ≠ "java/lang/invoke/VarHandle" ∧ (parseMethodDescriptor mt_X9_weigh.1.desc).map (fun d => d.parameters.length) = some 2) := ⟨ds_T_of (i := 860) rfl rfl, ds_wb_T (p := 51) (by decide +kernel), by decide +kernel⟩
theorem zi_X9_weigh : Cond.instanceMethod mt_X9_weigh.1 ∈ ds_T := ds_wb_T (p := 858) (by decide +kernel)
theorem zs_X9_weigh : Cond.selects mt_X9_weigh.1.cls mt_X9_weigh.1 mt_X9_weigh.1 ∈ ds_T := ds_wb_T (p := 859) (by decide +kernel)
set_option maxRecDepth 100000 in
theorem zw_X9_mark : Cond.code mt_X9_mark.1 mt_X9_mark.2.1 mt_X9_mark.2.2.1 mt_X9_mark.2.2.2.1 ∈ ds_T ∧ Cond.initialized mt_X9_mark.1.cls ∈ ds_T ∧ (mt_X9_mark.1.cls ≠ "java/lang/invoke/MethodHandle" ∧ mt_X9_mark.1.cls ≠ "java/lang/invoke/VarHandle" ∧ (parseMethodDescriptor mt_X9_mark.1.desc).map (fun d => d.parameters.length) = some 3) := ⟨ds_T_of (i := 864) rfl rfl, ds_wb_T (p := 51) (by decide +kernel), by decide +kernel⟩
theorem zi_X9_mark : Cond.instanceMethod mt_X9_mark.1 ∈ ds_T := ds_wb_T (p := 862) (by decide +kernel)
theorem zs_X9_mark : Cond.selects mt_X9_mark.1.cls mt_X9_mark.1 mt_X9_mark.1 ∈ ds_T := ds_wb_T (p := 863) (by decide +kernel)
set_option maxRecDepth 100000 in
theorem zw_X9_loadOf : Cond.code mt_X9_loadOf.1 mt_X9_loadOf.2.1 mt_X9_loadOf.2.2.1 mt_X9_loadOf.2.2.2.1 ∈ ds_T ∧ Cond.initialized mt_X9_loadOf.1.cls ∈ ds_T ∧ (mt_X9_loadOf.1.cls ≠ "java/lang/invoke/MethodHandle" ∧ mt_X9_loadOf.1.cls ≠ "java/lang/invoke/VarHandle" ∧ (parseMethodDescriptor mt_X9_loadOf.1.desc).map (fun d => d.parameters.length) = some 3) := ⟨ds_T_of (i := 876) rfl rfl, ds_wb_T (p := 51) (by decide +kernel), by decide +kernel⟩
theorem zi_X9_loadOf : Cond.instanceMethod mt_X9_loadOf.1 ∈ ds_T := ds_wb_T (p := 875) (by decide +kernel)
theorem zs_X9_loadOf : Cond.selects mt_X9_loadOf.1.cls mt_X9_loadOf.1 mt_X9_loadOf.1 ∈ ds_T := ds_wb_T (p := 24) (by decide +kernel)
set_option maxRecDepth 100000 in
theorem zw_X9_load : Cond.code mt_X9_load.1 mt_X9_load.2.1 mt_X9_load.2.2.1 mt_X9_load.2.2.2.1 ∈ ds_T ∧ Cond.initialized mt_X9_load.1.cls ∈ ds_T ∧ (mt_X9_load.1.cls ≠ "java/lang/invoke/MethodHandle" ∧ mt_X9_load.1.cls ≠ "java/lang/invoke/VarHandle" ∧ (parseMethodDescriptor mt_X9_load.1.desc).map (fun d => d.parameters.length) = some 4) := ⟨ds_T_of (i := 868) rfl rfl, ds_wb_T (p := 51) (by decide +kernel), by decide +kernel⟩
theorem zi_X9_load : Cond.instanceMethod mt_X9_load.1 ∈ ds_T := ds_wb_T (p := 866) (by decide +kernel)
theorem zs_X9_load : Cond.selects mt_X9_load.1.cls mt_X9_load.1 mt_X9_load.1 ∈ ds_T := ds_wb_T (p := 867) (by decide +kernel)
set_option maxRecDepth 100000 in
theorem zw_X9_isThere : Cond.code mt_X9_isThere.1 mt_X9_isThere.2.1 mt_X9_isThere.2.2.1 mt_X9_isThere.2.2.2.1 ∈ ds_T ∧ Cond.initialized mt_X9_isThere.1.cls ∈ ds_T ∧ (mt_X9_isThere.1.cls ≠ "java/lang/invoke/MethodHandle" ∧ mt_X9_isThere.1.cls ≠ "java/lang/invoke/VarHandle" ∧ (parseMethodDescriptor mt_X9_isThere.1.desc).map (fun d => d.parameters.length) = some 1) := ⟨ds_T_of (i := 889) rfl rfl, ds_wb_T (p := 51) (by decide +kernel), by decide +kernel⟩
theorem zi_X9_isThere : Cond.instanceMethod mt_X9_isThere.1 ∈ ds_T := ds_wb_T (p := 888) (by decide +kernel)
theorem zs_X9_isThere : Cond.selects mt_X9_isThere.1.cls mt_X9_isThere.1 mt_X9_isThere.1 ∈ ds_T := ds_wb_T (p := 26) (by decide +kernel)
set_option maxRecDepth 100000 in
theorem zw_X9_findFar : Cond.code mt_X9_findFar.1 mt_X9_findFar.2.1 mt_X9_findFar.2.2.1 mt_X9_findFar.2.2.2.1 ∈ ds_T ∧ Cond.initialized mt_X9_findFar.1.cls ∈ ds_T ∧ (mt_X9_findFar.1.cls ≠ "java/lang/invoke/MethodHandle" ∧ mt_X9_findFar.1.cls ≠ "java/lang/invoke/VarHandle" ∧ (parseMethodDescriptor mt_X9_findFar.1.desc).map (fun d => d.parameters.length) = some 1) := ⟨ds_T_of (i := 884) rfl rfl, ds_wb_T (p := 51) (by decide +kernel), by decide +kernel⟩
theorem zi_X9_findFar : Cond.instanceMethod mt_X9_findFar.1 ∈ ds_T := ds_wb_T (p := 883) (by decide +kernel)
theorem zs_X9_findFar : Cond.selects mt_X9_findFar.1.cls mt_X9_findFar.1 mt_X9_findFar.1 ∈ ds_T := ds_wb_T (p := 25) (by decide +kernel)
set_option maxRecDepth 100000 in
theorem zw_X9_least : Cond.code mt_X9_least.1 mt_X9_least.2.1 mt_X9_least.2.2.1 mt_X9_least.2.2.2.1 ∈ ds_T ∧ Cond.initialized mt_X9_least.1.cls ∈ ds_T ∧ (mt_X9_least.1.cls ≠ "java/lang/invoke/MethodHandle" ∧ mt_X9_least.1.cls ≠ "java/lang/invoke/VarHandle" ∧ (parseMethodDescriptor mt_X9_least.1.desc).map (fun d => d.parameters.length) = some 2) := ⟨ds_T_of (i := 880) rfl rfl, ds_wb_T (p := 51) (by decide +kernel), by decide +kernel⟩
theorem zi_X9_least : Cond.instanceMethod mt_X9_least.1 ∈ ds_T := ds_wb_T (p := 878) (by decide +kernel)
theorem zs_X9_least : Cond.selects mt_X9_least.1.cls mt_X9_least.1 mt_X9_least.1 ∈ ds_T := ds_wb_T (p := 879) (by decide +kernel)
set_option maxRecDepth 100000 in
theorem zw_X9_isNext : Cond.code mt_X9_isNext.1 mt_X9_isNext.2.1 mt_X9_isNext.2.2.1 mt_X9_isNext.2.2.2.1 ∈ ds_T ∧ Cond.initialized mt_X9_isNext.1.cls ∈ ds_T ∧ (mt_X9_isNext.1.cls ≠ "java/lang/invoke/MethodHandle" ∧ mt_X9_isNext.1.cls ≠ "java/lang/invoke/VarHandle" ∧ (parseMethodDescriptor mt_X9_isNext.1.desc).map (fun d => d.parameters.length) = some 2) := ⟨ds_T_of (i := 901) rfl rfl, ds_wb_T (p := 51) (by decide +kernel), by decide +kernel⟩
theorem zi_X9_isNext : Cond.instanceMethod mt_X9_isNext.1 ∈ ds_T := ds_wb_T (p := 900) (by decide +kernel)
theorem zs_X9_isNext : Cond.selects mt_X9_isNext.1.cls mt_X9_isNext.1 mt_X9_isNext.1 ∈ ds_T := ds_wb_T (p := 28) (by decide +kernel)
set_option maxRecDepth 100000 in
theorem zw_X9_nextOf : Cond.code mt_X9_nextOf.1 mt_X9_nextOf.2.1 mt_X9_nextOf.2.2.1 mt_X9_nextOf.2.2.2.1 ∈ ds_T ∧ Cond.initialized mt_X9_nextOf.1.cls ∈ ds_T ∧ (mt_X9_nextOf.1.cls ≠ "java/lang/invoke/MethodHandle" ∧ mt_X9_nextOf.1.cls ≠ "java/lang/invoke/VarHandle" ∧ (parseMethodDescriptor mt_X9_nextOf.1.desc).map (fun d => d.parameters.length) = some 1) := ⟨ds_T_of (i := 897) rfl rfl, ds_wb_T (p := 51) (by decide +kernel), by decide +kernel⟩
theorem zi_X9_nextOf : Cond.instanceMethod mt_X9_nextOf.1 ∈ ds_T := ds_wb_T (p := 896) (by decide +kernel)
theorem zs_X9_nextOf : Cond.selects mt_X9_nextOf.1.cls mt_X9_nextOf.1 mt_X9_nextOf.1 ∈ ds_T := ds_wb_T (p := 27) (by decide +kernel)
set_option maxRecDepth 100000 in
theorem zw_X9_next : Cond.code mt_X9_next.1 mt_X9_next.2.1 mt_X9_next.2.2.1 mt_X9_next.2.2.2.1 ∈ ds_T ∧ Cond.initialized mt_X9_next.1.cls ∈ ds_T ∧ (mt_X9_next.1.cls ≠ "java/lang/invoke/MethodHandle" ∧ mt_X9_next.1.cls ≠ "java/lang/invoke/VarHandle" ∧ (parseMethodDescriptor mt_X9_next.1.desc).map (fun d => d.parameters.length) = some 2) := ⟨ds_T_of (i := 893) rfl rfl, ds_wb_T (p := 51) (by decide +kernel), by decide +kernel⟩
theorem zi_X9_next : Cond.instanceMethod mt_X9_next.1 ∈ ds_T := ds_wb_T (p := 891) (by decide +kernel)
theorem zs_X9_next : Cond.selects mt_X9_next.1.cls mt_X9_next.1 mt_X9_next.1 ∈ ds_T := ds_wb_T (p := 892) (by decide +kernel)
set_option maxRecDepth 100000 in
theorem zw_X9_ones : Cond.code mt_X9_ones.1 mt_X9_ones.2.1 mt_X9_ones.2.2.1 mt_X9_ones.2.2.2.1 ∈ ds_T ∧ Cond.initialized mt_X9_ones.1.cls ∈ ds_T ∧ (mt_X9_ones.1.cls ≠ "java/lang/invoke/MethodHandle" ∧ mt_X9_ones.1.cls ≠ "java/lang/invoke/VarHandle" ∧ (parseMethodDescriptor mt_X9_ones.1.desc).map (fun d => d.parameters.length) = some 1) := ⟨ds_T_of (i := 914) rfl rfl, ds_wb_T (p := 51) (by decide +kernel), by decide +kernel⟩
theorem zt_X9_ones : Cond.static mt_X9_ones.1 ∈ ds_T := ds_wb_T (p := 913) (by decide +kernel)
set_option maxRecDepth 100000 in
theorem zw_X9_goDown : Cond.code mt_X9_goDown.1 mt_X9_goDown.2.1 mt_X9_goDown.2.2.1 mt_X9_goDown.2.2.2.1 ∈ ds_T ∧ Cond.initialized mt_X9_goDown.1.cls ∈ ds_T ∧ (mt_X9_goDown.1.cls ≠ "java/lang/invoke/MethodHandle" ∧ mt_X9_goDown.1.cls ≠ "java/lang/invoke/VarHandle" ∧ (parseMethodDescriptor mt_X9_goDown.1.desc).map (fun d => d.parameters.length) = some 0) := ⟨ds_T_of (i := 911) rfl rfl, ds_wb_T (p := 51) (by decide +kernel), by decide +kernel⟩
theorem zi_X9_goDown : Cond.instanceMethod mt_X9_goDown.1 ∈ ds_T := ds_wb_T (p := 910) (by decide +kernel)
theorem zs_X9_goDown : Cond.selects mt_X9_goDown.1.cls mt_X9_goDown.1 mt_X9_goDown.1 ∈ ds_T := ds_wb_T (p := 29) (by decide +kernel)
set_option maxRecDepth 100000 in
theorem zw_X9_parts : Cond.code mt_X9_parts.1 mt_X9_parts.2.1 mt_X9_parts.2.2.1 mt_X9_parts.2.2.2.1 ∈ ds_T ∧ Cond.initialized mt_X9_parts.1.cls ∈ ds_T ∧ (mt_X9_parts.1.cls ≠ "java/lang/invoke/MethodHandle" ∧ mt_X9_parts.1.cls ≠ "java/lang/invoke/VarHandle" ∧ (parseMethodDescriptor mt_X9_parts.1.desc).map (fun d => d.parameters.length) = some 1) := ⟨ds_T_of (i := 918) rfl rfl, ds_wb_T (p := 51) (by decide +kernel), by decide +kernel⟩
theorem zi_X9_parts : Cond.instanceMethod mt_X9_parts.1 ∈ ds_T := ds_wb_T (p := 917) (by decide +kernel)
theorem zs_X9_parts : Cond.selects mt_X9_parts.1.cls mt_X9_parts.1 mt_X9_parts.1 ∈ ds_T := ds_wb_T (p := 30) (by decide +kernel)
set_option maxRecDepth 100000 in
theorem zw_X9_lowest : Cond.code mt_X9_lowest.1 mt_X9_lowest.2.1 mt_X9_lowest.2.2.1 mt_X9_lowest.2.2.2.1 ∈ ds_T ∧ Cond.initialized mt_X9_lowest.1.cls ∈ ds_T ∧ (mt_X9_lowest.1.cls ≠ "java/lang/invoke/MethodHandle" ∧ mt_X9_lowest.1.cls ≠ "java/lang/invoke/VarHandle" ∧ (parseMethodDescriptor mt_X9_lowest.1.desc).map (fun d => d.parameters.length) = some 3) := ⟨ds_T_of (i := 921) rfl rfl, ds_wb_T (p := 51) (by decide +kernel), by decide +kernel⟩
theorem zt_X9_lowest : Cond.static mt_X9_lowest.1 ∈ ds_T := ds_wb_T (p := 920) (by decide +kernel)
set_option maxRecDepth 100000 in
theorem zw_X9_share : Cond.code mt_X9_share.1 mt_X9_share.2.1 mt_X9_share.2.2.1 mt_X9_share.2.2.2.1 ∈ ds_T ∧ Cond.initialized mt_X9_share.1.cls ∈ ds_T ∧ (mt_X9_share.1.cls ≠ "java/lang/invoke/MethodHandle" ∧ mt_X9_share.1.cls ≠ "java/lang/invoke/VarHandle" ∧ (parseMethodDescriptor mt_X9_share.1.desc).map (fun d => d.parameters.length) = some 5) := ⟨ds_T_of (i := 905) rfl rfl, ds_wb_T (p := 51) (by decide +kernel), by decide +kernel⟩
theorem zi_X9_share : Cond.instanceMethod mt_X9_share.1 ∈ ds_T := ds_wb_T (p := 903) (by decide +kernel)
theorem zs_X9_share : Cond.selects mt_X9_share.1.cls mt_X9_share.1 mt_X9_share.1 ∈ ds_T := ds_wb_T (p := 904) (by decide +kernel)
set_option maxRecDepth 100000 in
theorem zw_X9_findOn : Cond.code mt_X9_findOn.1 mt_X9_findOn.2.1 mt_X9_findOn.2.2.1 mt_X9_findOn.2.2.2.1 ∈ ds_T ∧ Cond.initialized mt_X9_findOn.1.cls ∈ ds_T ∧ (mt_X9_findOn.1.cls ≠ "java/lang/invoke/MethodHandle" ∧ mt_X9_findOn.1.cls ≠ "java/lang/invoke/VarHandle" ∧ (parseMethodDescriptor mt_X9_findOn.1.desc).map (fun d => d.parameters.length) = some 1) := ⟨ds_T_of (i := 932) rfl rfl, ds_wb_T (p := 51) (by decide +kernel), by decide +kernel⟩
theorem zi_X9_findOn : Cond.instanceMethod mt_X9_findOn.1 ∈ ds_T := ds_wb_T (p := 931) (by decide +kernel)
theorem zs_X9_findOn : Cond.selects mt_X9_findOn.1.cls mt_X9_findOn.1 mt_X9_findOn.1 ∈ ds_T := ds_wb_T (p := 31) (by decide +kernel)
set_option maxRecDepth 100000 in
theorem zw_X9_on : Cond.code mt_X9_on.1 mt_X9_on.2.1 mt_X9_on.2.2.1 mt_X9_on.2.2.2.1 ∈ ds_T ∧ Cond.initialized mt_X9_on.1.cls ∈ ds_T ∧ (mt_X9_on.1.cls ≠ "java/lang/invoke/MethodHandle" ∧ mt_X9_on.1.cls ≠ "java/lang/invoke/VarHandle" ∧ (parseMethodDescriptor mt_X9_on.1.desc).map (fun d => d.parameters.length) = some 4) := ⟨ds_T_of (i := 928) rfl rfl, ds_wb_T (p := 51) (by decide +kernel), by decide +kernel⟩
theorem zi_X9_on : Cond.instanceMethod mt_X9_on.1 ∈ ds_T := ds_wb_T (p := 926) (by decide +kernel)
theorem zs_X9_on : Cond.selects mt_X9_on.1.cls mt_X9_on.1 mt_X9_on.1 ∈ ds_T := ds_wb_T (p := 927) (by decide +kernel)
set_option maxRecDepth 100000 in
theorem zw_X9_findWorst : Cond.code mt_X9_findWorst.1 mt_X9_findWorst.2.1 mt_X9_findWorst.2.2.1 mt_X9_findWorst.2.2.2.1 ∈ ds_T ∧ Cond.initialized mt_X9_findWorst.1.cls ∈ ds_T ∧ (mt_X9_findWorst.1.cls ≠ "java/lang/invoke/MethodHandle" ∧ mt_X9_findWorst.1.cls ≠ "java/lang/invoke/VarHandle" ∧ (parseMethodDescriptor mt_X9_findWorst.1.desc).map (fun d => d.parameters.length) = some 1) := ⟨ds_T_of (i := 941) rfl rfl, ds_wb_T (p := 51) (by decide +kernel), by decide +kernel⟩
theorem zi_X9_findWorst : Cond.instanceMethod mt_X9_findWorst.1 ∈ ds_T := ds_wb_T (p := 940) (by decide +kernel)
theorem zs_X9_findWorst : Cond.selects mt_X9_findWorst.1.cls mt_X9_findWorst.1 mt_X9_findWorst.1 ∈ ds_T := ds_wb_T (p := 32) (by decide +kernel)
set_option maxRecDepth 100000 in
theorem zw_X9_worst : Cond.code mt_X9_worst.1 mt_X9_worst.2.1 mt_X9_worst.2.2.1 mt_X9_worst.2.2.2.1 ∈ ds_T ∧ Cond.initialized mt_X9_worst.1.cls ∈ ds_T ∧ (mt_X9_worst.1.cls ≠ "java/lang/invoke/MethodHandle" ∧ mt_X9_worst.1.cls ≠ "java/lang/invoke/VarHandle" ∧ (parseMethodDescriptor mt_X9_worst.1.desc).map (fun d => d.parameters.length) = some 2) := ⟨ds_T_of (i := 936) rfl rfl, ds_wb_T (p := 51) (by decide +kernel), by decide +kernel⟩
theorem zi_X9_worst : Cond.instanceMethod mt_X9_worst.1 ∈ ds_T := ds_wb_T (p := 934) (by decide +kernel)
theorem zs_X9_worst : Cond.selects mt_X9_worst.1.cls mt_X9_worst.1 mt_X9_worst.1 ∈ ds_T := ds_wb_T (p := 935) (by decide +kernel)
set_option maxRecDepth 100000 in
theorem zw_X9_guard : Cond.code mt_X9_guard.1 mt_X9_guard.2.1 mt_X9_guard.2.2.1 mt_X9_guard.2.2.2.1 ∈ ds_T ∧ Cond.initialized mt_X9_guard.1.cls ∈ ds_T ∧ (mt_X9_guard.1.cls ≠ "java/lang/invoke/MethodHandle" ∧ mt_X9_guard.1.cls ≠ "java/lang/invoke/VarHandle" ∧ (parseMethodDescriptor mt_X9_guard.1.desc).map (fun d => d.parameters.length) = some 1) := ⟨ds_T_of (i := 949) rfl rfl, ds_wb_T (p := 51) (by decide +kernel), by decide +kernel⟩
theorem zi_X9_guard : Cond.instanceMethod mt_X9_guard.1 ∈ ds_T := ds_wb_T (p := 947) (by decide +kernel)
theorem zs_X9_guard : Cond.selects mt_X9_guard.1.cls mt_X9_guard.1 mt_X9_guard.1 ∈ ds_T := ds_wb_T (p := 948) (by decide +kernel)
set_option maxRecDepth 100000 in
theorem zw_X9_findAll : Cond.code mt_X9_findAll.1 mt_X9_findAll.2.1 mt_X9_findAll.2.2.1 mt_X9_findAll.2.2.2.1 ∈ ds_T ∧ Cond.initialized mt_X9_findAll.1.cls ∈ ds_T ∧ (mt_X9_findAll.1.cls ≠ "java/lang/invoke/MethodHandle" ∧ mt_X9_findAll.1.cls ≠ "java/lang/invoke/VarHandle" ∧ (parseMethodDescriptor mt_X9_findAll.1.desc).map (fun d => d.parameters.length) = some 0) := ⟨ds_T_of (i := 957) rfl rfl, ds_wb_T (p := 51) (by decide +kernel), by decide +kernel⟩
theorem zi_X9_findAll : Cond.instanceMethod mt_X9_findAll.1 ∈ ds_T := ds_wb_T (p := 956) (by decide +kernel)
theorem zs_X9_findAll : Cond.selects mt_X9_findAll.1.cls mt_X9_findAll.1 mt_X9_findAll.1 ∈ ds_T := ds_wb_T (p := 33) (by decide +kernel)
set_option maxRecDepth 100000 in
theorem zw_X9_all : Cond.code mt_X9_all.1 mt_X9_all.2.1 mt_X9_all.2.2.1 mt_X9_all.2.2.2.1 ∈ ds_T ∧ Cond.initialized mt_X9_all.1.cls ∈ ds_T ∧ (mt_X9_all.1.cls ≠ "java/lang/invoke/MethodHandle" ∧ mt_X9_all.1.cls ≠ "java/lang/invoke/VarHandle" ∧ (parseMethodDescriptor mt_X9_all.1.desc).map (fun d => d.parameters.length) = some 1) := ⟨ds_T_of (i := 953) rfl rfl, ds_wb_T (p := 51) (by decide +kernel), by decide +kernel⟩
theorem zi_X9_all : Cond.instanceMethod mt_X9_all.1 ∈ ds_T := ds_wb_T (p := 951) (by decide +kernel)
theorem zs_X9_all : Cond.selects mt_X9_all.1.cls mt_X9_all.1 mt_X9_all.1 ∈ ds_T := ds_wb_T (p := 952) (by decide +kernel)
set_option maxRecDepth 100000 in
theorem zw_X9_parted : Cond.code mt_X9_parted.1 mt_X9_parted.2.1 mt_X9_parted.2.2.1 mt_X9_parted.2.2.2.1 ∈ ds_T ∧ Cond.initialized mt_X9_parted.1.cls ∈ ds_T ∧ (mt_X9_parted.1.cls ≠ "java/lang/invoke/MethodHandle" ∧ mt_X9_parted.1.cls ≠ "java/lang/invoke/VarHandle" ∧ (parseMethodDescriptor mt_X9_parted.1.desc).map (fun d => d.parameters.length) = some 2) := ⟨ds_T_of (i := 961) rfl rfl, ds_wb_T (p := 51) (by decide +kernel), by decide +kernel⟩
theorem zi_X9_parted : Cond.instanceMethod mt_X9_parted.1 ∈ ds_T := ds_wb_T (p := 959) (by decide +kernel)
theorem zs_X9_parted : Cond.selects mt_X9_parted.1.cls mt_X9_parted.1 mt_X9_parted.1 ∈ ds_T := ds_wb_T (p := 960) (by decide +kernel)
set_option maxRecDepth 100000 in
theorem zw_X9_who : Cond.code mt_X9_who.1 mt_X9_who.2.1 mt_X9_who.2.2.1 mt_X9_who.2.2.2.1 ∈ ds_T ∧ Cond.initialized mt_X9_who.1.cls ∈ ds_T ∧ (mt_X9_who.1.cls ≠ "java/lang/invoke/MethodHandle" ∧ mt_X9_who.1.cls ≠ "java/lang/invoke/VarHandle" ∧ (parseMethodDescriptor mt_X9_who.1.desc).map (fun d => d.parameters.length) = some 3) := ⟨ds_T_of (i := 965) rfl rfl, ds_wb_T (p := 51) (by decide +kernel), by decide +kernel⟩
theorem zi_X9_who : Cond.instanceMethod mt_X9_who.1 ∈ ds_T := ds_wb_T (p := 963) (by decide +kernel)
theorem zs_X9_who : Cond.selects mt_X9_who.1.cls mt_X9_who.1 mt_X9_who.1 ∈ ds_T := ds_wb_T (p := 964) (by decide +kernel)
set_option maxRecDepth 100000 in
theorem zw_X9_isLesserRow : Cond.code mt_X9_isLesserRow.1 mt_X9_isLesserRow.2.1 mt_X9_isLesserRow.2.2.1 mt_X9_isLesserRow.2.2.2.1 ∈ ds_T ∧ Cond.initialized mt_X9_isLesserRow.1.cls ∈ ds_T ∧ (mt_X9_isLesserRow.1.cls ≠ "java/lang/invoke/MethodHandle" ∧ mt_X9_isLesserRow.1.cls ≠ "java/lang/invoke/VarHandle" ∧ (parseMethodDescriptor mt_X9_isLesserRow.1.desc).map (fun d => d.parameters.length) = some 0) := ⟨ds_T_of (i := 979) rfl rfl, ds_wb_T (p := 51) (by decide +kernel), by decide +kernel⟩
theorem zi_X9_isLesserRow : Cond.instanceMethod mt_X9_isLesserRow.1 ∈ ds_T := ds_wb_T (p := 978) (by decide +kernel)
theorem zs_X9_isLesserRow : Cond.selects mt_X9_isLesserRow.1.cls mt_X9_isLesserRow.1 mt_X9_isLesserRow.1 ∈ ds_T := ds_wb_T (p := 35) (by decide +kernel)
set_option maxRecDepth 100000 in
theorem zw_X9_changes : Cond.code mt_X9_changes.1 mt_X9_changes.2.1 mt_X9_changes.2.2.1 mt_X9_changes.2.2.2.1 ∈ ds_T ∧ Cond.initialized mt_X9_changes.1.cls ∈ ds_T ∧ (mt_X9_changes.1.cls ≠ "java/lang/invoke/MethodHandle" ∧ mt_X9_changes.1.cls ≠ "java/lang/invoke/VarHandle" ∧ (parseMethodDescriptor mt_X9_changes.1.desc).map (fun d => d.parameters.length) = some 0) := ⟨ds_T_of (i := 975) rfl rfl, ds_wb_T (p := 51) (by decide +kernel), by decide +kernel⟩
theorem zi_X9_changes : Cond.instanceMethod mt_X9_changes.1 ∈ ds_T := ds_wb_T (p := 974) (by decide +kernel)
theorem zs_X9_changes : Cond.selects mt_X9_changes.1.cls mt_X9_changes.1 mt_X9_changes.1 ∈ ds_T := ds_wb_T (p := 34) (by decide +kernel)
set_option maxRecDepth 100000 in
theorem zw_X9_seek : Cond.code mt_X9_seek.1 mt_X9_seek.2.1 mt_X9_seek.2.2.1 mt_X9_seek.2.2.2.1 ∈ ds_T ∧ Cond.initialized mt_X9_seek.1.cls ∈ ds_T ∧ (mt_X9_seek.1.cls ≠ "java/lang/invoke/MethodHandle" ∧ mt_X9_seek.1.cls ≠ "java/lang/invoke/VarHandle" ∧ (parseMethodDescriptor mt_X9_seek.1.desc).map (fun d => d.parameters.length) = some 2) := ⟨ds_T_of (i := 970) rfl rfl, ds_wb_T (p := 51) (by decide +kernel), by decide +kernel⟩
theorem zi_X9_seek : Cond.instanceMethod mt_X9_seek.1 ∈ ds_T := ds_wb_T (p := 968) (by decide +kernel)
theorem zs_X9_seek : Cond.selects mt_X9_seek.1.cls mt_X9_seek.1 mt_X9_seek.1 ∈ ds_T := ds_wb_T (p := 969) (by decide +kernel)
set_option maxRecDepth 100000 in
theorem zw_X9_sought : Cond.code mt_X9_sought.1 mt_X9_sought.2.1 mt_X9_sought.2.2.1 mt_X9_sought.2.2.2.1 ∈ ds_T ∧ Cond.initialized mt_X9_sought.1.cls ∈ ds_T ∧ (mt_X9_sought.1.cls ≠ "java/lang/invoke/MethodHandle" ∧ mt_X9_sought.1.cls ≠ "java/lang/invoke/VarHandle" ∧ (parseMethodDescriptor mt_X9_sought.1.desc).map (fun d => d.parameters.length) = some 1) := ⟨ds_T_of (i := 983) rfl rfl, ds_wb_T (p := 51) (by decide +kernel), by decide +kernel⟩
theorem zi_X9_sought : Cond.instanceMethod mt_X9_sought.1 ∈ ds_T := ds_wb_T (p := 981) (by decide +kernel)
theorem zs_X9_sought : Cond.selects mt_X9_sought.1.cls mt_X9_sought.1 mt_X9_sought.1 ∈ ds_T := ds_wb_T (p := 982) (by decide +kernel)
set_option maxRecDepth 100000 in
theorem zw_X9_better : Cond.code mt_X9_better.1 mt_X9_better.2.1 mt_X9_better.2.2.1 mt_X9_better.2.2.2.1 ∈ ds_T ∧ Cond.initialized mt_X9_better.1.cls ∈ ds_T ∧ (mt_X9_better.1.cls ≠ "java/lang/invoke/MethodHandle" ∧ mt_X9_better.1.cls ≠ "java/lang/invoke/VarHandle" ∧ (parseMethodDescriptor mt_X9_better.1.desc).map (fun d => d.parameters.length) = some 1) := ⟨ds_T_of (i := 987) rfl rfl, ds_wb_T (p := 51) (by decide +kernel), by decide +kernel⟩
theorem zi_X9_better : Cond.instanceMethod mt_X9_better.1 ∈ ds_T := ds_wb_T (p := 985) (by decide +kernel)
theorem zs_X9_better : Cond.selects mt_X9_better.1.cls mt_X9_better.1 mt_X9_better.1 ∈ ds_T := ds_wb_T (p := 986) (by decide +kernel)
set_option maxRecDepth 100000 in
theorem zw_X9_take : Cond.code mt_X9_take.1 mt_X9_take.2.1 mt_X9_take.2.2.1 mt_X9_take.2.2.2.1 ∈ ds_T ∧ Cond.initialized mt_X9_take.1.cls ∈ ds_T ∧ (mt_X9_take.1.cls ≠ "java/lang/invoke/MethodHandle" ∧ mt_X9_take.1.cls ≠ "java/lang/invoke/VarHandle" ∧ (parseMethodDescriptor mt_X9_take.1.desc).map (fun d => d.parameters.length) = some 0) := ⟨ds_T_of (i := 992) rfl rfl, ds_wb_T (p := 51) (by decide +kernel), by decide +kernel⟩
theorem zi_X9_take : Cond.instanceMethod mt_X9_take.1 ∈ ds_T := ds_wb_T (p := 990) (by decide +kernel)
theorem zs_X9_take : Cond.selects mt_X9_take.1.cls mt_X9_take.1 mt_X9_take.1 ∈ ds_T := ds_wb_T (p := 991) (by decide +kernel)
set_option maxRecDepth 100000 in
theorem zw_X9_addGoes : Cond.code mt_X9_addGoes.1 mt_X9_addGoes.2.1 mt_X9_addGoes.2.2.1 mt_X9_addGoes.2.2.2.1 ∈ ds_T ∧ Cond.initialized mt_X9_addGoes.1.cls ∈ ds_T ∧ (mt_X9_addGoes.1.cls ≠ "java/lang/invoke/MethodHandle" ∧ mt_X9_addGoes.1.cls ≠ "java/lang/invoke/VarHandle" ∧ (parseMethodDescriptor mt_X9_addGoes.1.desc).map (fun d => d.parameters.length) = some 3) := ⟨ds_T_of (i := 1012) rfl rfl, ds_wb_T (p := 51) (by decide +kernel), by decide +kernel⟩
theorem zi_X9_addGoes : Cond.instanceMethod mt_X9_addGoes.1 ∈ ds_T := ds_wb_T (p := 1011) (by decide +kernel)
theorem zs_X9_addGoes : Cond.selects mt_X9_addGoes.1.cls mt_X9_addGoes.1 mt_X9_addGoes.1 ∈ ds_T := ds_wb_T (p := 39) (by decide +kernel)
set_option maxRecDepth 100000 in
theorem zw_X9_hasRing : Cond.code mt_X9_hasRing.1 mt_X9_hasRing.2.1 mt_X9_hasRing.2.2.1 mt_X9_hasRing.2.2.2.1 ∈ ds_T ∧ Cond.initialized mt_X9_hasRing.1.cls ∈ ds_T ∧ (mt_X9_hasRing.1.cls ≠ "java/lang/invoke/MethodHandle" ∧ mt_X9_hasRing.1.cls ≠ "java/lang/invoke/VarHandle" ∧ (parseMethodDescriptor mt_X9_hasRing.1.desc).map (fun d => d.parameters.length) = some 4) := ⟨ds_T_of (i := 1008) rfl rfl, ds_wb_T (p := 51) (by decide +kernel), by decide +kernel⟩
theorem zi_X9_hasRing : Cond.instanceMethod mt_X9_hasRing.1 ∈ ds_T := ds_wb_T (p := 1007) (by decide +kernel)
theorem zs_X9_hasRing : Cond.selects mt_X9_hasRing.1.cls mt_X9_hasRing.1 mt_X9_hasRing.1 ∈ ds_T := ds_wb_T (p := 38) (by decide +kernel)
set_option maxRecDepth 100000 in
theorem zw_X9_ringOf : Cond.code mt_X9_ringOf.1 mt_X9_ringOf.2.1 mt_X9_ringOf.2.2.1 mt_X9_ringOf.2.2.2.1 ∈ ds_T ∧ Cond.initialized mt_X9_ringOf.1.cls ∈ ds_T ∧ (mt_X9_ringOf.1.cls ≠ "java/lang/invoke/MethodHandle" ∧ mt_X9_ringOf.1.cls ≠ "java/lang/invoke/VarHandle" ∧ (parseMethodDescriptor mt_X9_ringOf.1.desc).map (fun d => d.parameters.length) = some 3) := ⟨ds_T_of (i := 1004) rfl rfl, ds_wb_T (p := 51) (by decide +kernel), by decide +kernel⟩
theorem zi_X9_ringOf : Cond.instanceMethod mt_X9_ringOf.1 ∈ ds_T := ds_wb_T (p := 1003) (by decide +kernel)
theorem zs_X9_ringOf : Cond.selects mt_X9_ringOf.1.cls mt_X9_ringOf.1 mt_X9_ringOf.1 ∈ ds_T := ds_wb_T (p := 37) (by decide +kernel)
set_option maxRecDepth 100000 in
theorem zw_X9_whyNot : Cond.code mt_X9_whyNot.1 mt_X9_whyNot.2.1 mt_X9_whyNot.2.2.1 mt_X9_whyNot.2.2.2.1 ∈ ds_T ∧ Cond.initialized mt_X9_whyNot.1.cls ∈ ds_T ∧ (mt_X9_whyNot.1.cls ≠ "java/lang/invoke/MethodHandle" ∧ mt_X9_whyNot.1.cls ≠ "java/lang/invoke/VarHandle" ∧ (parseMethodDescriptor mt_X9_whyNot.1.desc).map (fun d => d.parameters.length) = some 2) := ⟨ds_T_of (i := 1000) rfl rfl, ds_wb_T (p := 51) (by decide +kernel), by decide +kernel⟩
theorem zi_X9_whyNot : Cond.instanceMethod mt_X9_whyNot.1 ∈ ds_T := ds_wb_T (p := 999) (by decide +kernel)
theorem zs_X9_whyNot : Cond.selects mt_X9_whyNot.1.cls mt_X9_whyNot.1 mt_X9_whyNot.1 ∈ ds_T := ds_wb_T (p := 36) (by decide +kernel)
set_option maxRecDepth 100000 in
theorem zw_X9_ring : Cond.code mt_X9_ring.1 mt_X9_ring.2.1 mt_X9_ring.2.2.1 mt_X9_ring.2.2.2.1 ∈ ds_T ∧ Cond.initialized mt_X9_ring.1.cls ∈ ds_T ∧ (mt_X9_ring.1.cls ≠ "java/lang/invoke/MethodHandle" ∧ mt_X9_ring.1.cls ≠ "java/lang/invoke/VarHandle" ∧ (parseMethodDescriptor mt_X9_ring.1.desc).map (fun d => d.parameters.length) = some 2) := ⟨ds_T_of (i := 996) rfl rfl, ds_wb_T (p := 51) (by decide +kernel), by decide +kernel⟩
theorem zi_X9_ring : Cond.instanceMethod mt_X9_ring.1 ∈ ds_T := ds_wb_T (p := 994) (by decide +kernel)
theorem zs_X9_ring : Cond.selects mt_X9_ring.1.cls mt_X9_ring.1 mt_X9_ring.1 ∈ ds_T := ds_wb_T (p := 995) (by decide +kernel)
set_option maxRecDepth 100000 in
theorem zw_X9_findOff : Cond.code mt_X9_findOff.1 mt_X9_findOff.2.1 mt_X9_findOff.2.2.1 mt_X9_findOff.2.2.2.1 ∈ ds_T ∧ Cond.initialized mt_X9_findOff.1.cls ∈ ds_T ∧ (mt_X9_findOff.1.cls ≠ "java/lang/invoke/MethodHandle" ∧ mt_X9_findOff.1.cls ≠ "java/lang/invoke/VarHandle" ∧ (parseMethodDescriptor mt_X9_findOff.1.desc).map (fun d => d.parameters.length) = some 2) := ⟨ds_T_of (i := 1020) rfl rfl, ds_wb_T (p := 51) (by decide +kernel), by decide +kernel⟩
theorem zi_X9_findOff : Cond.instanceMethod mt_X9_findOff.1 ∈ ds_T := ds_wb_T (p := 1019) (by decide +kernel)
theorem zs_X9_findOff : Cond.selects mt_X9_findOff.1.cls mt_X9_findOff.1 mt_X9_findOff.1 ∈ ds_T := ds_wb_T (p := 40) (by decide +kernel)
set_option maxRecDepth 100000 in
theorem zw_X9_between : Cond.code mt_X9_between.1 mt_X9_between.2.1 mt_X9_between.2.2.1 mt_X9_between.2.2.2.1 ∈ ds_T ∧ Cond.initialized mt_X9_between.1.cls ∈ ds_T ∧ (mt_X9_between.1.cls ≠ "java/lang/invoke/MethodHandle" ∧ mt_X9_between.1.cls ≠ "java/lang/invoke/VarHandle" ∧ (parseMethodDescriptor mt_X9_between.1.desc).map (fun d => d.parameters.length) = some 2) := ⟨ds_T_of (i := 1016) rfl rfl, ds_wb_T (p := 51) (by decide +kernel), by decide +kernel⟩
theorem zi_X9_between : Cond.instanceMethod mt_X9_between.1 ∈ ds_T := ds_wb_T (p := 1014) (by decide +kernel)
theorem zs_X9_between : Cond.selects mt_X9_between.1.cls mt_X9_between.1 mt_X9_between.1 ∈ ds_T := ds_wb_T (p := 1015) (by decide +kernel)
set_option maxRecDepth 100000 in
theorem zw_X9_value : Cond.code mt_X9_value.1 mt_X9_value.2.1 mt_X9_value.2.2.1 mt_X9_value.2.2.2.1 ∈ ds_T ∧ Cond.initialized mt_X9_value.1.cls ∈ ds_T ∧ (mt_X9_value.1.cls ≠ "java/lang/invoke/MethodHandle" ∧ mt_X9_value.1.cls ≠ "java/lang/invoke/VarHandle" ∧ (parseMethodDescriptor mt_X9_value.1.desc).map (fun d => d.parameters.length) = some 3) := ⟨ds_T_of (i := 1024) rfl rfl, ds_wb_T (p := 51) (by decide +kernel), by decide +kernel⟩
theorem zi_X9_value : Cond.instanceMethod mt_X9_value.1 ∈ ds_T := ds_wb_T (p := 1022) (by decide +kernel)
theorem zs_X9_value : Cond.selects mt_X9_value.1.cls mt_X9_value.1 mt_X9_value.1 ∈ ds_T := ds_wb_T (p := 1023) (by decide +kernel)
set_option maxRecDepth 100000 in
theorem zw_X9_grow : Cond.code mt_X9_grow.1 mt_X9_grow.2.1 mt_X9_grow.2.2.1 mt_X9_grow.2.2.2.1 ∈ ds_T ∧ Cond.initialized mt_X9_grow.1.cls ∈ ds_T ∧ (mt_X9_grow.1.cls ≠ "java/lang/invoke/MethodHandle" ∧ mt_X9_grow.1.cls ≠ "java/lang/invoke/VarHandle" ∧ (parseMethodDescriptor mt_X9_grow.1.desc).map (fun d => d.parameters.length) = some 2) := ⟨ds_T_of (i := 1028) rfl rfl, ds_wb_T (p := 51) (by decide +kernel), by decide +kernel⟩
theorem zi_X9_grow : Cond.instanceMethod mt_X9_grow.1 ∈ ds_T := ds_wb_T (p := 1026) (by decide +kernel)
theorem zs_X9_grow : Cond.selects mt_X9_grow.1.cls mt_X9_grow.1 mt_X9_grow.1 ∈ ds_T := ds_wb_T (p := 1027) (by decide +kernel)
set_option maxRecDepth 100000 in
theorem zw_X9_year : Cond.code mt_X9_year.1 mt_X9_year.2.1 mt_X9_year.2.2.1 mt_X9_year.2.2.2.1 ∈ ds_T ∧ Cond.initialized mt_X9_year.1.cls ∈ ds_T ∧ (mt_X9_year.1.cls ≠ "java/lang/invoke/MethodHandle" ∧ mt_X9_year.1.cls ≠ "java/lang/invoke/VarHandle" ∧ (parseMethodDescriptor mt_X9_year.1.desc).map (fun d => d.parameters.length) = some 2) := ⟨ds_T_of (i := 1033) rfl rfl, ds_wb_T (p := 51) (by decide +kernel), by decide +kernel⟩
theorem zi_X9_year : Cond.instanceMethod mt_X9_year.1 ∈ ds_T := ds_wb_T (p := 1031) (by decide +kernel)
theorem zs_X9_year : Cond.selects mt_X9_year.1.cls mt_X9_year.1 mt_X9_year.1 ∈ ds_T := ds_wb_T (p := 1032) (by decide +kernel)
set_option maxRecDepth 100000 in
theorem zw_X9_told : Cond.code mt_X9_told.1 mt_X9_told.2.1 mt_X9_told.2.2.1 mt_X9_told.2.2.2.1 ∈ ds_T ∧ Cond.initialized mt_X9_told.1.cls ∈ ds_T ∧ (mt_X9_told.1.cls ≠ "java/lang/invoke/MethodHandle" ∧ mt_X9_told.1.cls ≠ "java/lang/invoke/VarHandle" ∧ (parseMethodDescriptor mt_X9_told.1.desc).map (fun d => d.parameters.length) = some 1) := ⟨ds_T_of (i := 1039) rfl rfl, ds_wb_T (p := 51) (by decide +kernel), by decide +kernel⟩
theorem zi_X9_told : Cond.instanceMethod mt_X9_told.1 ∈ ds_T := ds_wb_T (p := 1037) (by decide +kernel)
theorem zs_X9_told : Cond.selects mt_X9_told.1.cls mt_X9_told.1 mt_X9_told.1 ∈ ds_T := ds_wb_T (p := 1038) (by decide +kernel)
set_option maxRecDepth 100000 in
theorem zw_J13_compare_74951 : Cond.code mt_J13_compare_74951.1 mt_J13_compare_74951.2.1 mt_J13_compare_74951.2.2.1 mt_J13_compare_74951.2.2.2.1 ∈ ds_T ∧ Cond.initialized mt_J13_compare_74951.1.cls ∈ ds_T ∧ (mt_J13_compare_74951.1.cls ≠ "java/lang/invoke/MethodHandle" ∧ mt_J13_compare_74951.1.cls ≠ "java/lang/invoke/VarHandle" ∧ (parseMethodDescriptor mt_J13_compare_74951.1.desc).map (fun d => d.parameters.length) = some 2) := ⟨ds_T_of (i := 562) rfl rfl, ds_wb_T (p := 53) (by decide +kernel), by decide +kernel⟩
theorem zt_J13_compare_74951 : Cond.static mt_J13_compare_74951.1 ∈ ds_T := ds_wb_T (p := 561) (by decide +kernel)
set_option maxRecDepth 100000 in
theorem zw_J9_min_f86c9 : Cond.code mt_J9_min_f86c9.1 mt_J9_min_f86c9.2.1 mt_J9_min_f86c9.2.2.1 mt_J9_min_f86c9.2.2.2.1 ∈ ds_T ∧ Cond.initialized mt_J9_min_f86c9.1.cls ∈ ds_T ∧ (mt_J9_min_f86c9.1.cls ≠ "java/lang/invoke/MethodHandle" ∧ mt_J9_min_f86c9.1.cls ≠ "java/lang/invoke/VarHandle" ∧ (parseMethodDescriptor mt_J9_min_f86c9.1.desc).map (fun d => d.parameters.length) = some 2) := ⟨ds_T_of (i := 714) rfl rfl, ds_wb_T (p := 55) (by decide +kernel), by decide +kernel⟩
theorem zt_J9_min_f86c9 : Cond.static mt_J9_min_f86c9.1 ∈ ds_T := ds_wb_T (p := 713) (by decide +kernel)
set_option maxRecDepth 100000 in
theorem zw_J7_fill_d0a16 : Cond.code mt_J7_fill_d0a16.1 mt_J7_fill_d0a16.2.1 mt_J7_fill_d0a16.2.2.1 mt_J7_fill_d0a16.2.2.2.1 ∈ ds_T ∧ Cond.initialized mt_J7_fill_d0a16.1.cls ∈ ds_T ∧ (mt_J7_fill_d0a16.1.cls ≠ "java/lang/invoke/MethodHandle" ∧ mt_J7_fill_d0a16.1.cls ≠ "java/lang/invoke/VarHandle" ∧ (parseMethodDescriptor mt_J7_fill_d0a16.1.desc).map (fun d => d.parameters.length) = some 2) := ⟨ds_T_of (i := 468) rfl rfl, ds_wb_T (p := 52) (by decide +kernel), by decide +kernel⟩
theorem zt_J7_fill_d0a16 : Cond.static mt_J7_fill_d0a16.1 ∈ ds_T := ds_wb_T (p := 467) (by decide +kernel)
set_option maxRecDepth 100000 in
theorem zw_J7_fill_53178 : Cond.code mt_J7_fill_53178.1 mt_J7_fill_53178.2.1 mt_J7_fill_53178.2.2.1 mt_J7_fill_53178.2.2.2.1 ∈ ds_T ∧ Cond.initialized mt_J7_fill_53178.1.cls ∈ ds_T ∧ (mt_J7_fill_53178.1.cls ≠ "java/lang/invoke/MethodHandle" ∧ mt_J7_fill_53178.1.cls ≠ "java/lang/invoke/VarHandle" ∧ (parseMethodDescriptor mt_J7_fill_53178.1.desc).map (fun d => d.parameters.length) = some 2) := ⟨ds_T_of (i := 363) rfl rfl, ds_wb_T (p := 52) (by decide +kernel), by decide +kernel⟩
theorem zt_J7_fill_53178 : Cond.static mt_J7_fill_53178.1 ∈ ds_T := ds_wb_T (p := 362) (by decide +kernel)
end
section
/-! plain facts on numbers and arrays, to paste: each family by itself; over the kit's rows on nI and upd -/
/-! ===== order of ints, in all its forms, and through longs ===== -/
theorem fa_lt (a b : Int32) : a < b ↔ a.toInt < b.toInt := Int32.lt_iff_toInt_lt
theorem fa_le (a b : Int32) : a ≤ b ↔ a.toInt ≤ b.toInt := Int32.le_iff_toInt_le
theorem fa_eq (a b : Int32) : a = b ↔ a.toInt = b.toInt := Int32.toInt_inj.symm
theorem fa_lt64 (a b : Int64) : a < b ↔ a.toInt < b.toInt := Int64.lt_iff_toInt_lt
theorem fa_le64 (a b : Int64) : a ≤ b ↔ a.toInt ≤ b.toInt := Int64.le_iff_toInt_le
theorem fa_eq64 (a b : Int64) : a = b ↔ a.toInt = b.toInt := Int64.toInt_inj.symm
/-- a comparison of two ints taken as longs -/
theorem fa_wide_lt (a b : Int32) : a.toInt64 < b.toInt64 ↔ a < b := by rw [fa_lt64, fa_lt, Int32.toInt_toInt64, Int32.toInt_toInt64]
theorem fa_wide_le (a b : Int32) : a.toInt64 ≤ b.toInt64 ↔ a ≤ b := by rw [fa_le64, fa_le, Int32.toInt_toInt64, Int32.toInt_toInt64]
theorem fa_wide_eq (a b : Int32) : a.toInt64 = b.toInt64 ↔ a = b := by rw [fa_eq64, fa_eq, Int32.toInt_toInt64, Int32.toInt_toInt64]
/-- one strict comparison gives all the others -/
theorem fa_of_lt {a b : Int32} (h : a < b) : a ≤ b ∧ ¬ b ≤ a ∧ ¬ b < a ∧ a ≠ b ∧ b ≠ a := by
  rw [fa_lt] at h
  refine ⟨?_, ?_, ?_, ?_, ?_⟩
  · rw [fa_le]; omega
  · rw [fa_le]; omega
  · rw [fa_lt]; omega
  · intro e; rw [fa_eq] at e; omega
  · intro e; rw [fa_eq] at e; omega
theorem fa_of_nlt {a b : Int32} (h : ¬ a < b) : b ≤ a := by
  rw [fa_lt] at h
  rw [fa_le]
  omega
theorem fa_of_nle {a b : Int32} (h : ¬ a ≤ b) : b < a := by
  rw [fa_le] at h
  rw [fa_lt]
  omega
theorem fa_le_ne {a b : Int32} (h : a ≤ b) (h2 : a ≠ b) : a < b := by
  rw [fa_le] at h
  rw [fa_lt]
  have h3 : a.toInt ≠ b.toInt := fun e => h2 ((fa_eq a b).mpr e)
  omega
theorem fa_three (a b : Int32) : a < b ∨ a = b ∨ b < a := by
  rw [fa_lt, fa_lt, fa_eq]
  omega
theorem fa_trans {a b c : Int32} (h : a < b) (h2 : b ≤ c) : a < c := by
  rw [fa_lt] at *
  rw [fa_le] at h2
  omega
/-! ===== small literals as numbers ===== -/
theorem fa_lit (n : Nat) : (OfNat.ofNat n : Int32) = nI n := rfl
theorem fa_litL (n : Nat) : (OfNat.ofNat n : Int64) = lN n := rfl
/-! ===== bits of a number: 'or', masks, one bit ===== -/
theorem fa_and (a b : Nat) : nI a &&& nI b = nI (a &&& b) := by
  apply Int32.toBitVec_inj.1
  show BitVec.ofNat 32 a &&& BitVec.ofNat 32 b = BitVec.ofNat 32 (a &&& b)
  apply BitVec.eq_of_getLsbD_eq
  intro i hi
  simp [hi]
theorem fa_or (a b : Nat) : nI a ||| nI b = nI (a ||| b) := by
  apply Int32.toBitVec_inj.1
  show BitVec.ofNat 32 a ||| BitVec.ofNat 32 b = BitVec.ofNat 32 (a ||| b)
  apply BitVec.eq_of_getLsbD_eq
  intro i hi
  simp [hi]
/-- a remainder by a power of two, as a mask -/
theorem fa_mask (n k : Nat) : nI n &&& nI (2 ^ k - 1) = nI (n % 2 ^ k) := by rw [fa_and, Nat.and_two_pow_sub_one_eq_mod]
/-- 'or' of a high part and a low one that don't meet is their sum -/
theorem fa_or_sum {a k : Nat} (b : Nat) (h : a < 2 ^ k) : nI (2 ^ k * b) ||| nI a = nI (2 ^ k * b + a) := by rw [fa_or, Nat.two_pow_add_eq_or_of_lt h]
/-- one bit, by 'and' with a power of two -/
theorem fa_bit {n j : Nat} (hj : j < 31) : nI n &&& nI (2 ^ j) = 0 ↔ n.testBit j = false := by
  have h2 : (2 : Nat) ^ j < 2 ^ 31 := Nat.pow_lt_pow_right (by decide) hj
  have hle : n &&& 2 ^ j ≤ 2 ^ j := Nat.and_le_right
  have e : n &&& 2 ^ j = 0 ↔ n.testBit j = false := by
    constructor
    · intro h
      have h1 : (n &&& 2 ^ j).testBit j = false := by rw [h]; simp
      rw [Nat.testBit_and] at h1
      first | simpa using h1 | simpa [Nat.testBit_two_pow_self] using h1 | simpa [Nat.testBit_two_pow] using h1
    · intro h
      apply Nat.eq_of_testBit_eq
      intro i
      rw [Nat.testBit_and]
      by_cases hi : j = i
      · subst hi; simp [h]
      · first | (simp [Nat.testBit_two_pow, hi]; done) | (simp [Nat.testBit_two_pow_of_ne hi]; done)
  rw [fa_and]
  constructor
  · intro h
    apply e.mp
    rcases Nat.eq_zero_or_pos (n &&& 2 ^ j) with z | z
    · exact z
    · exact absurd h (nI_ne0 z (Nat.lt_of_le_of_lt hle h2))
  · intro h
    rw [e.mpr h]; exact nI_0
/-- a remainder by a power of two of a number that isn't negative, as Java divides -/
theorem fa_rem {a k : Nat} (ha : a < 2 ^ 31) (hk : k < 31) : nI a - nI a / nI (2 ^ k) * nI (2 ^ k) = nI (a % 2 ^ k) := pk_rem ha (Nat.two_pow_pos k) (Nat.pow_lt_pow_right (by decide) hk)
/-! ===== cuts to a byte, a short ===== -/
theorem fa_byte_xor (x y : Int32) : (x ^^^ y).toInt8 = x.toInt8 ^^^ y.toInt8 := by
  apply Int8.toBitVec_inj.1
  apply BitVec.eq_of_getLsbD_eq
  intro i hi
  first | (simp [hi]; done) | (simp [hi, BitVec.getLsbD_setWidth, BitVec.getLsbD_signExtend]; done)
theorem fa_short_xor (x y : Int32) : (x ^^^ y).toInt16 = x.toInt16 ^^^ y.toInt16 := by
  apply Int16.toBitVec_inj.1
  apply BitVec.eq_of_getLsbD_eq
  intro i hi
  first | (simp [hi]; done) | (simp [hi, BitVec.getLsbD_setWidth, BitVec.getLsbD_signExtend]; done)
/-- the cut to a byte sees the low byte alone -/
theorem fa_byte_low (x : Int32) : (x &&& 255).toInt8 = x.toInt8 := by
  apply Int8.toBitVec_inj.1
  apply BitVec.eq_of_getLsbD_eq
  intro i hi
  have h2 : (255 : Int32).toBitVec.getLsbD i = true := by
    have : ∀ j : Fin 8, (255 : Int32).toBitVec.getLsbD j.val = true := by decide +kernel
    exact this ⟨i, hi⟩
  have h4 : (x &&& 255).toBitVec.getLsbD i = x.toBitVec.getLsbD i := by
    show (x.toBitVec &&& (255 : Int32).toBitVec).getLsbD i = _
    rw [BitVec.getLsbD_and, h2, Bool.and_true]
  have h3 : i < 32 := by omega
  first
    | (show (((x &&& 255).toBitVec).signExtend 8).getLsbD i = (x.toBitVec.signExtend 8).getLsbD i; rw [BitVec.getLsbD_signExtend, BitVec.getLsbD_signExtend, if_pos h3, if_pos h3, h4])
    | (show (((x &&& 255).toBitVec).setWidth 8).getLsbD i = (x.toBitVec.setWidth 8).getLsbD i; rw [BitVec.getLsbD_setWidth, BitVec.getLsbD_setWidth, h4])
    | (simp [hi, h3, h4]; done)
theorem fa_short_low (x : Int32) : (x &&& 65535).toInt16 = x.toInt16 := by
  apply Int16.toBitVec_inj.1
  apply BitVec.eq_of_getLsbD_eq
  intro i hi
  have h2 : (65535 : Int32).toBitVec.getLsbD i = true := by
    have : ∀ j : Fin 16, (65535 : Int32).toBitVec.getLsbD j.val = true := by decide +kernel
    exact this ⟨i, hi⟩
  have h4 : (x &&& 65535).toBitVec.getLsbD i = x.toBitVec.getLsbD i := by
    show (x.toBitVec &&& (65535 : Int32).toBitVec).getLsbD i = _
    rw [BitVec.getLsbD_and, h2, Bool.and_true]
  have h3 : i < 32 := by omega
  first
    | (show (((x &&& 65535).toBitVec).signExtend 16).getLsbD i = (x.toBitVec.signExtend 16).getLsbD i; rw [BitVec.getLsbD_signExtend, BitVec.getLsbD_signExtend, if_pos h3, if_pos h3, h4])
    | (show (((x &&& 65535).toBitVec).setWidth 16).getLsbD i = (x.toBitVec.setWidth 16).getLsbD i; rw [BitVec.getLsbD_setWidth, BitVec.getLsbD_setWidth, h4])
    | (simp [hi, h3, h4]; done)
/-- a small number is its own byte, its own short -/
theorem fa_byte_small {n : Nat} (h : n < 128) : (nI n).toInt8.toInt32 = nI n := by
  have : ∀ j : Fin 128, (nI j.val).toInt8.toInt32 = nI j.val := by decide +kernel
  exact this ⟨n, h⟩
/-! ===== absolute difference ===== -/
theorem fa_absdiff {a b : Nat} (ha : a < 2 ^ 31) (hb : b < 2 ^ 31) : (if nI a < nI b then nI b - nI a else nI a - nI b) = nI (if a < b then b - a else a - b) := by
  by_cases h : a < b
  · rw [if_pos (nI_lt h hb), if_pos h]
    exact pk_sub (Nat.le_of_lt h)
  · rw [if_neg (nI_nlt (Nat.le_of_not_lt h) ha), if_neg h]
    exact pk_sub (Nat.le_of_not_lt h)
/-! ===== an array behind i stores, a conditional store, a row copied ===== -/
/-- f where k < i, what stood there else -/
def fa_fill {α : Type} (f g : Nat → α) (i : Nat) : Nat → α := fun k => if k < i then f k else g k
theorem fa_fill_0 {α : Type} (f g : Nat → α) : fa_fill f g 0 = g := funext fun k => if_neg (Nat.not_lt_zero k)
theorem fa_fill_in {α : Type} {f g : Nat → α} {i k : Nat} (h : k < i) : fa_fill f g i k = f k := if_pos h
theorem fa_fill_out {α : Type} {f g : Nat → α} {i k : Nat} (h : i ≤ k) : fa_fill f g i k = g k := if_neg (Nat.not_lt.mpr h)
theorem fa_fill_succ (f g : Nat → Int32) (i : Nat) : upd (fa_fill f g i) i (f i) = fa_fill f g (i + 1) := by
  funext k
  by_cases e : k = i
  · subst e
    rw [pk_us]
    exact (if_pos (Nat.lt_succ_self k)).symm
  · rw [pk_un e]
    by_cases h : k < i
    · rw [fa_fill_in h, fa_fill_in (Nat.lt_succ_of_lt h)]
    · rw [fa_fill_out (Nat.le_of_not_lt h), fa_fill_out (by omega)]
/-- a store that changes nothing -/
theorem fa_upd_same {f : Nat → Int32} {i : Nat} {x : Int32} (h : f i = x) : upd f i x = f := by
  funext k
  by_cases e : k = i
  · subst e
    rw [pk_us, h]
  · rw [pk_un e]
/-- a store under a condition, told as one -/
theorem fa_upd_if (c : Prop) [Decidable c] (f : Nat → Int32) (i : Nat) (x : Int32) : (if c then upd f i x else f) = upd f i (if c then x else f i) := by
  by_cases h : c
  · rw [if_pos h, if_pos h]
  · rw [if_neg h, if_neg h, fa_upd_same rfl]
/-- two stores at one place, at two -/
theorem fa_upd_twice (f : Nat → Int32) (i : Nat) (x y : Int32) : upd (upd f i x) i y = upd f i y := by
  funext k
  by_cases e : k = i
  · subst e
    rw [pk_us, pk_us]
  · rw [pk_un e, pk_un e, pk_un e]
theorem fa_upd_swap (f : Nat → Int32) {i j : Nat} (h : i ≠ j) (x y : Int32) : upd (upd f i x) j y = upd (upd f j y) i x := by
  funext k
  by_cases e : k = i
  · subst e
    rw [pk_un h, pk_us, pk_us]
  · by_cases e2 : k = j
    · subst e2
      rw [pk_us, pk_un e, pk_us]
    · rw [pk_un e2, pk_un e, pk_un e, pk_un e2]
/-! ===== the first index with a property; a count ===== -/
/-- the first k < n with p k, n if there is none -/
def fa_first (p : Nat → Bool) : Nat → Nat
  | 0 => 0
  | n + 1 => if fa_first p n < n then fa_first p n else if p n then n else n + 1
theorem fa_first_le (p : Nat → Bool) : ∀ n, fa_first p n ≤ n
  | 0 => Nat.le_refl 0
  | n + 1 => by
    have ih := fa_first_le p n
    unfold fa_first
    split
    · omega
    · split
      · omega
      · omega
theorem fa_first_no (p : Nat → Bool) : ∀ n k, k < fa_first p n → p k = false
  | 0, k, h => absurd h (Nat.not_lt_zero k)
  | n + 1, k, h => by
    have ih := fa_first_no p n
    have hl := fa_first_le p n
    unfold fa_first at h
    split at h
    · exact ih k h
    · rename_i h1
      split at h
      · exact ih k (by omega)
      · rename_i h2
        by_cases e : k = n
        · subst e
          exact Bool.eq_false_iff.mpr h2
        · exact ih k (by omega)
theorem fa_first_yes (p : Nat → Bool) : ∀ n, fa_first p n < n → p (fa_first p n) = true
  | 0, h => absurd h (Nat.not_lt_zero _)
  | n + 1, h => by
    have ih := fa_first_yes p n
    have hl := fa_first_le p n
    unfold fa_first at h ⊢
    split at h
    · rename_i h1
      rw [if_pos h1]
      exact ih h1
    · rename_i h1
      rw [if_neg h1]
      split at h
      · rename_i h2
        rw [if_pos h2]
        exact h2
      · omega
/-- how many k < n have p k -/
def fa_cnt (p : Nat → Bool) : Nat → Nat
  | 0 => 0
  | n + 1 => fa_cnt p n + if p n then 1 else 0
theorem fa_cnt_le (p : Nat → Bool) : ∀ n, fa_cnt p n ≤ n
  | 0 => Nat.le_refl 0
  | n + 1 => by
    have ih := fa_cnt_le p n
    unfold fa_cnt
    split
    · omega
    · omega
theorem fa_cnt_yes {p : Nat → Bool} {n : Nat} (h : p n = true) : fa_cnt p (n + 1) = fa_cnt p n + 1 := by rw [fa_cnt, if_pos h]
theorem fa_cnt_no {p : Nat → Bool} {n : Nat} (h : p n = false) : fa_cnt p (n + 1) = fa_cnt p n := by rw [fa_cnt, if_neg (by rw [h]; decide)]; rfl
theorem fa_cnt_cong {p q : Nat → Bool} : ∀ {n : Nat}, (∀ k, k < n → p k = q k) → fa_cnt p n = fa_cnt q n
  | 0, _ => rfl
  | n + 1, h => by rw [fa_cnt, fa_cnt, fa_cnt_cong (fun k hk => h k (Nat.lt_succ_of_lt hk)), h n (Nat.lt_succ_self n)]
/-! ===== an answer carried into a post; a branch on a boolean answer ===== -/
theorem fa_post {α : Type} {P : α → Prop} {x y : α} (h : x = y) (hp : P y) : P x := h ▸ hp
theorem fa_post2 {α β : Type} {P : α → β → Prop} {x y : α} {u v : β} (h : x = y) (h2 : u = v) (hp : P y v) : P x u := h ▸ h2 ▸ hp
theorem fa_bool {r : Int32} {b : Bool} (h : r = if b then 1 else 0) : (r = 0 ↔ b = false) ∧ (¬ r = 0 ↔ b = true) := by
  subst h
  cases b
  · exact ⟨⟨fun _ => rfl, fun _ => rfl⟩, ⟨fun h => absurd rfl h, fun h => absurd h (by decide)⟩⟩
  · exact ⟨⟨fun h => absurd h (by decide), fun h => absurd h (by decide)⟩, ⟨fun _ => rfl, fun _ => by decide⟩⟩
/-- a boolean's narrowing changes nothing -/
theorem fa_bool_and {r : Int32} (h : r = 0 ∨ r = 1) : r &&& 1 = r := by
  rcases h with rfl | rfl
  · decide
  · decide
theorem fa_bool_prop {c : Prop} [Decidable c] {r : Int32} (h : r = if c then 1 else 0) : (r = 0 ↔ ¬ c) ∧ (¬ r = 0 ↔ c) := by
  subst h
  by_cases hc : c
  · rw [if_pos hc]
    exact ⟨⟨fun h => absurd h (by decide), fun h => absurd hc h⟩, ⟨fun _ => hc, fun _ => by decide⟩⟩
  · rw [if_neg hc]
    exact ⟨⟨fun _ => hc, fun _ => rfl⟩, ⟨fun h => absurd rfl h, fun h => absurd h hc⟩⟩
end
section
def w_X9_in (a0 : Int64) (a2 : Int64) (a4 : Int64) (σ : ds_S) (Q : Option Value → ds_S → Prop) : Prop := (((lg_cmp a0 a2) < 0 → Q (some (.int (0 : Int32))) σ) ∧ (¬ (lg_cmp a0 a2) < 0 → ((0 < (lg_cmp a0 a4) → Q (some (.int (0 : Int32))) σ) ∧ (¬ 0 < (lg_cmp a0 a4) → Q (some (.int (1 : Int32))) σ))))
theorem e_X9_in (a0 : Int64) (a2 : Int64) (a4 : Int64) (σ : ds_S) (Q : Option Value → ds_S → Prop) (h : w_X9_in a0 a2 a4 σ Q) : ds_E mt_X9_in Ym [.long a0, .long a2, .long a4] σ Q := by
  refine ds_enter (by decide) (Nat.le_of_ble_eq_true rfl) ?_
  show ds_X mt_X9_in Ym 0 [some (.long a0), none, some (.long a2), none, some (.long a4), none] [] σ Q
  unfold w_X9_in at h
  refine ds_blk (ls2 := [some (.long a0), none, some (.long a2), none, some (.long a4), none]) (st2 := [.int (lg_cmp a0 a2)]) (σ2 := σ) ok_X9_in 0 3 0 3 [] rfl rfl rfl rfl trivial ?_
  refine ds_if_lt (show decode mt_X9_in.2.1 3 = .ok (.ifCond .lt 14, 3) from ds_dec (i := (3, .ifCond .lt 14, 3, 0, 0, 0, .int 0)) ok_X9_in 3 rfl) (t := 17) (by decide) (fun hc => ?_) (fun hc => ?_)
  · replace h := h.1 hc
    refine ds_blk (ls2 := [some (.long a0), none, some (.long a2), none, some (.long a4), none]) (st2 := [.int (0 : Int32)]) (σ2 := σ) ok_X9_in 10 1 17 18 [] rfl rfl rfl rfl trivial ?_
    exact ds_zret (show decode mt_X9_in.2.1 18 = .ok (.ireturn, 1) from ds_dec (i := (18, .ireturn, 1, 0, 0, 0, .int 0)) ok_X9_in 11 rfl) rfl (by decide) h
  · replace h := h.2 hc
    refine ds_blk (ls2 := [some (.long a0), none, some (.long a2), none, some (.long a4), none]) (st2 := [.int (lg_cmp a0 a4)]) (σ2 := σ) ok_X9_in 4 3 6 10 [] rfl rfl rfl rfl trivial ?_
    refine ds_if_gt (show decode mt_X9_in.2.1 10 = .ok (.ifCond .gt 7, 3) from ds_dec (i := (10, .ifCond .gt 7, 3, 0, 0, 0, .int 0)) ok_X9_in 7 rfl) (t := 17) (by decide) (fun hc => ?_) (fun hc => ?_)
    · replace h := h.1 hc
      refine ds_blk (ls2 := [some (.long a0), none, some (.long a2), none, some (.long a4), none]) (st2 := [.int (0 : Int32)]) (σ2 := σ) ok_X9_in 10 1 17 18 [] rfl rfl rfl rfl trivial ?_
      exact ds_zret (show decode mt_X9_in.2.1 18 = .ok (.ireturn, 1) from ds_dec (i := (18, .ireturn, 1, 0, 0, 0, .int 0)) ok_X9_in 11 rfl) rfl (by decide) h
    · replace h := h.2 hc
      refine ds_blk (ls2 := [some (.long a0), none, some (.long a2), none, some (.long a4), none]) (st2 := [.int (1 : Int32)]) (σ2 := σ) ok_X9_in 8 1 13 14 [] rfl rfl rfl rfl trivial ?_
      refine ds_goto (show decode mt_X9_in.2.1 14 = .ok (.goto 4, 3) from ds_dec (i := (14, .goto 4, 3, 0, 0, 0, .int 0)) ok_X9_in 9 rfl) (t := 18) (by decide) ?_
      exact ds_zret (show decode mt_X9_in.2.1 18 = .ok (.ireturn, 1) from ds_dec (i := (18, .ireturn, 1, 0, 0, 0, .int 0)) ok_X9_in 11 rfl) rfl (by decide) h
def w_X9_common_28 : Nat → (v4 : Int64) → (v6 : Int64) → (σ : ds_S) → (Q : Option Value → ds_S → Prop) → Prop
  | 0, _, _, _, _ => False
  | f + 1, v4, v6, σ, Q => (((lg_cmp v6 (0 : Int64)) = 0 → Q (some (.long v4)) σ) ∧ (¬ (lg_cmp v6 (0 : Int64)) = 0 → ¬ v6 = 0 ∧ w_X9_common_28 f v6 (v4 - v4 / v6 * v6) σ Q))
theorem x_X9_common_28 : ∀ (f : Nat) (v4 : Int64) (v6 : Int64) (g0 : Option Value) (g1 : Option Value) (g2 : Option Value) (g3 : Option Value) (g5 : Option Value) (g7 : Option Value) (g8 : Option Value) (g9 : Option Value) (σ : ds_S) (Q : Option Value → ds_S → Prop), w_X9_common_28 f v4 v6 σ Q → ds_X mt_X9_common Ym 28 [g0, g1, g2, g3, some (.long v4), g5, some (.long v6), g7, g8, g9] [] σ Q := by
  intro f
  induction f with
  | zero => intro v4 v6 g0 g1 g2 g3 g5 g7 g8 g9 σ Q h; exact False.elim h
  | succ f ih =>
    intro v4 v6 g0 g1 g2 g3 g5 g7 g8 g9 σ Q h
    rw [w_X9_common_28] at h
    refine ds_blk (ls2 := [g0, g1, g2, g3, some (.long v4), g5, some (.long v6), g7, g8, g9]) (st2 := [.int (lg_cmp v6 (0 : Int64))]) (σ2 := σ) ok_X9_common 18 3 28 32 [] rfl rfl rfl rfl trivial ?_
    refine ds_if_eq (show decode mt_X9_common.2.1 32 = .ok (.ifCond .eq 21, 3) from ds_dec (i := (32, .ifCond .eq 21, 3, 0, 0, 0, .int 0)) ok_X9_common 21 rfl) (t := 53) (by decide) (fun hc => ?_) (fun hc => ?_)
    · replace h := h.1 hc
      refine ds_blk (ls2 := [g0, g1, g2, g3, some (.long v4), g5, some (.long v6), g7, g8, g9]) (st2 := [.long v4]) (σ2 := σ) ok_X9_common 31 1 53 55 [] rfl rfl rfl rfl trivial ?_
      exact ds_lret (show decode mt_X9_common.2.1 55 = .ok (.lreturn, 1) from ds_dec (i := (55, .lreturn, 1, 0, 0, 0, .int 0)) ok_X9_common 32 rfl) rfl h
    · replace h := h.2 hc
      obtain ⟨o1, h⟩ := h
      refine ds_blk (ls2 := [g0, g1, g2, (ds_nl g3), some (.long v6), none, some (.long (v4 - v4 / v6 * v6)), none, some (.long (v4 - v4 / v6 * v6)), none]) (st2 := []) (σ2 := σ) ok_X9_common 22 8 35 50 [¬ v6 = 0] rfl rfl rfl rfl ⟨o1, trivial⟩ ?_
      refine ds_goto (show decode mt_X9_common.2.1 50 = .ok (.goto (-22), 3) from ds_dec (i := (50, .goto (-22), 3, 0, 0, 0, .int 0)) ok_X9_common 30 rfl) (t := 28) (by decide) ?_
      exact ih v6 (v4 - v4 / v6 * v6) _ _ _ _ _ _ _ _ σ Q h
def w_X9_common_12 (v2 : Int64) (t0 : Int64) (σ : ds_S) (Q : Option Value → ds_S → Prop) : Prop := ((0 ≤ (lg_cmp v2 (0 : Int64)) → ∃ n, w_X9_common_28 n t0 v2 σ Q) ∧ (¬ 0 ≤ (lg_cmp v2 (0 : Int64)) → ∃ n, w_X9_common_28 n t0 (-v2) σ Q))
theorem x_X9_common_12 (v2 : Int64) (t0 : Int64) (g0 : Option Value) (g1 : Option Value) (g3 : Option Value) (g4 : Option Value) (g5 : Option Value) (g6 : Option Value) (g7 : Option Value) (g8 : Option Value) (g9 : Option Value) (σ : ds_S) (Q : Option Value → ds_S → Prop) (h : w_X9_common_12 v2 t0 σ Q) : ds_X mt_X9_common Ym 12 [g0, g1, some (.long v2), g3, g4, g5, g6, g7, g8, g9] [.long t0] σ Q := by
  unfold w_X9_common_12 at h
  refine ds_blk (ls2 := [g0, g1, some (.long v2), (ds_nl g3), some (.long t0), none, g6, g7, g8, g9]) (st2 := [.int (lg_cmp v2 (0 : Int64))]) (σ2 := σ) ok_X9_common 8 4 12 17 [] rfl rfl rfl rfl trivial ?_
  refine ds_if_ge (show decode mt_X9_common.2.1 17 = .ok (.ifCond .ge 8, 3) from ds_dec (i := (17, .ifCond .ge 8, 3, 0, 0, 0, .int 0)) ok_X9_common 12 rfl) (t := 25) (by decide) (fun hc => ?_) (fun hc => ?_)
  · replace h := h.1 hc
    refine ds_blk (ls2 := [g0, g1, some (.long v2), (ds_nl g3), some (.long t0), none, some (.long v2), none, g8, g9]) (st2 := []) (σ2 := σ) ok_X9_common 16 2 25 28 [] rfl rfl rfl rfl trivial ?_
    obtain ⟨n, h⟩ := h
    refine x_X9_common_28 n t0 v2 _ _ _ _ _ _ _ _ σ Q h
  · replace h := h.2 hc
    refine ds_blk (ls2 := [g0, g1, some (.long v2), (ds_nl g3), some (.long t0), none, g6, g7, g8, g9]) (st2 := [.long (-v2)]) (σ2 := σ) ok_X9_common 13 2 20 22 [] rfl rfl rfl rfl trivial ?_
    refine ds_goto (show decode mt_X9_common.2.1 22 = .ok (.goto 4, 3) from ds_dec (i := (22, .goto 4, 3, 0, 0, 0, .int 0)) ok_X9_common 15 rfl) (t := 26) (by decide) ?_
    refine ds_blk (ls2 := [g0, g1, some (.long v2), (ds_nl g3), some (.long t0), none, some (.long (-v2)), none, g8, g9]) (st2 := []) (σ2 := σ) ok_X9_common 17 1 26 28 [] rfl rfl rfl rfl trivial ?_
    obtain ⟨n, h⟩ := h
    refine x_X9_common_28 n t0 (-v2) _ _ _ _ _ _ _ _ σ Q h
def w_X9_common (a0 : Int64) (a2 : Int64) (σ : ds_S) (Q : Option Value → ds_S → Prop) : Prop := ((0 ≤ (lg_cmp a0 (0 : Int64)) → w_X9_common_12 a2 a0 σ Q) ∧ (¬ 0 ≤ (lg_cmp a0 (0 : Int64)) → w_X9_common_12 a2 (-a0) σ Q))
theorem e_X9_common (a0 : Int64) (a2 : Int64) (σ : ds_S) (Q : Option Value → ds_S → Prop) (h : w_X9_common a0 a2 σ Q) : ds_E mt_X9_common Ym [.long a0, .long a2] σ Q := by
  refine ds_enter (by decide) (Nat.le_of_ble_eq_true rfl) ?_
  show ds_X mt_X9_common Ym 0 [some (.long a0), none, some (.long a2), none, none, none, none, none, none, none] [] σ Q
  unfold w_X9_common at h
  refine ds_blk (ls2 := [some (.long a0), none, some (.long a2), none, none, none, none, none, none, none]) (st2 := [.int (lg_cmp a0 (0 : Int64))]) (σ2 := σ) ok_X9_common 0 3 0 3 [] rfl rfl rfl rfl trivial ?_
  refine ds_if_ge (show decode mt_X9_common.2.1 3 = .ok (.ifCond .ge 8, 3) from ds_dec (i := (3, .ifCond .ge 8, 3, 0, 0, 0, .int 0)) ok_X9_common 3 rfl) (t := 11) (by decide) (fun hc => ?_) (fun hc => ?_)
  · replace h := h.1 hc
    refine ds_blk (ls2 := [some (.long a0), none, some (.long a2), none, none, none, none, none, none, none]) (st2 := [.long a0]) (σ2 := σ) ok_X9_common 7 1 11 12 [] rfl rfl rfl rfl trivial ?_
    refine x_X9_common_12 a2 a0 _ _ _ _ _ _ _ _ _ σ Q h
  · replace h := h.2 hc
    refine ds_blk (ls2 := [some (.long a0), none, some (.long a2), none, none, none, none, none, none, none]) (st2 := [.long (-a0)]) (σ2 := σ) ok_X9_common 4 2 6 8 [] rfl rfl rfl rfl trivial ?_
    refine ds_goto (show decode mt_X9_common.2.1 8 = .ok (.goto 4, 3) from ds_dec (i := (8, .goto 4, 3, 0, 0, 0, .int 0)) ok_X9_common 6 rfl) (t := 12) (by decide) ?_
    refine x_X9_common_12 a2 (-a0) _ _ _ _ _ _ _ _ _ σ Q h
def w_X9_isGreater_17 : Nat → (v8 : Int64) → (v10 : Int64) → (v12 : Int64) → (v14 : Int64) → (v16 : Int32) → (σ : ds_S) → (Q : Option Value → ds_S → Prop) → (K31 : Int64 → Int64 → Int64 → Int64 → Int32 → ds_S → Prop) → (K89 : Int32 → Int64 → Int64 → ds_S → Prop) → Prop
  | 0, _, _, _, _, _, _, _, _, _ => False
  | f + 1, v8, v10, v12, v14, v16, σ, Q, K31, K89 => ¬ v10 = 0 ∧ ¬ v14 = 0 ∧ (((lg_cmp (v8 / v10) (v12 / v14)) = 0 → ¬ v10 = 0 ∧ ¬ v14 = 0 ∧ (((lg_cmp (v8 - v8 / v10 * v10) (0 : Int64)) = 0 → K89 v16 (v8 - v8 / v10 * v10) (v12 - v12 / v14 * v14) σ) ∧ (¬ (lg_cmp (v8 - v8 / v10 * v10) (0 : Int64)) = 0 → ((¬ (lg_cmp (v12 - v12 / v14 * v14) (0 : Int64)) = 0 → ((¬ v16 = 0 → w_X9_isGreater_17 f v10 (v8 - v8 / v10 * v10) v14 (v12 - v12 / v14 * v14) (0 : Int32) σ Q K31 K89) ∧ (v16 = 0 → w_X9_isGreater_17 f v10 (v8 - v8 / v10 * v10) v14 (v12 - v12 / v14 * v14) (1 : Int32) σ Q K31 K89))) ∧ ((lg_cmp (v12 - v12 / v14 * v14) (0 : Int64)) = 0 → K89 v16 (v8 - v8 / v10 * v10) (v12 - v12 / v14 * v14) σ))))) ∧ (¬ (lg_cmp (v8 / v10) (v12 / v14)) = 0 → K31 v8 v10 v12 v14 v16 σ))
theorem x_X9_isGreater_17 : ∀ (f : Nat) (v8 : Int64) (v10 : Int64) (v12 : Int64) (v14 : Int64) (v16 : Int32) (g0 : Option Value) (g1 : Option Value) (g2 : Option Value) (g3 : Option Value) (g4 : Option Value) (g5 : Option Value) (g6 : Option Value) (g7 : Option Value) (g9 : Option Value) (g11 : Option Value) (g13 : Option Value) (g15 : Option Value) (g17 : Option Value) (g18 : Option Value) (g19 : Option Value) (g20 : Option Value) (σ : ds_S) (Q : Option Value → ds_S → Prop) (K31 : Int64 → Int64 → Int64 → Int64 → Int32 → ds_S → Prop) (K89 : Int32 → Int64 → Int64 → ds_S → Prop) (hK31 : ∀ (v8 : Int64) (v10 : Int64) (v12 : Int64) (v14 : Int64) (v16 : Int32) (g0 : Option Value) (g1 : Option Value) (g2 : Option Value) (g3 : Option Value) (g4 : Option Value) (g5 : Option Value) (g6 : Option Value) (g7 : Option Value) (g9 : Option Value) (g11 : Option Value) (g13 : Option Value) (g15 : Option Value) (g17 : Option Value) (g18 : Option Value) (g19 : Option Value) (g20 : Option Value) (σ2 : ds_S), K31 v8 v10 v12 v14 v16 σ2 → ds_X mt_X9_isGreater Ym 31 [g0, g1, g2, g3, g4, g5, g6, g7, some (.long v8), g9, some (.long v10), g11, some (.long v12), g13, some (.long v14), g15, some (.int v16), g17, g18, g19, g20] [] σ2 Q) (hK89 : ∀ (v16 : Int32) (v17 : Int64) (v19 : Int64) (g0 : Option Value) (g1 : Option Value) (g2 : Option Value) (g3 : Option Value) (g4 : Option Value) (g5 : Option Value) (g6 : Option Value) (g7 : Option Value) (g8 : Option Value) (g9 : Option Value) (g10 : Option Value) (g11 : Option Value) (g12 : Option Value) (g13 : Option Value) (g14 : Option Value) (g15 : Option Value) (g18 : Option Value) (g20 : Option Value) (σ2 : ds_S), K89 v16 v17 v19 σ2 → ds_X mt_X9_isGreater Ym 89 [g0, g1, g2, g3, g4, g5, g6, g7, g8, g9, g10, g11, g12, g13, g14, g15, some (.int v16), some (.long v17), g18, some (.long v19), g20] [] σ2 Q), w_X9_isGreater_17 f v8 v10 v12 v14 v16 σ Q K31 K89 → ds_X mt_X9_isGreater Ym 17 [g0, g1, g2, g3, g4, g5, g6, g7, some (.long v8), g9, some (.long v10), g11, some (.long v12), g13, some (.long v14), g15, some (.int v16), g17, g18, g19, g20] [] σ Q := by
  intro f
  induction f with
  | zero => intro v8 v10 v12 v14 v16 g0 g1 g2 g3 g4 g5 g6 g7 g9 g11 g13 g15 g17 g18 g19 g20 σ Q K31 K89 hK31 hK89 h; exact False.elim h
  | succ f ih =>
    intro v8 v10 v12 v14 v16 g0 g1 g2 g3 g4 g5 g6 g7 g9 g11 g13 g15 g17 g18 g19 g20 σ Q K31 K89 hK31 hK89 h
    rw [w_X9_isGreater_17] at h
    obtain ⟨o1, o2, h⟩ := h
    refine ds_blk (ls2 := [g0, g1, g2, g3, g4, g5, g6, g7, some (.long v8), g9, some (.long v10), g11, some (.long v12), g13, some (.long v14), g15, some (.int v16), g17, g18, g19, g20]) (st2 := [.int (lg_cmp (v8 / v10) (v12 / v14))]) (σ2 := σ) ok_X9_isGreater 10 7 17 28 [¬ v10 = 0, ¬ v14 = 0] rfl rfl rfl rfl ⟨o1, o2, trivial⟩ ?_
    refine ds_if_eq (show decode mt_X9_isGreater.2.1 28 = .ok (.ifCond .eq 33, 3) from ds_dec (i := (28, .ifCond .eq 33, 3, 0, 0, 0, .int 0)) ok_X9_isGreater 17 rfl) (t := 61) (by decide) (fun hc => ?_) (fun hc => ?_)
    · replace h := h.1 hc
      obtain ⟨o3, o4, h⟩ := h
      refine ds_blk (ls2 := [g0, g1, g2, g3, g4, g5, g6, g7, some (.long v8), g9, some (.long v10), g11, some (.long v12), g13, some (.long v14), g15, some (.int v16), some (.long (v8 - v8 / v10 * v10)), none, some (.long (v12 - v12 / v14 * v14)), none]) (st2 := [.int (lg_cmp (v8 - v8 / v10 * v10) (0 : Int64))]) (σ2 := σ) ok_X9_isGreater 35 11 61 79 [¬ v10 = 0, ¬ v14 = 0] rfl rfl rfl rfl ⟨o3, o4, trivial⟩ ?_
      refine ds_if_eq (show decode mt_X9_isGreater.2.1 79 = .ok (.ifCond .eq 10, 3) from ds_dec (i := (79, .ifCond .eq 10, 3, 0, 0, 0, .int 0)) ok_X9_isGreater 46 rfl) (t := 89) (by decide) (fun hc => ?_) (fun hc => ?_)
      · replace h := h.1 hc
        exact hK89 v16 (v8 - v8 / v10 * v10) (v12 - v12 / v14 * v14) _ _ _ _ _ _ _ _ _ _ _ _ _ _ _ _ _ _ σ h
      · replace h := h.2 hc
        refine ds_blk (ls2 := [g0, g1, g2, g3, g4, g5, g6, g7, some (.long v8), g9, some (.long v10), g11, some (.long v12), g13, some (.long v14), g15, some (.int v16), some (.long (v8 - v8 / v10 * v10)), none, some (.long (v12 - v12 / v14 * v14)), none]) (st2 := [.int (lg_cmp (v12 - v12 / v14 * v14) (0 : Int64))]) (σ2 := σ) ok_X9_isGreater 47 3 82 86 [] rfl rfl rfl rfl trivial ?_
        refine ds_if_ne (show decode mt_X9_isGreater.2.1 86 = .ok (.ifCond .ne 34, 3) from ds_dec (i := (86, .ifCond .ne 34, 3, 0, 0, 0, .int 0)) ok_X9_isGreater 50 rfl) (t := 120) (by decide) (fun hc => ?_) (fun hc => ?_)
        · replace h := h.1 hc
          refine ds_blk (ls2 := [g0, g1, g2, g3, g4, g5, g6, (ds_nl g7), some (.long v10), none, some (.long (v8 - v8 / v10 * v10)), none, some (.long v14), none, some (.long (v12 - v12 / v14 * v14)), none, some (.int v16), some (.long (v8 - v8 / v10 * v10)), none, some (.long (v12 - v12 / v14 * v14)), none]) (st2 := [.int v16]) (σ2 := σ) ok_X9_isGreater 68 9 120 138 [] rfl rfl rfl rfl trivial ?_
          refine ds_if_ne (show decode mt_X9_isGreater.2.1 138 = .ok (.ifCond .ne 7, 3) from ds_dec (i := (138, .ifCond .ne 7, 3, 0, 0, 0, .int 0)) ok_X9_isGreater 77 rfl) (t := 145) (by decide) (fun hc => ?_) (fun hc => ?_)
          · replace h := h.1 hc
            refine ds_blk (ls2 := [g0, g1, g2, g3, g4, g5, g6, (ds_nl g7), some (.long v10), none, some (.long (v8 - v8 / v10 * v10)), none, some (.long v14), none, some (.long (v12 - v12 / v14 * v14)), none, some (.int (0 : Int32)), some (.long (v8 - v8 / v10 * v10)), none, some (.long (v12 - v12 / v14 * v14)), none]) (st2 := []) (σ2 := σ) ok_X9_isGreater 80 2 145 148 [] rfl rfl rfl rfl trivial ?_
            refine ds_goto (show decode mt_X9_isGreater.2.1 148 = .ok (.goto (-131), 3) from ds_dec (i := (148, .goto (-131), 3, 0, 0, 0, .int 0)) ok_X9_isGreater 82 rfl) (t := 17) (by decide) ?_
            exact ih v10 (v8 - v8 / v10 * v10) v14 (v12 - v12 / v14 * v14) (0 : Int32) _ _ _ _ _ _ _ _ _ _ _ _ _ _ _ _ σ Q K31 K89 hK31 hK89 h
          · replace h := h.2 hc
            refine ds_blk (ls2 := [g0, g1, g2, g3, g4, g5, g6, (ds_nl g7), some (.long v10), none, some (.long (v8 - v8 / v10 * v10)), none, some (.long v14), none, some (.long (v12 - v12 / v14 * v14)), none, some (.int v16), some (.long (v8 - v8 / v10 * v10)), none, some (.long (v12 - v12 / v14 * v14)), none]) (st2 := [.int (1 : Int32)]) (σ2 := σ) ok_X9_isGreater 78 1 141 142 [] rfl rfl rfl rfl trivial ?_
            refine ds_goto (show decode mt_X9_isGreater.2.1 142 = .ok (.goto 4, 3) from ds_dec (i := (142, .goto 4, 3, 0, 0, 0, .int 0)) ok_X9_isGreater 79 rfl) (t := 146) (by decide) ?_
            refine ds_blk (ls2 := [g0, g1, g2, g3, g4, g5, g6, (ds_nl g7), some (.long v10), none, some (.long (v8 - v8 / v10 * v10)), none, some (.long v14), none, some (.long (v12 - v12 / v14 * v14)), none, some (.int (1 : Int32)), some (.long (v8 - v8 / v10 * v10)), none, some (.long (v12 - v12 / v14 * v14)), none]) (st2 := []) (σ2 := σ) ok_X9_isGreater 81 1 146 148 [] rfl rfl rfl rfl trivial ?_
            refine ds_goto (show decode mt_X9_isGreater.2.1 148 = .ok (.goto (-131), 3) from ds_dec (i := (148, .goto (-131), 3, 0, 0, 0, .int 0)) ok_X9_isGreater 82 rfl) (t := 17) (by decide) ?_
            exact ih v10 (v8 - v8 / v10 * v10) v14 (v12 - v12 / v14 * v14) (1 : Int32) _ _ _ _ _ _ _ _ _ _ _ _ _ _ _ _ σ Q K31 K89 hK31 hK89 h
        · replace h := h.2 hc
          exact hK89 v16 (v8 - v8 / v10 * v10) (v12 - v12 / v14 * v14) _ _ _ _ _ _ _ _ _ _ _ _ _ _ _ _ _ _ σ h
    · replace h := h.2 hc
      exact hK31 v8 v10 v12 v14 v16 _ _ _ _ _ _ _ _ _ _ _ _ _ _ _ _ σ h
def w_X9_isGreater_50 (v16 : Int32) (t0 : Int32) (σ : ds_S) (Q : Option Value → ds_S → Prop) : Prop := ((t0 = v16 → Q (some (.int (0 : Int32))) σ) ∧ (¬ t0 = v16 → Q (some (.int (1 : Int32))) σ))
theorem x_X9_isGreater_50 (v16 : Int32) (t0 : Int32) (g0 : Option Value) (g1 : Option Value) (g2 : Option Value) (g3 : Option Value) (g4 : Option Value) (g5 : Option Value) (g6 : Option Value) (g7 : Option Value) (g8 : Option Value) (g9 : Option Value) (g10 : Option Value) (g11 : Option Value) (g12 : Option Value) (g13 : Option Value) (g14 : Option Value) (g15 : Option Value) (g17 : Option Value) (g18 : Option Value) (g19 : Option Value) (g20 : Option Value) (σ : ds_S) (Q : Option Value → ds_S → Prop) (h : w_X9_isGreater_50 v16 t0 σ Q) : ds_X mt_X9_isGreater Ym 50 [g0, g1, g2, g3, g4, g5, g6, g7, g8, g9, g10, g11, g12, g13, g14, g15, some (.int v16), g17, g18, g19, g20] [.int t0] σ Q := by
  unfold w_X9_isGreater_50 at h
  refine ds_blk (ls2 := [g0, g1, g2, g3, g4, g5, g6, g7, g8, g9, g10, g11, g12, g13, g14, g15, some (.int v16), g17, g18, g19, g20]) (st2 := [.int v16, .int t0]) (σ2 := σ) ok_X9_isGreater 29 1 50 52 [] rfl rfl rfl rfl trivial ?_
  refine ds_ic_eq (show decode mt_X9_isGreater.2.1 52 = .ok (.if_icmp .eq 7, 3) from ds_dec (i := (52, .if_icmp .eq 7, 3, 0, 0, 0, .int 0)) ok_X9_isGreater 30 rfl) (t := 59) (by decide) (fun hc => ?_) (fun hc => ?_)
  · replace h := h.1 hc
    refine ds_blk (ls2 := [g0, g1, g2, g3, g4, g5, g6, g7, g8, g9, g10, g11, g12, g13, g14, g15, some (.int v16), g17, g18, g19, g20]) (st2 := [.int (0 : Int32)]) (σ2 := σ) ok_X9_isGreater 33 1 59 60 [] rfl rfl rfl rfl trivial ?_
    exact ds_zret (show decode mt_X9_isGreater.2.1 60 = .ok (.ireturn, 1) from ds_dec (i := (60, .ireturn, 1, 0, 0, 0, .int 0)) ok_X9_isGreater 34 rfl) rfl (by decide) h
  · replace h := h.2 hc
    refine ds_blk (ls2 := [g0, g1, g2, g3, g4, g5, g6, g7, g8, g9, g10, g11, g12, g13, g14, g15, some (.int v16), g17, g18, g19, g20]) (st2 := [.int (1 : Int32)]) (σ2 := σ) ok_X9_isGreater 31 1 55 56 [] rfl rfl rfl rfl trivial ?_
    refine ds_goto (show decode mt_X9_isGreater.2.1 56 = .ok (.goto 4, 3) from ds_dec (i := (56, .goto 4, 3, 0, 0, 0, .int 0)) ok_X9_isGreater 32 rfl) (t := 60) (by decide) ?_
    exact ds_zret (show decode mt_X9_isGreater.2.1 60 = .ok (.ireturn, 1) from ds_dec (i := (60, .ireturn, 1, 0, 0, 0, .int 0)) ok_X9_isGreater 34 rfl) rfl (by decide) h
def w_X9_isGreater_109 (v16 : Int32) (t0 : Int32) (σ : ds_S) (Q : Option Value → ds_S → Prop) : Prop := ((t0 = v16 → Q (some (.int (0 : Int32))) σ) ∧ (¬ t0 = v16 → Q (some (.int (1 : Int32))) σ))
theorem x_X9_isGreater_109 (v16 : Int32) (t0 : Int32) (g0 : Option Value) (g1 : Option Value) (g2 : Option Value) (g3 : Option Value) (g4 : Option Value) (g5 : Option Value) (g6 : Option Value) (g7 : Option Value) (g8 : Option Value) (g9 : Option Value) (g10 : Option Value) (g11 : Option Value) (g12 : Option Value) (g13 : Option Value) (g14 : Option Value) (g15 : Option Value) (g17 : Option Value) (g18 : Option Value) (g19 : Option Value) (g20 : Option Value) (σ : ds_S) (Q : Option Value → ds_S → Prop) (h : w_X9_isGreater_109 v16 t0 σ Q) : ds_X mt_X9_isGreater Ym 109 [g0, g1, g2, g3, g4, g5, g6, g7, g8, g9, g10, g11, g12, g13, g14, g15, some (.int v16), g17, g18, g19, g20] [.int t0] σ Q := by
  unfold w_X9_isGreater_109 at h
  refine ds_blk (ls2 := [g0, g1, g2, g3, g4, g5, g6, g7, g8, g9, g10, g11, g12, g13, g14, g15, some (.int v16), g17, g18, g19, g20]) (st2 := [.int v16, .int t0]) (σ2 := σ) ok_X9_isGreater 62 1 109 111 [] rfl rfl rfl rfl trivial ?_
  refine ds_ic_eq (show decode mt_X9_isGreater.2.1 111 = .ok (.if_icmp .eq 7, 3) from ds_dec (i := (111, .if_icmp .eq 7, 3, 0, 0, 0, .int 0)) ok_X9_isGreater 63 rfl) (t := 118) (by decide) (fun hc => ?_) (fun hc => ?_)
  · replace h := h.1 hc
    refine ds_blk (ls2 := [g0, g1, g2, g3, g4, g5, g6, g7, g8, g9, g10, g11, g12, g13, g14, g15, some (.int v16), g17, g18, g19, g20]) (st2 := [.int (0 : Int32)]) (σ2 := σ) ok_X9_isGreater 66 1 118 119 [] rfl rfl rfl rfl trivial ?_
    exact ds_zret (show decode mt_X9_isGreater.2.1 119 = .ok (.ireturn, 1) from ds_dec (i := (119, .ireturn, 1, 0, 0, 0, .int 0)) ok_X9_isGreater 67 rfl) rfl (by decide) h
  · replace h := h.2 hc
    refine ds_blk (ls2 := [g0, g1, g2, g3, g4, g5, g6, g7, g8, g9, g10, g11, g12, g13, g14, g15, some (.int v16), g17, g18, g19, g20]) (st2 := [.int (1 : Int32)]) (σ2 := σ) ok_X9_isGreater 64 1 114 115 [] rfl rfl rfl rfl trivial ?_
    refine ds_goto (show decode mt_X9_isGreater.2.1 115 = .ok (.goto 4, 3) from ds_dec (i := (115, .goto 4, 3, 0, 0, 0, .int 0)) ok_X9_isGreater 65 rfl) (t := 119) (by decide) ?_
    exact ds_zret (show decode mt_X9_isGreater.2.1 119 = .ok (.ireturn, 1) from ds_dec (i := (119, .ireturn, 1, 0, 0, 0, .int 0)) ok_X9_isGreater 67 rfl) rfl (by decide) h
def w_X9_isGreater_89 (v16 : Int32) (v17 : Int64) (v19 : Int64) (σ : ds_S) (Q : Option Value → ds_S → Prop) : Prop := (((lg_cmp v17 v19) = 0 → Q (some (.int (0 : Int32))) σ) ∧ (¬ (lg_cmp v17 v19) = 0 → (((lg_cmp v17 (0 : Int64)) ≤ 0 → w_X9_isGreater_109 v16 (0 : Int32) σ Q) ∧ (¬ (lg_cmp v17 (0 : Int64)) ≤ 0 → w_X9_isGreater_109 v16 (1 : Int32) σ Q))))
theorem x_X9_isGreater_89 (v16 : Int32) (v17 : Int64) (v19 : Int64) (g0 : Option Value) (g1 : Option Value) (g2 : Option Value) (g3 : Option Value) (g4 : Option Value) (g5 : Option Value) (g6 : Option Value) (g7 : Option Value) (g8 : Option Value) (g9 : Option Value) (g10 : Option Value) (g11 : Option Value) (g12 : Option Value) (g13 : Option Value) (g14 : Option Value) (g15 : Option Value) (g18 : Option Value) (g20 : Option Value) (σ : ds_S) (Q : Option Value → ds_S → Prop) (h : w_X9_isGreater_89 v16 v17 v19 σ Q) : ds_X mt_X9_isGreater Ym 89 [g0, g1, g2, g3, g4, g5, g6, g7, g8, g9, g10, g11, g12, g13, g14, g15, some (.int v16), some (.long v17), g18, some (.long v19), g20] [] σ Q := by
  unfold w_X9_isGreater_89 at h
  refine ds_blk (ls2 := [g0, g1, g2, g3, g4, g5, g6, g7, g8, g9, g10, g11, g12, g13, g14, g15, some (.int v16), some (.long v17), g18, some (.long v19), g20]) (st2 := [.int (lg_cmp v17 v19)]) (σ2 := σ) ok_X9_isGreater 51 3 89 94 [] rfl rfl rfl rfl trivial ?_
  refine ds_if_eq (show decode mt_X9_isGreater.2.1 94 = .ok (.ifCond .eq 24, 3) from ds_dec (i := (94, .ifCond .eq 24, 3, 0, 0, 0, .int 0)) ok_X9_isGreater 54 rfl) (t := 118) (by decide) (fun hc => ?_) (fun hc => ?_)
  · replace h := h.1 hc
    refine ds_blk (ls2 := [g0, g1, g2, g3, g4, g5, g6, g7, g8, g9, g10, g11, g12, g13, g14, g15, some (.int v16), some (.long v17), g18, some (.long v19), g20]) (st2 := [.int (0 : Int32)]) (σ2 := σ) ok_X9_isGreater 66 1 118 119 [] rfl rfl rfl rfl trivial ?_
    exact ds_zret (show decode mt_X9_isGreater.2.1 119 = .ok (.ireturn, 1) from ds_dec (i := (119, .ireturn, 1, 0, 0, 0, .int 0)) ok_X9_isGreater 67 rfl) rfl (by decide) h
  · replace h := h.2 hc
    refine ds_blk (ls2 := [g0, g1, g2, g3, g4, g5, g6, g7, g8, g9, g10, g11, g12, g13, g14, g15, some (.int v16), some (.long v17), g18, some (.long v19), g20]) (st2 := [.int (lg_cmp v17 (0 : Int64))]) (σ2 := σ) ok_X9_isGreater 55 3 97 101 [] rfl rfl rfl rfl trivial ?_
    refine ds_if_le (show decode mt_X9_isGreater.2.1 101 = .ok (.ifCond .le 7, 3) from ds_dec (i := (101, .ifCond .le 7, 3, 0, 0, 0, .int 0)) ok_X9_isGreater 58 rfl) (t := 108) (by decide) (fun hc => ?_) (fun hc => ?_)
    · replace h := h.1 hc
      refine ds_blk (ls2 := [g0, g1, g2, g3, g4, g5, g6, g7, g8, g9, g10, g11, g12, g13, g14, g15, some (.int v16), some (.long v17), g18, some (.long v19), g20]) (st2 := [.int (0 : Int32)]) (σ2 := σ) ok_X9_isGreater 61 1 108 109 [] rfl rfl rfl rfl trivial ?_
      refine x_X9_isGreater_109 v16 (0 : Int32) _ _ _ _ _ _ _ _ _ _ _ _ _ _ _ _ _ _ _ _ σ Q h
    · replace h := h.2 hc
      refine ds_blk (ls2 := [g0, g1, g2, g3, g4, g5, g6, g7, g8, g9, g10, g11, g12, g13, g14, g15, some (.int v16), some (.long v17), g18, some (.long v19), g20]) (st2 := [.int (1 : Int32)]) (σ2 := σ) ok_X9_isGreater 59 1 104 105 [] rfl rfl rfl rfl trivial ?_
      refine ds_goto (show decode mt_X9_isGreater.2.1 105 = .ok (.goto 4, 3) from ds_dec (i := (105, .goto 4, 3, 0, 0, 0, .int 0)) ok_X9_isGreater 60 rfl) (t := 109) (by decide) ?_
      refine x_X9_isGreater_109 v16 (1 : Int32) _ _ _ _ _ _ _ _ _ _ _ _ _ _ _ _ _ _ _ _ σ Q h
def w_X9_isGreater (a0 : Int64) (a2 : Int64) (a4 : Int64) (a6 : Int64) (σ : ds_S) (Q : Option Value → ds_S → Prop) : Prop := ∃ n, w_X9_isGreater_17 n a0 a2 a4 a6 (0 : Int32) σ Q (fun v8_1 v10_1 v12_1 v14_1 v16_1 σ1 => ¬ v10_1 = 0 ∧ ¬ v14_1 = 0 ∧ (((lg_cmp (v8_1 / v10_1) (v12_1 / v14_1)) ≤ 0 → w_X9_isGreater_50 v16_1 (0 : Int32) σ1 Q) ∧ (¬ (lg_cmp (v8_1 / v10_1) (v12_1 / v14_1)) ≤ 0 → w_X9_isGreater_50 v16_1 (1 : Int32) σ1 Q))) (fun v16_2 v17_2 v19_2 σ2 => w_X9_isGreater_89 v16_2 v17_2 v19_2 σ2 Q)
theorem e_X9_isGreater (a0 : Int64) (a2 : Int64) (a4 : Int64) (a6 : Int64) (σ : ds_S) (Q : Option Value → ds_S → Prop) (h : w_X9_isGreater a0 a2 a4 a6 σ Q) : ds_E mt_X9_isGreater Ym [.long a0, .long a2, .long a4, .long a6] σ Q := by
  refine ds_enter (by decide) (Nat.le_of_ble_eq_true rfl) ?_
  show ds_X mt_X9_isGreater Ym 0 [some (.long a0), none, some (.long a2), none, some (.long a4), none, some (.long a6), none, none, none, none, none, none, none, none, none, none, none, none, none, none] [] σ Q
  unfold w_X9_isGreater at h
  refine ds_blk (ls2 := [some (.long a0), none, some (.long a2), none, some (.long a4), none, some (.long a6), none, some (.long a0), none, some (.long a2), none, some (.long a4), none, some (.long a6), none, some (.int (0 : Int32)), none, none, none, none]) (st2 := []) (σ2 := σ) ok_X9_isGreater 0 10 0 17 [] rfl rfl rfl rfl trivial ?_
  obtain ⟨n, h⟩ := h
  refine x_X9_isGreater_17 n a0 a2 a4 a6 (0 : Int32) _ _ _ _ _ _ _ _ _ _ _ _ _ _ _ _ σ Q _ _ ?_ ?_ h
  · intro v8_1 v10_1 v12_1 v14_1 v16_1 g0_1 g1_1 g2_1 g3_1 g4_1 g5_1 g6_1 g7_1 g9_1 g11_1 g13_1 g15_1 g17_1 g18_1 g19_1 g20_1 σ1 h
    obtain ⟨o1, o2, h⟩ := h
    refine ds_blk (ls2 := [g0_1, g1_1, g2_1, g3_1, g4_1, g5_1, g6_1, g7_1, some (.long v8_1), g9_1, some (.long v10_1), g11_1, some (.long v12_1), g13_1, some (.long v14_1), g15_1, some (.int v16_1), g17_1, g18_1, g19_1, g20_1]) (st2 := [.int (lg_cmp (v8_1 / v10_1) (v12_1 / v14_1))]) (σ2 := σ1) ok_X9_isGreater 18 7 31 42 [¬ v10_1 = 0, ¬ v14_1 = 0] rfl rfl rfl rfl ⟨o1, o2, trivial⟩ ?_
    refine ds_if_le (show decode mt_X9_isGreater.2.1 42 = .ok (.ifCond .le 7, 3) from ds_dec (i := (42, .ifCond .le 7, 3, 0, 0, 0, .int 0)) ok_X9_isGreater 25 rfl) (t := 49) (by decide) (fun hc => ?_) (fun hc => ?_)
    · replace h := h.1 hc
      refine ds_blk (ls2 := [g0_1, g1_1, g2_1, g3_1, g4_1, g5_1, g6_1, g7_1, some (.long v8_1), g9_1, some (.long v10_1), g11_1, some (.long v12_1), g13_1, some (.long v14_1), g15_1, some (.int v16_1), g17_1, g18_1, g19_1, g20_1]) (st2 := [.int (0 : Int32)]) (σ2 := σ1) ok_X9_isGreater 28 1 49 50 [] rfl rfl rfl rfl trivial ?_
      refine x_X9_isGreater_50 v16_1 (0 : Int32) _ _ _ _ _ _ _ _ _ _ _ _ _ _ _ _ _ _ _ _ σ1 Q h
    · replace h := h.2 hc
      refine ds_blk (ls2 := [g0_1, g1_1, g2_1, g3_1, g4_1, g5_1, g6_1, g7_1, some (.long v8_1), g9_1, some (.long v10_1), g11_1, some (.long v12_1), g13_1, some (.long v14_1), g15_1, some (.int v16_1), g17_1, g18_1, g19_1, g20_1]) (st2 := [.int (1 : Int32)]) (σ2 := σ1) ok_X9_isGreater 26 1 45 46 [] rfl rfl rfl rfl trivial ?_
      refine ds_goto (show decode mt_X9_isGreater.2.1 46 = .ok (.goto 4, 3) from ds_dec (i := (46, .goto 4, 3, 0, 0, 0, .int 0)) ok_X9_isGreater 27 rfl) (t := 50) (by decide) ?_
      refine x_X9_isGreater_50 v16_1 (1 : Int32) _ _ _ _ _ _ _ _ _ _ _ _ _ _ _ _ _ _ _ _ σ1 Q h
  · intro v16_2 v17_2 v19_2 g0_2 g1_2 g2_2 g3_2 g4_2 g5_2 g6_2 g7_2 g8_2 g9_2 g10_2 g11_2 g12_2 g13_2 g14_2 g15_2 g18_2 g20_2 σ2 h
    refine x_X9_isGreater_89 v16_2 v17_2 v19_2 _ _ _ _ _ _ _ _ _ _ _ _ _ _ _ _ _ _ σ2 Q h
def w_X9_loadOf (a1 : Int32) (a2 : Int32) (a3 : Int32) (σ : ds_S) (Q : Option Value → ds_S → Prop) : Prop := vp_in ((((36 : Int32) * a1) + ((6 : Int32) * a2)) + a3) 108 ∧ Q (some (.int (σ.1 7 (((((36 : Int32) * a1) + ((6 : Int32) * a2)) + a3).toNatClampNeg)))) σ
theorem e_X9_loadOf (a1 : Int32) (a2 : Int32) (a3 : Int32) (σ : ds_S) (Q : Option Value → ds_S → Prop) (h : w_X9_loadOf a1 a2 a3 σ Q) : ds_E mt_X9_loadOf Ym [.ref 0, .int a1, .int a2, .int a3] σ Q := by
  refine ds_enter (by decide) (Nat.le_of_ble_eq_true rfl) ?_
  show ds_X mt_X9_loadOf Ym 0 [some (.ref 0), some (.int a1), some (.int a2), some (.int a3)] [] σ Q
  unfold w_X9_loadOf at h
  obtain ⟨o1, h⟩ := h
  refine ds_blk (ls2 := [some (.ref 0), some (.int a1), some (.int a2), some (.int a3)]) (st2 := [.int (σ.1 7 (((((36 : Int32) * a1) + ((6 : Int32) * a2)) + a3).toNatClampNeg))]) (σ2 := σ) ok_X9_loadOf 0 12 0 16 [ds_k Ym 0 9, ds_k Ym 7 10, vp_in ((((36 : Int32) * a1) + ((6 : Int32) * a2)) + a3) 108] rfl rfl rfl rfl ⟨⟨by decide, rfl⟩, ⟨by decide, rfl⟩, o1, trivial⟩ ?_
  exact ds_iret (show decode mt_X9_loadOf.2.1 16 = .ok (.ireturn, 1) from ds_dec (i := (16, .ireturn, 1, 0, 0, 0, .int 0)) ok_X9_loadOf 12 rfl) rfl h
def w_X9_isThere (a1 : Int32) (σ : ds_S) (Q : Option Value → ds_S → Prop) : Prop := vp_in a1 10 ∧ ((¬ (σ.1 6 a1.toNatClampNeg) = 0 → Q (some (.int (0 : Int32))) σ) ∧ ((σ.1 6 a1.toNatClampNeg) = 0 → ((a1 = (σ.1 0 13) → Q (some (.int (0 : Int32))) σ) ∧ (¬ a1 = (σ.1 0 13) → Q (some (.int (1 : Int32))) σ))))
theorem e_X9_isThere (a1 : Int32) (σ : ds_S) (Q : Option Value → ds_S → Prop) (h : w_X9_isThere a1 σ Q) : ds_E mt_X9_isThere Ym [.ref 0, .int a1] σ Q := by
  refine ds_enter (by decide) (Nat.le_of_ble_eq_true rfl) ?_
  show ds_X mt_X9_isThere Ym 0 [some (.ref 0), some (.int a1)] [] σ Q
  unfold w_X9_isThere at h
  obtain ⟨o1, h⟩ := h
  refine ds_blk (ls2 := [some (.ref 0), some (.int a1)]) (st2 := [.int (σ.1 6 a1.toNatClampNeg)]) (σ2 := σ) ok_X9_isThere 0 4 0 6 [ds_k Ym 0 9, ds_k Ym 6 12, vp_in a1 10] rfl rfl rfl rfl ⟨⟨by decide, rfl⟩, ⟨by decide, rfl⟩, o1, trivial⟩ ?_
  refine ds_if_ne (show decode mt_X9_isThere.2.1 6 = .ok (.ifCond .ne 15, 3) from ds_dec (i := (6, .ifCond .ne 15, 3, 0, 0, 0, .int 0)) ok_X9_isThere 4 rfl) (t := 21) (by decide) (fun hc => ?_) (fun hc => ?_)
  · replace h := h.1 hc
    refine ds_blk (ls2 := [some (.ref 0), some (.int a1)]) (st2 := [.int (0 : Int32)]) (σ2 := σ) ok_X9_isThere 11 1 21 22 [] rfl rfl rfl rfl trivial ?_
    exact ds_zret (show decode mt_X9_isThere.2.1 22 = .ok (.ireturn, 1) from ds_dec (i := (22, .ireturn, 1, 0, 0, 0, .int 0)) ok_X9_isThere 12 rfl) rfl (by decide) h
  · replace h := h.2 hc
    refine ds_blk (ls2 := [some (.ref 0), some (.int a1)]) (st2 := [.int (σ.1 0 13), .int a1]) (σ2 := σ) ok_X9_isThere 5 3 9 14 [ds_k Ym 0 9] rfl rfl rfl rfl ⟨⟨by decide, rfl⟩, trivial⟩ ?_
    refine ds_ic_eq (show decode mt_X9_isThere.2.1 14 = .ok (.if_icmp .eq 7, 3) from ds_dec (i := (14, .if_icmp .eq 7, 3, 0, 0, 0, .int 0)) ok_X9_isThere 8 rfl) (t := 21) (by decide) (fun hc => ?_) (fun hc => ?_)
    · replace h := h.1 hc
      refine ds_blk (ls2 := [some (.ref 0), some (.int a1)]) (st2 := [.int (0 : Int32)]) (σ2 := σ) ok_X9_isThere 11 1 21 22 [] rfl rfl rfl rfl trivial ?_
      exact ds_zret (show decode mt_X9_isThere.2.1 22 = .ok (.ireturn, 1) from ds_dec (i := (22, .ireturn, 1, 0, 0, 0, .int 0)) ok_X9_isThere 12 rfl) rfl (by decide) h
    · replace h := h.2 hc
      refine ds_blk (ls2 := [some (.ref 0), some (.int a1)]) (st2 := [.int (1 : Int32)]) (σ2 := σ) ok_X9_isThere 9 1 17 18 [] rfl rfl rfl rfl trivial ?_
      refine ds_goto (show decode mt_X9_isThere.2.1 18 = .ok (.goto 4, 3) from ds_dec (i := (18, .goto 4, 3, 0, 0, 0, .int 0)) ok_X9_isThere 10 rfl) (t := 22) (by decide) ?_
      exact ds_zret (show decode mt_X9_isThere.2.1 22 = .ok (.ireturn, 1) from ds_dec (i := (22, .ireturn, 1, 0, 0, 0, .int 0)) ok_X9_isThere 12 rfl) rfl (by decide) h
def w_X9_ones_4 : Nat → (v0 : Int32) → (v1 : Int32) → (v2 : Int32) → (σ : ds_S) → (Q : Option Value → ds_S → Prop) → Prop
  | 0, _, _, _, _, _ => False
  | f + 1, v0, v1, v2, σ, Q => (((10 : Int32) ≤ v2 → Q (some (.int v1)) σ) ∧ (¬ (10 : Int32) ≤ v2 → w_X9_ones_4 f v0 (v1 + ((v0 >>> (v2 &&& 31)) &&& (1 : Int32))) (v2 + (1 : Int32)) σ Q))
theorem x_X9_ones_4 : ∀ (f : Nat) (v0 : Int32) (v1 : Int32) (v2 : Int32) (σ : ds_S) (Q : Option Value → ds_S → Prop), w_X9_ones_4 f v0 v1 v2 σ Q → ds_X mt_X9_ones Ym 4 [some (.int v0), some (.int v1), some (.int v2)] [] σ Q := by
  intro f
  induction f with
  | zero => intro v0 v1 v2 σ Q h; exact False.elim h
  | succ f ih =>
    intro v0 v1 v2 σ Q h
    rw [w_X9_ones_4] at h
    refine ds_blk (ls2 := [some (.int v0), some (.int v1), some (.int v2)]) (st2 := [.int (10 : Int32), .int v2]) (σ2 := σ) ok_X9_ones 4 2 4 7 [] rfl rfl rfl rfl trivial ?_
    refine ds_ic_ge (show decode mt_X9_ones.2.1 7 = .ok (.if_icmp .ge 17, 3) from ds_dec (i := (7, .if_icmp .ge 17, 3, 0, 0, 0, .int 0)) ok_X9_ones 6 rfl) (t := 24) (by decide) (fun hc => ?_) (fun hc => ?_)
    · replace h := h.1 hc
      refine ds_blk (ls2 := [some (.int v0), some (.int v1), some (.int v2)]) (st2 := [.int v1]) (σ2 := σ) ok_X9_ones 17 1 24 25 [] rfl rfl rfl rfl trivial ?_
      exact ds_iret (show decode mt_X9_ones.2.1 25 = .ok (.ireturn, 1) from ds_dec (i := (25, .ireturn, 1, 0, 0, 0, .int 0)) ok_X9_ones 18 rfl) rfl h
    · replace h := h.2 hc
      refine ds_blk (ls2 := [some (.int v0), some (.int (v1 + ((v0 >>> (v2 &&& 31)) &&& (1 : Int32)))), some (.int (v2 + (1 : Int32)))]) (st2 := []) (σ2 := σ) ok_X9_ones 7 9 10 21 [] rfl rfl rfl rfl trivial ?_
      refine ds_goto (show decode mt_X9_ones.2.1 21 = .ok (.goto (-17), 3) from ds_dec (i := (21, .goto (-17), 3, 0, 0, 0, .int 0)) ok_X9_ones 16 rfl) (t := 4) (by decide) ?_
      exact ih v0 (v1 + ((v0 >>> (v2 &&& 31)) &&& (1 : Int32))) (v2 + (1 : Int32)) σ Q h
def w_X9_ones (a0 : Int32) (σ : ds_S) (Q : Option Value → ds_S → Prop) : Prop := ∃ n, w_X9_ones_4 n a0 (0 : Int32) (0 : Int32) σ Q
theorem e_X9_ones (a0 : Int32) (σ : ds_S) (Q : Option Value → ds_S → Prop) (h : w_X9_ones a0 σ Q) : ds_E mt_X9_ones Ym [.int a0] σ Q := by
  refine ds_enter (by decide) (Nat.le_of_ble_eq_true rfl) ?_
  show ds_X mt_X9_ones Ym 0 [some (.int a0), none, none] [] σ Q
  unfold w_X9_ones at h
  refine ds_blk (ls2 := [some (.int a0), some (.int (0 : Int32)), some (.int (0 : Int32))]) (st2 := []) (σ2 := σ) ok_X9_ones 0 4 0 4 [] rfl rfl rfl rfl trivial ?_
  obtain ⟨n, h⟩ := h
  refine x_X9_ones_4 n a0 (0 : Int32) (0 : Int32) σ Q h
def w_J9_min_f86c9 (a0 : Int64) (a2 : Int64) (σ : ds_S) (Q : Option Value → ds_S → Prop) : Prop := ((0 < (lg_cmp a0 a2) → Q (some (.long a2)) σ) ∧ (¬ 0 < (lg_cmp a0 a2) → Q (some (.long a0)) σ))
theorem e_J9_min_f86c9 (a0 : Int64) (a2 : Int64) (σ : ds_S) (Q : Option Value → ds_S → Prop) (h : w_J9_min_f86c9 a0 a2 σ Q) : ds_E mt_J9_min_f86c9 Yc [.long a0, .long a2] σ Q := by
  refine ds_enterF (by decide +kernel) (Nat.le_of_ble_eq_true rfl) ?_
  show ds_X mt_J9_min_f86c9 Yc 0 [some (.long a0), none, some (.long a2), none] [] σ Q
  unfold w_J9_min_f86c9 at h
  refine ds_blk (ls2 := [some (.long a0), none, some (.long a2), none]) (st2 := [.int (lg_cmp a0 a2)]) (σ2 := σ) ok_J9_min_f86c9 0 3 0 3 [] rfl rfl rfl rfl trivial ?_
  refine ds_if_gt (show decode mt_J9_min_f86c9.2.1 3 = .ok (.ifCond .gt 7, 3) from ds_dec (i := (3, .ifCond .gt 7, 3, 0, 0, 0, .int 0)) ok_J9_min_f86c9 3 rfl) (t := 10) (by decide) (fun hc => ?_) (fun hc => ?_)
  · replace h := h.1 hc
    refine ds_blk (ls2 := [some (.long a0), none, some (.long a2), none]) (st2 := [.long a2]) (σ2 := σ) ok_J9_min_f86c9 6 1 10 11 [] rfl rfl rfl rfl trivial ?_
    exact ds_lret (show decode mt_J9_min_f86c9.2.1 11 = .ok (.lreturn, 1) from ds_dec (i := (11, .lreturn, 1, 0, 0, 0, .int 0)) ok_J9_min_f86c9 7 rfl) rfl h
  · replace h := h.2 hc
    refine ds_blk (ls2 := [some (.long a0), none, some (.long a2), none]) (st2 := [.long a0]) (σ2 := σ) ok_J9_min_f86c9 4 1 6 7 [] rfl rfl rfl rfl trivial ?_
    refine ds_goto (show decode mt_J9_min_f86c9.2.1 7 = .ok (.goto 4, 3) from ds_dec (i := (7, .goto 4, 3, 0, 0, 0, .int 0)) ok_J9_min_f86c9 5 rfl) (t := 11) (by decide) ?_
    exact ds_lret (show decode mt_J9_min_f86c9.2.1 11 = .ok (.lreturn, 1) from ds_dec (i := (11, .lreturn, 1, 0, 0, 0, .int 0)) ok_J9_min_f86c9 7 rfl) rfl h
def w_J13_compare_74951 (a0 : Int64) (a2 : Int64) (σ : ds_S) (Q : Option Value → ds_S → Prop) : Prop := ((0 ≤ (lg_cmp a0 a2) → ((¬ (lg_cmp a0 a2) = 0 → Q (some (.int (1 : Int32))) σ) ∧ ((lg_cmp a0 a2) = 0 → Q (some (.int (0 : Int32))) σ))) ∧ (¬ 0 ≤ (lg_cmp a0 a2) → Q (some (.int (-1 : Int32))) σ))
theorem e_J13_compare_74951 (a0 : Int64) (a2 : Int64) (σ : ds_S) (Q : Option Value → ds_S → Prop) (h : w_J13_compare_74951 a0 a2 σ Q) : ds_E mt_J13_compare_74951 Yc [.long a0, .long a2] σ Q := by
  refine ds_enter (by decide) (Nat.le_of_ble_eq_true rfl) ?_
  show ds_X mt_J13_compare_74951 Yc 0 [some (.long a0), none, some (.long a2), none] [] σ Q
  unfold w_J13_compare_74951 at h
  refine ds_blk (ls2 := [some (.long a0), none, some (.long a2), none]) (st2 := [.int (lg_cmp a0 a2)]) (σ2 := σ) ok_J13_compare_74951 0 3 0 3 [] rfl rfl rfl rfl trivial ?_
  refine ds_if_ge (show decode mt_J13_compare_74951.2.1 3 = .ok (.ifCond .ge 7, 3) from ds_dec (i := (3, .ifCond .ge 7, 3, 0, 0, 0, .int 0)) ok_J13_compare_74951 3 rfl) (t := 10) (by decide) (fun hc => ?_) (fun hc => ?_)
  · replace h := h.1 hc
    refine ds_blk (ls2 := [some (.long a0), none, some (.long a2), none]) (st2 := [.int (lg_cmp a0 a2)]) (σ2 := σ) ok_J13_compare_74951 6 3 10 13 [] rfl rfl rfl rfl trivial ?_
    refine ds_if_ne (show decode mt_J13_compare_74951.2.1 13 = .ok (.ifCond .ne 7, 3) from ds_dec (i := (13, .ifCond .ne 7, 3, 0, 0, 0, .int 0)) ok_J13_compare_74951 9 rfl) (t := 20) (by decide) (fun hc => ?_) (fun hc => ?_)
    · replace h := h.1 hc
      refine ds_blk (ls2 := [some (.long a0), none, some (.long a2), none]) (st2 := [.int (1 : Int32)]) (σ2 := σ) ok_J13_compare_74951 12 1 20 21 [] rfl rfl rfl rfl trivial ?_
      exact ds_iret (show decode mt_J13_compare_74951.2.1 21 = .ok (.ireturn, 1) from ds_dec (i := (21, .ireturn, 1, 0, 0, 0, .int 0)) ok_J13_compare_74951 13 rfl) rfl h
    · replace h := h.2 hc
      refine ds_blk (ls2 := [some (.long a0), none, some (.long a2), none]) (st2 := [.int (0 : Int32)]) (σ2 := σ) ok_J13_compare_74951 10 1 16 17 [] rfl rfl rfl rfl trivial ?_
      refine ds_goto (show decode mt_J13_compare_74951.2.1 17 = .ok (.goto 4, 3) from ds_dec (i := (17, .goto 4, 3, 0, 0, 0, .int 0)) ok_J13_compare_74951 11 rfl) (t := 21) (by decide) ?_
      exact ds_iret (show decode mt_J13_compare_74951.2.1 21 = .ok (.ireturn, 1) from ds_dec (i := (21, .ireturn, 1, 0, 0, 0, .int 0)) ok_J13_compare_74951 13 rfl) rfl h
  · replace h := h.2 hc
    refine ds_blk (ls2 := [some (.long a0), none, some (.long a2), none]) (st2 := [.int (-1 : Int32)]) (σ2 := σ) ok_J13_compare_74951 4 1 6 7 [] rfl rfl rfl rfl trivial ?_
    refine ds_goto (show decode mt_J13_compare_74951.2.1 7 = .ok (.goto 14, 3) from ds_dec (i := (7, .goto 14, 3, 0, 0, 0, .int 0)) ok_J13_compare_74951 5 rfl) (t := 21) (by decide) ?_
    exact ds_iret (show decode mt_J13_compare_74951.2.1 21 = .ok (.ireturn, 1) from ds_dec (i := (21, .ireturn, 1, 0, 0, 0, .int 0)) ok_J13_compare_74951 13 rfl) rfl h
def w_X8_isTable (a0 : Int32) (σ : ds_S) (Q : Option Value → ds_S → Prop) : Prop := ((a0 < 0 → Q (some (.int (0 : Int32))) σ) ∧ (¬ a0 < 0 → (((3 : Int32) ≤ a0 → Q (some (.int (0 : Int32))) σ) ∧ (¬ (3 : Int32) ≤ a0 → Q (some (.int (1 : Int32))) σ))))
theorem e_X8_isTable (a0 : Int32) (σ : ds_S) (Q : Option Value → ds_S → Prop) (h : w_X8_isTable a0 σ Q) : ds_E mt_X8_isTable Yc [.int a0] σ Q := by
  refine ds_enter (by decide) (Nat.le_of_ble_eq_true rfl) ?_
  show ds_X mt_X8_isTable Yc 0 [some (.int a0)] [] σ Q
  unfold w_X8_isTable at h
  refine ds_blk (ls2 := [some (.int a0)]) (st2 := [.int a0]) (σ2 := σ) ok_X8_isTable 0 1 0 1 [] rfl rfl rfl rfl trivial ?_
  refine ds_if_lt (show decode mt_X8_isTable.2.1 1 = .ok (.ifCond .lt 12, 3) from ds_dec (i := (1, .ifCond .lt 12, 3, 0, 0, 0, .int 0)) ok_X8_isTable 1 rfl) (t := 13) (by decide) (fun hc => ?_) (fun hc => ?_)
  · replace h := h.1 hc
    refine ds_blk (ls2 := [some (.int a0)]) (st2 := [.int (0 : Int32)]) (σ2 := σ) ok_X8_isTable 7 1 13 14 [] rfl rfl rfl rfl trivial ?_
    exact ds_zret (show decode mt_X8_isTable.2.1 14 = .ok (.ireturn, 1) from ds_dec (i := (14, .ireturn, 1, 0, 0, 0, .int 0)) ok_X8_isTable 8 rfl) rfl (by decide) h
  · replace h := h.2 hc
    refine ds_blk (ls2 := [some (.int a0)]) (st2 := [.int (3 : Int32), .int a0]) (σ2 := σ) ok_X8_isTable 2 2 4 6 [] rfl rfl rfl rfl trivial ?_
    refine ds_ic_ge (show decode mt_X8_isTable.2.1 6 = .ok (.if_icmp .ge 7, 3) from ds_dec (i := (6, .if_icmp .ge 7, 3, 0, 0, 0, .int 0)) ok_X8_isTable 4 rfl) (t := 13) (by decide) (fun hc => ?_) (fun hc => ?_)
    · replace h := h.1 hc
      refine ds_blk (ls2 := [some (.int a0)]) (st2 := [.int (0 : Int32)]) (σ2 := σ) ok_X8_isTable 7 1 13 14 [] rfl rfl rfl rfl trivial ?_
      exact ds_zret (show decode mt_X8_isTable.2.1 14 = .ok (.ireturn, 1) from ds_dec (i := (14, .ireturn, 1, 0, 0, 0, .int 0)) ok_X8_isTable 8 rfl) rfl (by decide) h
    · replace h := h.2 hc
      refine ds_blk (ls2 := [some (.int a0)]) (st2 := [.int (1 : Int32)]) (σ2 := σ) ok_X8_isTable 5 1 9 10 [] rfl rfl rfl rfl trivial ?_
      refine ds_goto (show decode mt_X8_isTable.2.1 10 = .ok (.goto 4, 3) from ds_dec (i := (10, .goto 4, 3, 0, 0, 0, .int 0)) ok_X8_isTable 6 rfl) (t := 14) (by decide) ?_
      exact ds_zret (show decode mt_X8_isTable.2.1 14 = .ok (.ireturn, 1) from ds_dec (i := (14, .ireturn, 1, 0, 0, 0, .int 0)) ok_X8_isTable 8 rfl) rfl (by decide) h
def w_X8_isWeight (a0 : Int32) (σ : ds_S) (Q : Option Value → ds_S → Prop) : Prop := ((a0 < (1 : Int32) → Q (some (.int (0 : Int32))) σ) ∧ (¬ a0 < (1 : Int32) → (((20 : Int32) < a0 → Q (some (.int (0 : Int32))) σ) ∧ (¬ (20 : Int32) < a0 → Q (some (.int (1 : Int32))) σ))))
theorem e_X8_isWeight (a0 : Int32) (σ : ds_S) (Q : Option Value → ds_S → Prop) (h : w_X8_isWeight a0 σ Q) : ds_E mt_X8_isWeight Yc [.int a0] σ Q := by
  refine ds_enter (by decide) (Nat.le_of_ble_eq_true rfl) ?_
  show ds_X mt_X8_isWeight Yc 0 [some (.int a0)] [] σ Q
  unfold w_X8_isWeight at h
  refine ds_blk (ls2 := [some (.int a0)]) (st2 := [.int (1 : Int32), .int a0]) (σ2 := σ) ok_X8_isWeight 0 2 0 2 [] rfl rfl rfl rfl trivial ?_
  refine ds_ic_lt (show decode mt_X8_isWeight.2.1 2 = .ok (.if_icmp .lt 13, 3) from ds_dec (i := (2, .if_icmp .lt 13, 3, 0, 0, 0, .int 0)) ok_X8_isWeight 2 rfl) (t := 15) (by decide) (fun hc => ?_) (fun hc => ?_)
  · replace h := h.1 hc
    refine ds_blk (ls2 := [some (.int a0)]) (st2 := [.int (0 : Int32)]) (σ2 := σ) ok_X8_isWeight 8 1 15 16 [] rfl rfl rfl rfl trivial ?_
    exact ds_zret (show decode mt_X8_isWeight.2.1 16 = .ok (.ireturn, 1) from ds_dec (i := (16, .ireturn, 1, 0, 0, 0, .int 0)) ok_X8_isWeight 9 rfl) rfl (by decide) h
  · replace h := h.2 hc
    refine ds_blk (ls2 := [some (.int a0)]) (st2 := [.int (20 : Int32), .int a0]) (σ2 := σ) ok_X8_isWeight 3 2 5 8 [] rfl rfl rfl rfl trivial ?_
    refine ds_ic_gt (show decode mt_X8_isWeight.2.1 8 = .ok (.if_icmp .gt 7, 3) from ds_dec (i := (8, .if_icmp .gt 7, 3, 0, 0, 0, .int 0)) ok_X8_isWeight 5 rfl) (t := 15) (by decide) (fun hc => ?_) (fun hc => ?_)
    · replace h := h.1 hc
      refine ds_blk (ls2 := [some (.int a0)]) (st2 := [.int (0 : Int32)]) (σ2 := σ) ok_X8_isWeight 8 1 15 16 [] rfl rfl rfl rfl trivial ?_
      exact ds_zret (show decode mt_X8_isWeight.2.1 16 = .ok (.ireturn, 1) from ds_dec (i := (16, .ireturn, 1, 0, 0, 0, .int 0)) ok_X8_isWeight 9 rfl) rfl (by decide) h
    · replace h := h.2 hc
      refine ds_blk (ls2 := [some (.int a0)]) (st2 := [.int (1 : Int32)]) (σ2 := σ) ok_X8_isWeight 6 1 11 12 [] rfl rfl rfl rfl trivial ?_
      refine ds_goto (show decode mt_X8_isWeight.2.1 12 = .ok (.goto 4, 3) from ds_dec (i := (12, .goto 4, 3, 0, 0, 0, .int 0)) ok_X8_isWeight 7 rfl) (t := 16) (by decide) ?_
      exact ds_zret (show decode mt_X8_isWeight.2.1 16 = .ok (.ireturn, 1) from ds_dec (i := (16, .ireturn, 1, 0, 0, 0, .int 0)) ok_X8_isWeight 9 rfl) rfl (by decide) h
def w_X8_isOneOfTwo (a0 : Int32) (σ : ds_S) (Q : Option Value → ds_S → Prop) : Prop := ((a0 = 0 → Q (some (.int (1 : Int32))) σ) ∧ (¬ a0 = 0 → ((¬ a0 = (1 : Int32) → Q (some (.int (0 : Int32))) σ) ∧ (a0 = (1 : Int32) → Q (some (.int (1 : Int32))) σ))))
theorem e_X8_isOneOfTwo (a0 : Int32) (σ : ds_S) (Q : Option Value → ds_S → Prop) (h : w_X8_isOneOfTwo a0 σ Q) : ds_E mt_X8_isOneOfTwo Yc [.int a0] σ Q := by
  refine ds_enter (by decide) (Nat.le_of_ble_eq_true rfl) ?_
  show ds_X mt_X8_isOneOfTwo Yc 0 [some (.int a0)] [] σ Q
  unfold w_X8_isOneOfTwo at h
  refine ds_blk (ls2 := [some (.int a0)]) (st2 := [.int a0]) (σ2 := σ) ok_X8_isOneOfTwo 0 1 0 1 [] rfl rfl rfl rfl trivial ?_
  refine ds_if_eq (show decode mt_X8_isOneOfTwo.2.1 1 = .ok (.ifCond .eq 8, 3) from ds_dec (i := (1, .ifCond .eq 8, 3, 0, 0, 0, .int 0)) ok_X8_isOneOfTwo 1 rfl) (t := 9) (by decide) (fun hc => ?_) (fun hc => ?_)
  · replace h := h.1 hc
    refine ds_blk (ls2 := [some (.int a0)]) (st2 := [.int (1 : Int32)]) (σ2 := σ) ok_X8_isOneOfTwo 5 1 9 10 [] rfl rfl rfl rfl trivial ?_
    refine ds_goto (show decode mt_X8_isOneOfTwo.2.1 10 = .ok (.goto 4, 3) from ds_dec (i := (10, .goto 4, 3, 0, 0, 0, .int 0)) ok_X8_isOneOfTwo 6 rfl) (t := 14) (by decide) ?_
    exact ds_zret (show decode mt_X8_isOneOfTwo.2.1 14 = .ok (.ireturn, 1) from ds_dec (i := (14, .ireturn, 1, 0, 0, 0, .int 0)) ok_X8_isOneOfTwo 8 rfl) rfl (by decide) h
  · replace h := h.2 hc
    refine ds_blk (ls2 := [some (.int a0)]) (st2 := [.int (1 : Int32), .int a0]) (σ2 := σ) ok_X8_isOneOfTwo 2 2 4 6 [] rfl rfl rfl rfl trivial ?_
    refine ds_ic_ne (show decode mt_X8_isOneOfTwo.2.1 6 = .ok (.if_icmp .ne 7, 3) from ds_dec (i := (6, .if_icmp .ne 7, 3, 0, 0, 0, .int 0)) ok_X8_isOneOfTwo 4 rfl) (t := 13) (by decide) (fun hc => ?_) (fun hc => ?_)
    · replace h := h.1 hc
      refine ds_blk (ls2 := [some (.int a0)]) (st2 := [.int (0 : Int32)]) (σ2 := σ) ok_X8_isOneOfTwo 7 1 13 14 [] rfl rfl rfl rfl trivial ?_
      exact ds_zret (show decode mt_X8_isOneOfTwo.2.1 14 = .ok (.ireturn, 1) from ds_dec (i := (14, .ireturn, 1, 0, 0, 0, .int 0)) ok_X8_isOneOfTwo 8 rfl) rfl (by decide) h
    · replace h := h.2 hc
      refine ds_blk (ls2 := [some (.int a0)]) (st2 := [.int (1 : Int32)]) (σ2 := σ) ok_X8_isOneOfTwo 5 1 9 10 [] rfl rfl rfl rfl trivial ?_
      refine ds_goto (show decode mt_X8_isOneOfTwo.2.1 10 = .ok (.goto 4, 3) from ds_dec (i := (10, .goto 4, 3, 0, 0, 0, .int 0)) ok_X8_isOneOfTwo 6 rfl) (t := 14) (by decide) ?_
      exact ds_zret (show decode mt_X8_isOneOfTwo.2.1 14 = .ok (.ireturn, 1) from ds_dec (i := (14, .ireturn, 1, 0, 0, 0, .int 0)) ok_X8_isOneOfTwo 8 rfl) rfl (by decide) h
def w_X8_bit (a0 : Int32) (a1 : Int32) (σ : ds_S) (Q : Option Value → ds_S → Prop) : Prop := Q (some (.int ((a0 >>> (a1 &&& 31)) &&& (1 : Int32)))) σ
theorem e_X8_bit (a0 : Int32) (a1 : Int32) (σ : ds_S) (Q : Option Value → ds_S → Prop) (h : w_X8_bit a0 a1 σ Q) : ds_E mt_X8_bit Yc [.int a0, .int a1] σ Q := by
  refine ds_enter (by decide) (Nat.le_of_ble_eq_true rfl) ?_
  show ds_X mt_X8_bit Yc 0 [some (.int a0), some (.int a1)] [] σ Q
  unfold w_X8_bit at h
  refine ds_blk (ls2 := [some (.int a0), some (.int a1)]) (st2 := [.int ((a0 >>> (a1 &&& 31)) &&& (1 : Int32))]) (σ2 := σ) ok_X8_bit 0 5 0 5 [] rfl rfl rfl rfl trivial ?_
  exact ds_iret (show decode mt_X8_bit.2.1 5 = .ok (.ireturn, 1) from ds_dec (i := (5, .ireturn, 1, 0, 0, 0, .int 0)) ok_X8_bit 5 rfl) rfl h
def w_X8_withBit (a0 : Int32) (a1 : Int32) (a2 : Int32) (σ : ds_S) (Q : Option Value → ds_S → Prop) : Prop := ((a2 = 0 → Q (some (.int (a0 &&& (((1 : Int32) <<< (a1 &&& 31)) ^^^ (-1 : Int32))))) σ) ∧ (¬ a2 = 0 → Q (some (.int (a0 ||| ((1 : Int32) <<< (a1 &&& 31))))) σ))
theorem e_X8_withBit (a0 : Int32) (a1 : Int32) (a2 : Int32) (σ : ds_S) (Q : Option Value → ds_S → Prop) (h : w_X8_withBit a0 a1 a2 σ Q) : ds_E mt_X8_withBit Yc [.int a0, .int a1, .int a2] σ Q := by
  refine ds_enter (by decide) (Nat.le_of_ble_eq_true rfl) ?_
  show ds_X mt_X8_withBit Yc 0 [some (.int a0), some (.int a1), some (.int a2)] [] σ Q
  unfold w_X8_withBit at h
  refine ds_blk (ls2 := [some (.int a0), some (.int a1), some (.int a2)]) (st2 := [.int a2]) (σ2 := σ) ok_X8_withBit 0 1 0 1 [] rfl rfl rfl rfl trivial ?_
  refine ds_if_eq (show decode mt_X8_withBit.2.1 1 = .ok (.ifCond .eq 11, 3) from ds_dec (i := (1, .ifCond .eq 11, 3, 0, 0, 0, .int 0)) ok_X8_withBit 1 rfl) (t := 12) (by decide) (fun hc => ?_) (fun hc => ?_)
  · replace h := h.1 hc
    refine ds_blk (ls2 := [some (.int a0), some (.int a1), some (.int a2)]) (st2 := [.int (a0 &&& (((1 : Int32) <<< (a1 &&& 31)) ^^^ (-1 : Int32)))]) (σ2 := σ) ok_X8_withBit 8 7 12 19 [] rfl rfl rfl rfl trivial ?_
    exact ds_iret (show decode mt_X8_withBit.2.1 19 = .ok (.ireturn, 1) from ds_dec (i := (19, .ireturn, 1, 0, 0, 0, .int 0)) ok_X8_withBit 15 rfl) rfl h
  · replace h := h.2 hc
    refine ds_blk (ls2 := [some (.int a0), some (.int a1), some (.int a2)]) (st2 := [.int (a0 ||| ((1 : Int32) <<< (a1 &&& 31)))]) (σ2 := σ) ok_X8_withBit 2 5 4 9 [] rfl rfl rfl rfl trivial ?_
    refine ds_goto (show decode mt_X8_withBit.2.1 9 = .ok (.goto 10, 3) from ds_dec (i := (9, .goto 10, 3, 0, 0, 0, .int 0)) ok_X8_withBit 7 rfl) (t := 19) (by decide) ?_
    exact ds_iret (show decode mt_X8_withBit.2.1 19 = .ok (.ireturn, 1) from ds_dec (i := (19, .ireturn, 1, 0, 0, 0, .int 0)) ok_X8_withBit 15 rfl) rfl h
def w_X8_pair (a0 : Int32) (a1 : Int32) (σ : ds_S) (Q : Option Value → ds_S → Prop) : Prop := Q (some (.int ((a0 * (6 : Int32)) + a1))) σ
theorem e_X8_pair (a0 : Int32) (a1 : Int32) (σ : ds_S) (Q : Option Value → ds_S → Prop) (h : w_X8_pair a0 a1 σ Q) : ds_E mt_X8_pair Yc [.int a0, .int a1] σ Q := by
  refine ds_enter (by decide) (Nat.le_of_ble_eq_true rfl) ?_
  show ds_X mt_X8_pair Yc 0 [some (.int a0), some (.int a1)] [] σ Q
  unfold w_X8_pair at h
  refine ds_blk (ls2 := [some (.int a0), some (.int a1)]) (st2 := [.int ((a0 * (6 : Int32)) + a1)]) (σ2 := σ) ok_X8_pair 0 5 0 6 [] rfl rfl rfl rfl trivial ?_
  exact ds_iret (show decode mt_X8_pair.2.1 6 = .ok (.ireturn, 1) from ds_dec (i := (6, .ireturn, 1, 0, 0, 0, .int 0)) ok_X8_pair 5 rfl) rfl h
def w_X8_slot (a0 : Int32) (a1 : Int32) (σ : ds_S) (Q : Option Value → ds_S → Prop) : Prop := Q (some (.int (((2 : Int32) * a0) + a1))) σ
theorem e_X8_slot (a0 : Int32) (a1 : Int32) (σ : ds_S) (Q : Option Value → ds_S → Prop) (h : w_X8_slot a0 a1 σ Q) : ds_E mt_X8_slot Yc [.int a0, .int a1] σ Q := by
  refine ds_enter (by decide) (Nat.le_of_ble_eq_true rfl) ?_
  show ds_X mt_X8_slot Yc 0 [some (.int a0), some (.int a1)] [] σ Q
  unfold w_X8_slot at h
  refine ds_blk (ls2 := [some (.int a0), some (.int a1)]) (st2 := [.int (((2 : Int32) * a0) + a1)]) (σ2 := σ) ok_X8_slot 0 5 0 5 [] rfl rfl rfl rfl trivial ?_
  exact ds_iret (show decode mt_X8_slot.2.1 5 = .ok (.ireturn, 1) from ds_dec (i := (5, .ireturn, 1, 0, 0, 0, .int 0)) ok_X8_slot 5 rfl) rfl h
def w_X8_commonDivisor_3 : Nat → (v0 : Int64) → (v2 : Int64) → (v4 : Int32) → (σ : ds_S) → (Q : Option Value → ds_S → Prop) → Prop
  | 0, _, _, _, _, _ => False
  | f + 1, v0, v2, v4, σ, Q => (((100 : Int32) ≤ v4 → Q (some (.long v0)) σ) ∧ (¬ (100 : Int32) ≤ v4 → (((lg_cmp v2 (0 : Int64)) = 0 → Q (some (.long v0)) σ) ∧ (¬ (lg_cmp v2 (0 : Int64)) = 0 → ¬ v2 = 0 ∧ w_X8_commonDivisor_3 f v2 (v0 - v0 / v2 * v2) (v4 + (1 : Int32)) σ Q))))
theorem x_X8_commonDivisor_3 : ∀ (f : Nat) (v0 : Int64) (v2 : Int64) (v4 : Int32) (g1 : Option Value) (g3 : Option Value) (g5 : Option Value) (g6 : Option Value) (σ : ds_S) (Q : Option Value → ds_S → Prop), w_X8_commonDivisor_3 f v0 v2 v4 σ Q → ds_X mt_X8_commonDivisor Yc 3 [some (.long v0), g1, some (.long v2), g3, some (.int v4), g5, g6] [] σ Q := by
  intro f
  induction f with
  | zero => intro v0 v2 v4 g1 g3 g5 g6 σ Q h; exact False.elim h
  | succ f ih =>
    intro v0 v2 v4 g1 g3 g5 g6 σ Q h
    rw [w_X8_commonDivisor_3] at h
    refine ds_blk (ls2 := [some (.long v0), g1, some (.long v2), g3, some (.int v4), g5, g6]) (st2 := [.int (100 : Int32), .int v4]) (σ2 := σ) ok_X8_commonDivisor 2 2 3 7 [] rfl rfl rfl rfl trivial ?_
    refine ds_ic_ge (show decode mt_X8_commonDivisor.2.1 7 = .ok (.if_icmp .ge 25, 3) from ds_dec (i := (7, .if_icmp .ge 25, 3, 0, 0, 0, .int 0)) ok_X8_commonDivisor 4 rfl) (t := 32) (by decide) (fun hc => ?_) (fun hc => ?_)
    · replace h := h.1 hc
      refine ds_blk (ls2 := [some (.long v0), g1, some (.long v2), g3, some (.int v4), g5, g6]) (st2 := [.long v0]) (σ2 := σ) ok_X8_commonDivisor 19 1 32 33 [] rfl rfl rfl rfl trivial ?_
      exact ds_lret (show decode mt_X8_commonDivisor.2.1 33 = .ok (.lreturn, 1) from ds_dec (i := (33, .lreturn, 1, 0, 0, 0, .int 0)) ok_X8_commonDivisor 20 rfl) rfl h
    · replace h := h.2 hc
      refine ds_blk (ls2 := [some (.long v0), g1, some (.long v2), g3, some (.int v4), g5, g6]) (st2 := [.int (lg_cmp v2 (0 : Int64))]) (σ2 := σ) ok_X8_commonDivisor 5 3 10 13 [] rfl rfl rfl rfl trivial ?_
      refine ds_if_eq (show decode mt_X8_commonDivisor.2.1 13 = .ok (.ifCond .eq 19, 3) from ds_dec (i := (13, .ifCond .eq 19, 3, 0, 0, 0, .int 0)) ok_X8_commonDivisor 8 rfl) (t := 32) (by decide) (fun hc => ?_) (fun hc => ?_)
      · replace h := h.1 hc
        refine ds_blk (ls2 := [some (.long v0), g1, some (.long v2), g3, some (.int v4), g5, g6]) (st2 := [.long v0]) (σ2 := σ) ok_X8_commonDivisor 19 1 32 33 [] rfl rfl rfl rfl trivial ?_
        exact ds_lret (show decode mt_X8_commonDivisor.2.1 33 = .ok (.lreturn, 1) from ds_dec (i := (33, .lreturn, 1, 0, 0, 0, .int 0)) ok_X8_commonDivisor 20 rfl) rfl h
      · replace h := h.2 hc
        obtain ⟨o1, h⟩ := h
        refine ds_blk (ls2 := [some (.long v2), none, some (.long (v0 - v0 / v2 * v2)), none, some (.int (v4 + (1 : Int32))), some (.long (v0 - v0 / v2 * v2)), none]) (st2 := []) (σ2 := σ) ok_X8_commonDivisor 9 9 16 29 [¬ v2 = 0] rfl rfl rfl rfl ⟨o1, trivial⟩ ?_
        refine ds_goto (show decode mt_X8_commonDivisor.2.1 29 = .ok (.goto (-26), 3) from ds_dec (i := (29, .goto (-26), 3, 0, 0, 0, .int 0)) ok_X8_commonDivisor 18 rfl) (t := 3) (by decide) ?_
        exact ih v2 (v0 - v0 / v2 * v2) (v4 + (1 : Int32)) _ _ _ _ σ Q h
def w_X8_commonDivisor (a0 : Int64) (a2 : Int64) (σ : ds_S) (Q : Option Value → ds_S → Prop) : Prop := ∃ n, w_X8_commonDivisor_3 n a0 a2 (0 : Int32) σ Q
theorem e_X8_commonDivisor (a0 : Int64) (a2 : Int64) (σ : ds_S) (Q : Option Value → ds_S → Prop) (h : w_X8_commonDivisor a0 a2 σ Q) : ds_E mt_X8_commonDivisor Yc [.long a0, .long a2] σ Q := by
  refine ds_enter (by decide) (Nat.le_of_ble_eq_true rfl) ?_
  show ds_X mt_X8_commonDivisor Yc 0 [some (.long a0), none, some (.long a2), none, none, none, none] [] σ Q
  unfold w_X8_commonDivisor at h
  refine ds_blk (ls2 := [some (.long a0), none, some (.long a2), none, some (.int (0 : Int32)), none, none]) (st2 := []) (σ2 := σ) ok_X8_commonDivisor 0 2 0 3 [] rfl rfl rfl rfl trivial ?_
  obtain ⟨n, h⟩ := h
  refine x_X8_commonDivisor_3 n a0 a2 (0 : Int32) _ _ _ _ σ Q h
def w_X1_hasBox (a1 : Int32) (σ : ds_S) (Q : Option Value → ds_S → Prop) : Prop := ((a1 < 0 → Q (some (.int (0 : Int32))) σ) ∧ (¬ a1 < 0 → (((σ.1 1 0) ≤ a1 → Q (some (.int (0 : Int32))) σ) ∧ (¬ (σ.1 1 0) ≤ a1 → Q (some (.int (1 : Int32))) σ))))
theorem e_X1_hasBox (a1 : Int32) (σ : ds_S) (Q : Option Value → ds_S → Prop) (h : w_X1_hasBox a1 σ Q) : ds_E mt_X1_hasBox Yc [.ref 1, .int a1] σ Q := by
  refine ds_enter (by decide) (Nat.le_of_ble_eq_true rfl) ?_
  show ds_X mt_X1_hasBox Yc 0 [some (.ref 1), some (.int a1)] [] σ Q
  unfold w_X1_hasBox at h
  refine ds_blk (ls2 := [some (.ref 1), some (.int a1)]) (st2 := [.int a1]) (σ2 := σ) ok_X1_hasBox 0 1 0 1 [] rfl rfl rfl rfl trivial ?_
  refine ds_if_lt (show decode mt_X1_hasBox.2.1 1 = .ok (.ifCond .lt 15, 3) from ds_dec (i := (1, .ifCond .lt 15, 3, 0, 0, 0, .int 0)) ok_X1_hasBox 1 rfl) (t := 16) (by decide) (fun hc => ?_) (fun hc => ?_)
  · replace h := h.1 hc
    refine ds_blk (ls2 := [some (.ref 1), some (.int a1)]) (st2 := [.int (0 : Int32)]) (σ2 := σ) ok_X1_hasBox 8 1 16 17 [] rfl rfl rfl rfl trivial ?_
    exact ds_zret (show decode mt_X1_hasBox.2.1 17 = .ok (.ireturn, 1) from ds_dec (i := (17, .ireturn, 1, 0, 0, 0, .int 0)) ok_X1_hasBox 9 rfl) rfl (by decide) h
  · replace h := h.2 hc
    refine ds_blk (ls2 := [some (.ref 1), some (.int a1)]) (st2 := [.int (σ.1 1 0), .int a1]) (σ2 := σ) ok_X1_hasBox 2 3 4 9 [ds_k Yc 1 1] rfl rfl rfl rfl ⟨⟨by decide, rfl⟩, trivial⟩ ?_
    refine ds_ic_ge (show decode mt_X1_hasBox.2.1 9 = .ok (.if_icmp .ge 7, 3) from ds_dec (i := (9, .if_icmp .ge 7, 3, 0, 0, 0, .int 0)) ok_X1_hasBox 5 rfl) (t := 16) (by decide) (fun hc => ?_) (fun hc => ?_)
    · replace h := h.1 hc
      refine ds_blk (ls2 := [some (.ref 1), some (.int a1)]) (st2 := [.int (0 : Int32)]) (σ2 := σ) ok_X1_hasBox 8 1 16 17 [] rfl rfl rfl rfl trivial ?_
      exact ds_zret (show decode mt_X1_hasBox.2.1 17 = .ok (.ireturn, 1) from ds_dec (i := (17, .ireturn, 1, 0, 0, 0, .int 0)) ok_X1_hasBox 9 rfl) rfl (by decide) h
    · replace h := h.2 hc
      refine ds_blk (ls2 := [some (.ref 1), some (.int a1)]) (st2 := [.int (1 : Int32)]) (σ2 := σ) ok_X1_hasBox 6 1 12 13 [] rfl rfl rfl rfl trivial ?_
      refine ds_goto (show decode mt_X1_hasBox.2.1 13 = .ok (.goto 4, 3) from ds_dec (i := (13, .goto 4, 3, 0, 0, 0, .int 0)) ok_X1_hasBox 7 rfl) (t := 17) (by decide) ?_
      exact ds_zret (show decode mt_X1_hasBox.2.1 17 = .ok (.ireturn, 1) from ds_dec (i := (17, .ireturn, 1, 0, 0, 0, .int 0)) ok_X1_hasBox 9 rfl) rfl (by decide) h
def w_X1_hasLine (a1 : Int32) (σ : ds_S) (Q : Option Value → ds_S → Prop) : Prop := ((a1 < 0 → Q (some (.int (0 : Int32))) σ) ∧ (¬ a1 < 0 → (((σ.1 1 1) ≤ a1 → Q (some (.int (0 : Int32))) σ) ∧ (¬ (σ.1 1 1) ≤ a1 → Q (some (.int (1 : Int32))) σ))))
theorem e_X1_hasLine (a1 : Int32) (σ : ds_S) (Q : Option Value → ds_S → Prop) (h : w_X1_hasLine a1 σ Q) : ds_E mt_X1_hasLine Yc [.ref 1, .int a1] σ Q := by
  refine ds_enter (by decide) (Nat.le_of_ble_eq_true rfl) ?_
  show ds_X mt_X1_hasLine Yc 0 [some (.ref 1), some (.int a1)] [] σ Q
  unfold w_X1_hasLine at h
  refine ds_blk (ls2 := [some (.ref 1), some (.int a1)]) (st2 := [.int a1]) (σ2 := σ) ok_X1_hasLine 0 1 0 1 [] rfl rfl rfl rfl trivial ?_
  refine ds_if_lt (show decode mt_X1_hasLine.2.1 1 = .ok (.ifCond .lt 15, 3) from ds_dec (i := (1, .ifCond .lt 15, 3, 0, 0, 0, .int 0)) ok_X1_hasLine 1 rfl) (t := 16) (by decide) (fun hc => ?_) (fun hc => ?_)
  · replace h := h.1 hc
    refine ds_blk (ls2 := [some (.ref 1), some (.int a1)]) (st2 := [.int (0 : Int32)]) (σ2 := σ) ok_X1_hasLine 8 1 16 17 [] rfl rfl rfl rfl trivial ?_
    exact ds_zret (show decode mt_X1_hasLine.2.1 17 = .ok (.ireturn, 1) from ds_dec (i := (17, .ireturn, 1, 0, 0, 0, .int 0)) ok_X1_hasLine 9 rfl) rfl (by decide) h
  · replace h := h.2 hc
    refine ds_blk (ls2 := [some (.ref 1), some (.int a1)]) (st2 := [.int (σ.1 1 1), .int a1]) (σ2 := σ) ok_X1_hasLine 2 3 4 9 [ds_k Yc 1 1] rfl rfl rfl rfl ⟨⟨by decide, rfl⟩, trivial⟩ ?_
    refine ds_ic_ge (show decode mt_X1_hasLine.2.1 9 = .ok (.if_icmp .ge 7, 3) from ds_dec (i := (9, .if_icmp .ge 7, 3, 0, 0, 0, .int 0)) ok_X1_hasLine 5 rfl) (t := 16) (by decide) (fun hc => ?_) (fun hc => ?_)
    · replace h := h.1 hc
      refine ds_blk (ls2 := [some (.ref 1), some (.int a1)]) (st2 := [.int (0 : Int32)]) (σ2 := σ) ok_X1_hasLine 8 1 16 17 [] rfl rfl rfl rfl trivial ?_
      exact ds_zret (show decode mt_X1_hasLine.2.1 17 = .ok (.ireturn, 1) from ds_dec (i := (17, .ireturn, 1, 0, 0, 0, .int 0)) ok_X1_hasLine 9 rfl) rfl (by decide) h
    · replace h := h.2 hc
      refine ds_blk (ls2 := [some (.ref 1), some (.int a1)]) (st2 := [.int (1 : Int32)]) (σ2 := σ) ok_X1_hasLine 6 1 12 13 [] rfl rfl rfl rfl trivial ?_
      refine ds_goto (show decode mt_X1_hasLine.2.1 13 = .ok (.goto 4, 3) from ds_dec (i := (13, .goto 4, 3, 0, 0, 0, .int 0)) ok_X1_hasLine 7 rfl) (t := 17) (by decide) ?_
      exact ds_zret (show decode mt_X1_hasLine.2.1 17 = .ok (.ireturn, 1) from ds_dec (i := (17, .ireturn, 1, 0, 0, 0, .int 0)) ok_X1_hasLine 9 rfl) rfl (by decide) h
def w_X1_linesThere (a1 : Int32) (σ : ds_S) (Q : Option Value → ds_S → Prop) : Prop := ((¬ a1 = (-1 : Int32) → Q (some (.int (((((1 : Int32) <<< ((σ.1 1 1) &&& 31)) - (1 : Int32)) &&& ((σ.1 1 7) ^^^ (-1 : Int32))) &&& (((1 : Int32) <<< (a1 &&& 31)) ^^^ (-1 : Int32))))) σ) ∧ (a1 = (-1 : Int32) → Q (some (.int ((((1 : Int32) <<< ((σ.1 1 1) &&& 31)) - (1 : Int32)) &&& ((σ.1 1 7) ^^^ (-1 : Int32))))) σ))
theorem e_X1_linesThere (a1 : Int32) (σ : ds_S) (Q : Option Value → ds_S → Prop) (h : w_X1_linesThere a1 σ Q) : ds_E mt_X1_linesThere Yc [.ref 1, .int a1] σ Q := by
  refine ds_enter (by decide) (Nat.le_of_ble_eq_true rfl) ?_
  show ds_X mt_X1_linesThere Yc 0 [some (.ref 1), some (.int a1), none] [] σ Q
  unfold w_X1_linesThere at h
  refine ds_blk (ls2 := [some (.ref 1), some (.int a1), some (.int ((((1 : Int32) <<< ((σ.1 1 1) &&& 31)) - (1 : Int32)) &&& ((σ.1 1 7) ^^^ (-1 : Int32))))]) (st2 := [.int (-1 : Int32), .int a1]) (σ2 := σ) ok_X1_linesThere 0 14 0 18 [ds_k Yc 1 1, ds_k Yc 1 1] rfl rfl rfl rfl ⟨⟨by decide, rfl⟩, ⟨by decide, rfl⟩, trivial⟩ ?_
  refine ds_ic_ne (show decode mt_X1_linesThere.2.1 18 = .ok (.if_icmp .ne 7, 3) from ds_dec (i := (18, .if_icmp .ne 7, 3, 0, 0, 0, .int 0)) ok_X1_linesThere 14 rfl) (t := 25) (by decide) (fun hc => ?_) (fun hc => ?_)
  · replace h := h.1 hc
    refine ds_blk (ls2 := [some (.ref 1), some (.int a1), some (.int ((((1 : Int32) <<< ((σ.1 1 1) &&& 31)) - (1 : Int32)) &&& ((σ.1 1 7) ^^^ (-1 : Int32))))]) (st2 := [.int (((((1 : Int32) <<< ((σ.1 1 1) &&& 31)) - (1 : Int32)) &&& ((σ.1 1 7) ^^^ (-1 : Int32))) &&& (((1 : Int32) <<< (a1 &&& 31)) ^^^ (-1 : Int32)))]) (σ2 := σ) ok_X1_linesThere 17 7 25 32 [] rfl rfl rfl rfl trivial ?_
    exact ds_iret (show decode mt_X1_linesThere.2.1 32 = .ok (.ireturn, 1) from ds_dec (i := (32, .ireturn, 1, 0, 0, 0, .int 0)) ok_X1_linesThere 24 rfl) rfl h
  · replace h := h.2 hc
    refine ds_blk (ls2 := [some (.ref 1), some (.int a1), some (.int ((((1 : Int32) <<< ((σ.1 1 1) &&& 31)) - (1 : Int32)) &&& ((σ.1 1 7) ^^^ (-1 : Int32))))]) (st2 := [.int ((((1 : Int32) <<< ((σ.1 1 1) &&& 31)) - (1 : Int32)) &&& ((σ.1 1 7) ^^^ (-1 : Int32)))]) (σ2 := σ) ok_X1_linesThere 15 1 21 22 [] rfl rfl rfl rfl trivial ?_
    refine ds_goto (show decode mt_X1_linesThere.2.1 22 = .ok (.goto 10, 3) from ds_dec (i := (22, .goto 10, 3, 0, 0, 0, .int 0)) ok_X1_linesThere 16 rfl) (t := 32) (by decide) ?_
    exact ds_iret (show decode mt_X1_linesThere.2.1 32 = .ok (.ireturn, 1) from ds_dec (i := (32, .ireturn, 1, 0, 0, 0, .int 0)) ok_X1_linesThere 24 rfl) rfl h
def w_X2_place (a0 : Int32) (a1 : Int32) (a2 : Int32) (σ : ds_S) (Q : Option Value → ds_S → Prop) : Prop := Q (some (.int (((a0 * (36 : Int32)) + (a1 * (6 : Int32))) + a2))) σ
theorem e_X2_place (a0 : Int32) (a1 : Int32) (a2 : Int32) (σ : ds_S) (Q : Option Value → ds_S → Prop) (h : w_X2_place a0 a1 a2 σ Q) : ds_E mt_X2_place Yc [.int a0, .int a1, .int a2] σ Q := by
  refine ds_enter (by decide) (Nat.le_of_ble_eq_true rfl) ?_
  show ds_X mt_X2_place Yc 0 [some (.int a0), some (.int a1), some (.int a2)] [] σ Q
  unfold w_X2_place at h
  refine ds_blk (ls2 := [some (.int a0), some (.int a1), some (.int a2)]) (st2 := [.int (((a0 * (36 : Int32)) + (a1 * (6 : Int32))) + a2)]) (σ2 := σ) ok_X2_place 0 9 0 11 [] rfl rfl rfl rfl trivial ?_
  exact ds_iret (show decode mt_X2_place.2.1 11 = .ok (.ireturn, 1) from ds_dec (i := (11, .ireturn, 1, 0, 0, 0, .int 0)) ok_X2_place 9 rfl) rfl h
def w_X3_isAboveOne (a0 : Nat) (σ : ds_S) (Q : Option Value → ds_S → Prop) : Prop := ds_k Yc a0 3 ∧ ds_k Yc a0 3 ∧ (((lg_cmp (σ.2 a0 0) ((151200 : Int64) * (σ.1 a0 1).toInt64)) ≤ 0 → Q (some (.int (0 : Int32))) σ) ∧ (¬ (lg_cmp (σ.2 a0 0) ((151200 : Int64) * (σ.1 a0 1).toInt64)) ≤ 0 → Q (some (.int (1 : Int32))) σ))
theorem e_X3_isAboveOne (a0 : Nat) (σ : ds_S) (Q : Option Value → ds_S → Prop) (h : w_X3_isAboveOne a0 σ Q) : ds_E mt_X3_isAboveOne Yc [.ref a0] σ Q := by
  refine ds_enter (by decide) (Nat.le_of_ble_eq_true rfl) ?_
  show ds_X mt_X3_isAboveOne Yc 0 [some (.ref a0)] [] σ Q
  unfold w_X3_isAboveOne at h
  obtain ⟨o1, o2, h⟩ := h
  refine ds_blk (ls2 := [some (.ref a0)]) (st2 := [.int (lg_cmp (σ.2 a0 0) ((151200 : Int64) * (σ.1 a0 1).toInt64))]) (σ2 := σ) ok_X3_isAboveOne 0 8 0 14 [ds_k Yc a0 3, ds_k Yc a0 3] rfl rfl rfl rfl ⟨o1, o2, trivial⟩ ?_
  refine ds_if_le (show decode mt_X3_isAboveOne.2.1 14 = .ok (.ifCond .le 7, 3) from ds_dec (i := (14, .ifCond .le 7, 3, 0, 0, 0, .int 0)) ok_X3_isAboveOne 8 rfl) (t := 21) (by decide) (fun hc => ?_) (fun hc => ?_)
  · replace h := h.1 hc
    refine ds_blk (ls2 := [some (.ref a0)]) (st2 := [.int (0 : Int32)]) (σ2 := σ) ok_X3_isAboveOne 11 1 21 22 [] rfl rfl rfl rfl trivial ?_
    exact ds_zret (show decode mt_X3_isAboveOne.2.1 22 = .ok (.ireturn, 1) from ds_dec (i := (22, .ireturn, 1, 0, 0, 0, .int 0)) ok_X3_isAboveOne 12 rfl) rfl (by decide) h
  · replace h := h.2 hc
    refine ds_blk (ls2 := [some (.ref a0)]) (st2 := [.int (1 : Int32)]) (σ2 := σ) ok_X3_isAboveOne 9 1 17 18 [] rfl rfl rfl rfl trivial ?_
    refine ds_goto (show decode mt_X3_isAboveOne.2.1 18 = .ok (.goto 4, 3) from ds_dec (i := (18, .goto 4, 3, 0, 0, 0, .int 0)) ok_X3_isAboveOne 10 rfl) (t := 22) (by decide) ?_
    exact ds_zret (show decode mt_X3_isAboveOne.2.1 22 = .ok (.ireturn, 1) from ds_dec (i := (22, .ireturn, 1, 0, 0, 0, .int 0)) ok_X3_isAboveOne 12 rfl) rfl (by decide) h
def w_X5_choicesOf (a1 : Int32) (σ : ds_S) (Q : Option Value → ds_S → Prop) : Prop := vp_in a1 10 ∧ (((σ.1 64 a1.toNatClampNeg) ≤ (σ.1 14 6) → Q (some (.int (σ.1 14 6))) σ) ∧ (¬ (σ.1 64 a1.toNatClampNeg) ≤ (σ.1 14 6) → Q (some (.int ((σ.1 14 6) + (1 : Int32)))) σ))
theorem e_X5_choicesOf (a1 : Int32) (σ : ds_S) (Q : Option Value → ds_S → Prop) (h : w_X5_choicesOf a1 σ Q) : ds_E mt_X5_choicesOf Yc [.ref 14, .int a1] σ Q := by
  refine ds_enter (by decide) (Nat.le_of_ble_eq_true rfl) ?_
  show ds_X mt_X5_choicesOf Yc 0 [some (.ref 14), some (.int a1)] [] σ Q
  unfold w_X5_choicesOf at h
  obtain ⟨o1, h⟩ := h
  refine ds_blk (ls2 := [some (.ref 14), some (.int a1)]) (st2 := [.int (σ.1 14 6), .int (σ.1 64 a1.toNatClampNeg)]) (σ2 := σ) ok_X5_choicesOf 0 7 0 13 [ds_k Yc 14 5, ds_k Yc 1 1, ds_k Yc 64 10, vp_in a1 10, ds_k Yc 14 5] rfl rfl rfl rfl ⟨⟨by decide, rfl⟩, ⟨by decide, rfl⟩, ⟨by decide, rfl⟩, o1, ⟨by decide, rfl⟩, trivial⟩ ?_
  refine ds_ic_le (show decode mt_X5_choicesOf.2.1 13 = .ok (.if_icmp .le 12, 3) from ds_dec (i := (13, .if_icmp .le 12, 3, 0, 0, 0, .int 0)) ok_X5_choicesOf 7 rfl) (t := 25) (by decide) (fun hc => ?_) (fun hc => ?_)
  · replace h := h.1 hc
    refine ds_blk (ls2 := [some (.ref 14), some (.int a1)]) (st2 := [.int (σ.1 14 6)]) (σ2 := σ) ok_X5_choicesOf 13 2 25 29 [ds_k Yc 14 5] rfl rfl rfl rfl ⟨⟨by decide, rfl⟩, trivial⟩ ?_
    exact ds_iret (show decode mt_X5_choicesOf.2.1 29 = .ok (.ireturn, 1) from ds_dec (i := (29, .ireturn, 1, 0, 0, 0, .int 0)) ok_X5_choicesOf 15 rfl) rfl h
  · replace h := h.2 hc
    refine ds_blk (ls2 := [some (.ref 14), some (.int a1)]) (st2 := [.int ((σ.1 14 6) + (1 : Int32))]) (σ2 := σ) ok_X5_choicesOf 8 4 16 22 [ds_k Yc 14 5] rfl rfl rfl rfl ⟨⟨by decide, rfl⟩, trivial⟩ ?_
    refine ds_goto (show decode mt_X5_choicesOf.2.1 22 = .ok (.goto 7, 3) from ds_dec (i := (22, .goto 7, 3, 0, 0, 0, .int 0)) ok_X5_choicesOf 12 rfl) (t := 29) (by decide) ?_
    exact ds_iret (show decode mt_X5_choicesOf.2.1 29 = .ok (.ireturn, 1) from ds_dec (i := (29, .ireturn, 1, 0, 0, 0, .int 0)) ok_X5_choicesOf 15 rfl) rfl h
def w_X6_countNets (σ : ds_S) (Q : Option Value → ds_S → Prop) : Prop := (((σ.1 12 2) = 0 → Q (some (.int (1 : Int32))) σ) ∧ (¬ (σ.1 12 2) = 0 → Q (some (.int ((1 : Int32) + (σ.1 1 1)))) σ))
theorem e_X6_countNets (σ : ds_S) (Q : Option Value → ds_S → Prop) (h : w_X6_countNets σ Q) : ds_E mt_X6_countNets Yc [.ref 12] σ Q := by
  refine ds_enter (by decide) (Nat.le_of_ble_eq_true rfl) ?_
  show ds_X mt_X6_countNets Yc 0 [some (.ref 12)] [] σ Q
  unfold w_X6_countNets at h
  refine ds_blk (ls2 := [some (.ref 12)]) (st2 := [.int (σ.1 12 2)]) (σ2 := σ) ok_X6_countNets 0 2 0 4 [ds_k Yc 12 6] rfl rfl rfl rfl ⟨⟨by decide, rfl⟩, trivial⟩ ?_
  refine ds_if_eq (show decode mt_X6_countNets.2.1 4 = .ok (.ifCond .eq 15, 3) from ds_dec (i := (4, .ifCond .eq 15, 3, 0, 0, 0, .int 0)) ok_X6_countNets 2 rfl) (t := 19) (by decide) (fun hc => ?_) (fun hc => ?_)
  · replace h := h.1 hc
    refine ds_blk (ls2 := [some (.ref 12)]) (st2 := [.int (1 : Int32)]) (σ2 := σ) ok_X6_countNets 9 1 19 20 [] rfl rfl rfl rfl trivial ?_
    exact ds_iret (show decode mt_X6_countNets.2.1 20 = .ok (.ireturn, 1) from ds_dec (i := (20, .ireturn, 1, 0, 0, 0, .int 0)) ok_X6_countNets 10 rfl) rfl h
  · replace h := h.2 hc
    refine ds_blk (ls2 := [some (.ref 12)]) (st2 := [.int ((1 : Int32) + (σ.1 1 1))]) (σ2 := σ) ok_X6_countNets 3 5 7 16 [ds_k Yc 12 6, ds_k Yc 1 1] rfl rfl rfl rfl ⟨⟨by decide, rfl⟩, ⟨by decide, rfl⟩, trivial⟩ ?_
    refine ds_goto (show decode mt_X6_countNets.2.1 16 = .ok (.goto 4, 3) from ds_dec (i := (16, .goto 4, 3, 0, 0, 0, .int 0)) ok_X6_countNets 8 rfl) (t := 20) (by decide) ?_
    exact ds_iret (show decode mt_X6_countNets.2.1 20 = .ok (.ireturn, 1) from ds_dec (i := (20, .ireturn, 1, 0, 0, 0, .int 0)) ok_X6_countNets 10 rfl) rfl h
end
section
/-! what the small methods answer -/
def q_in (v lo hi : Int64) : Int32 := if lo ≤ v ∧ v ≤ hi then 1 else 0
def q_rng (x lo hi : Int32) : Int32 := if lo ≤ x ∧ x < hi then 1 else 0
def q_bx (x n : Int32) : Int32 := if 0 ≤ x ∧ x ≤ n - 1 then 1 else 0
def q_gcd (a b : Int64) : Int64 := lN (Nat.gcd a.toInt.toNat b.toInt.toNat)
def q_gt (a b c d : Int64) : Int32 := if c.toInt * b.toInt < a.toInt * d.toInt then 1 else 0
def q_th (aw l mo : Int32) : Int32 := if aw = 0 ∧ l ≠ mo then 1 else 0
def q_bit (b i : Int32) : Int32 := (b >>> (i &&& 31)) &&& 1
def q_onesN (b : Int32) : Nat → Int32
  | 0 => 0
  | k + 1 => q_onesN b k + q_bit b (nI k)
def q_ones (b : Int32) : Int32 := q_onesN b 10
def q_min (a b : Int64) : Int64 := if b < a then b else a
def q_cmp (a b : Int64) : Int32 := if a < b then -1 else if a = b then 0 else 1
def q_wb (b i s : Int32) : Int32 := if s = 0 then b &&& (((1 : Int32) <<< (i &&& 31)) ^^^ (-1)) else b ||| ((1 : Int32) <<< (i &&& 31))
def q_lt (mo m aw : Int32) : Int32 := if mo = -1 then ((((1 : Int32) <<< (m &&& 31)) - 1) &&& (aw ^^^ (-1))) else ((((1 : Int32) <<< (m &&& 31)) - 1) &&& (aw ^^^ (-1))) &&& (((1 : Int32) <<< (mo &&& 31)) ^^^ (-1))
def q_ab (o : Int64) (r : Int32) : Int32 := if 151200 * r.toInt64 < o then 1 else 0
def q_ch (w sp : Int32) : Int32 := if sp < w then sp + 1 else sp
def q_cn (g m : Int32) : Int32 := if g = 0 then 1 else 1 + m
def q_low (u l : Int64) (p : Int32) : Int64 := if p = 0 then u / q_gcd u l else l / q_gcd u l
def q_low0 (u l : Int64) (p : Int32) : Int64 := (if p = 0 then u else l) / (if 0 < q_gcd u l then q_gcd u l else 1)
def q_pair (a b n : Int32) : Int32 := if 0 ≤ a ∧ a < n ∧ 0 ≤ b ∧ b < n ∧ a ≠ b then 1 else 0
theorem nlt32 {a b : Int32} : ¬ a < b ↔ b ≤ a := by rw [fa_lt, fa_le]; omega
theorem nle32 {a b : Int32} : ¬ a ≤ b ↔ b < a := by rw [fa_lt, fa_le]; omega
theorem nlt64 {a b : Int64} : ¬ a < b ↔ b ≤ a := by rw [fa_lt64, fa_le64]; omega
theorem nle64 {a b : Int64} : ¬ a ≤ b ↔ b < a := by rw [fa_lt64, fa_le64]; omega
theorem q_rng_0 {x lo hi : Int32} : q_rng x lo hi = 0 ↔ ¬ (lo ≤ x ∧ x < hi) := by unfold q_rng; split <;> simp_all
theorem q_in_0 {x lo hi : Int64} : q_in x lo hi = 0 ↔ ¬ (lo ≤ x ∧ x ≤ hi) := by unfold q_in; split <;> simp_all
theorem q_bx_0 {x n : Int32} : q_bx x n = 0 ↔ ¬ (0 ≤ x ∧ x ≤ n - 1) := by unfold q_bx; split <;> simp_all
theorem q_th_0 {a l m : Int32} : q_th a l m = 0 ↔ ¬ (a = 0 ∧ l ≠ m) := by unfold q_th; split <;> simp_all
theorem q_gt_0 {a b c d : Int64} : q_gt a b c d = 0 ↔ ¬ (c.toInt * b.toInt < a.toInt * d.toInt) := by unfold q_gt; split <;> simp_all
theorem q_pair_0 {a b n : Int32} : q_pair a b n = 0 ↔ ¬ (0 ≤ a ∧ a < n ∧ 0 ≤ b ∧ b < n ∧ a ≠ b) := by unfold q_pair; split <;> simp_all
theorem sp_X9_in (a b c : Int64) (σ : ds_S) : ds_EI mt_X9_in Ym [.long a, .long b, .long c] σ (fun x σ' => x = q_in a b c ∧ σ' = σ) := by
  refine e_X9_in a b c σ _ ⟨fun h => ⟨_, rfl, ?_, rfl⟩, fun h => ⟨fun h2 => ⟨_, rfl, ?_, rfl⟩, fun h2 => ⟨_, rfl, ?_, rfl⟩⟩⟩
  · unfold q_in; rw [if_neg (fun q => absurd q.1 (nle64.mpr ((lg_cmp_lt _ _).mp h)))]
  · unfold q_in; rw [if_neg (fun q => absurd q.2 (nle64.mpr ((lg_cmp_gt _ _).mp h2)))]
  · unfold q_in; rw [if_pos ⟨nlt64.mp (fun q => h ((lg_cmp_lt _ _).mpr q)), nlt64.mp (fun q => h2 ((lg_cmp_gt _ _).mpr q))⟩]
theorem lN_of_nn {x : Int64} (h : 0 ≤ x) : ∃ n : Nat, n < 2 ^ 63 ∧ x = lN n ∧ x.toInt.toNat = n := by
  obtain ⟨n, h1, h2⟩ := pk_lOf (nlt64.mpr h)
  exact ⟨n, h1, h2, by rw [h2, pk_lT h1]; rfl⟩
theorem pk_lNe0 {n : Nat} (h : n < 2 ^ 63) : lN n = 0 ↔ n = 0 := by
  rw [show (0 : Int64) = lN 0 from rfl, pk_lEQ h (by decide)]
theorem gcd_loop (σ : ds_S) (Q : Option Value → ds_S → Prop) : ∀ (n a b : Nat), b < n → a < 2 ^ 63 → b < 2 ^ 63 → Q (some (.long (lN (Nat.gcd a b)))) σ → w_X9_common_28 n (lN a) (lN b) σ Q := by
  intro n
  induction n with
  | zero => intro a b h; omega
  | succ n ih =>
    intro a b h ha hb hq
    rw [w_X9_common_28]
    simp only [lg_cmp_eq]
    refine ⟨fun h0 => ?_, fun h0 => ?_⟩
    · have : b = 0 := (pk_lNe0 hb).mp h0
      subst this
      simpa using hq
    · have hb0 : b ≠ 0 := fun e => h0 ((pk_lNe0 hb).mpr e)
      refine ⟨h0, ?_⟩
      rw [pk_lRem ha (by omega) hb]
      have hlt : a % b < b := Nat.mod_lt _ (by omega)
      refine ih b (a % b) (by omega) hb (by omega) ?_
      rw [Nat.gcd_comm a b, Nat.gcd_rec b a, Nat.gcd_comm] at hq
      exact hq
theorem sp_X9_common (a b : Int64) (σ : ds_S) (ha : 0 ≤ a) (hb : 0 ≤ b) : ds_EL mt_X9_common Ym [.long a, .long b] σ (fun x σ' => x = q_gcd a b ∧ σ' = σ) := by
  refine e_X9_common a b σ _ ?_
  obtain ⟨n, h1, h2, h3⟩ := lN_of_nn ha
  obtain ⟨k, g1, g2, g3⟩ := lN_of_nn hb
  have go : ∃ n, w_X9_common_28 n a b σ (fun r σ' => ∃ x, r = some (.long x) ∧ x = q_gcd a b ∧ σ' = σ) := by
    refine ⟨k + 1, ?_⟩
    rw [h2, g2]
    refine gcd_loop σ _ (k + 1) n k (by omega) h1 g1 ⟨_, rfl, ?_, rfl⟩
    unfold q_gcd
    rw [← h2, ← g2, h3, g3]
  unfold w_X9_common w_X9_common_12
  simp only [lg_cmp_ge]
  exact ⟨fun _ => ⟨fun _ => go, fun h => absurd hb h⟩, fun h => absurd ha h⟩
theorem sp_X8_commonDivisor (a b : Int64) (σ : ds_S) (ha : 0 ≤ a) (hb : 0 ≤ b) (hbig : b < 562949953421312) : ds_EL mt_X8_commonDivisor Yc [.long a, .long b] σ (fun x σ' => x = q_gcd a b ∧ σ' = σ) := by
  refine e_X8_commonDivisor a b σ _ ?_
  obtain ⟨n, h1, h2, h3⟩ := lN_of_nn ha
  obtain ⟨k, g1, g2, g3⟩ := lN_of_nn hb
  have hk : k < 2 ^ 49 := by
    rw [g2, show (562949953421312 : Int64) = lN 562949953421312 from rfl, pk_lLT g1 (by decide)] at hbig
    exact hbig
  have key : ∀ (j a b s : Nat) (Q : Option Value → ds_S → Prop), b < 2 ^ j → a < 2 ^ 63 → b < 2 ^ 63 → s + 2 * j < 100 → Q (some (.long (lN (Nat.gcd a b)))) σ → ∃ n, w_X8_commonDivisor_3 n (lN a) (lN b) (nI s) σ Q := by
    intro j
    induction j with
    | zero =>
      intro a b s Q h ha hb hs hq
      have : b = 0 := by omega
      subst this
      refine ⟨1, ?_⟩
      rw [w_X8_commonDivisor_3]
      simp only [lg_cmp_eq]
      rw [Nat.gcd_zero_right] at hq
      exact ⟨fun _ => hq, fun _ => ⟨fun _ => hq, fun h0 => absurd rfl h0⟩⟩
    | succ j ih =>
      intro a b s Q h ha hb hs hq
      by_cases hb0 : b = 0
      · subst hb0
        refine ⟨1, ?_⟩
        rw [w_X8_commonDivisor_3]
        simp only [lg_cmp_eq]
        rw [Nat.gcd_zero_right] at hq
        exact ⟨fun _ => hq, fun _ => ⟨fun _ => hq, fun h0 => absurd rfl h0⟩⟩
      · have hr : a % b < b := Nat.mod_lt _ (by omega)
        have s1 : ¬ (100 : Int32) ≤ nI s := nI_ge (b := 100) (by omega) (by decide)
        have s2 : ¬ (100 : Int32) ≤ nI (s + 1) := nI_ge (b := 100) (by omega) (by decide)
        rw [Nat.gcd_comm a b, Nat.gcd_rec b a, Nat.gcd_comm] at hq
        have nb : ¬ lN b = 0 := fun e => hb0 ((pk_lNe0 hb).mp e)
        by_cases hr0 : a % b = 0
        · refine ⟨2, ?_⟩
          rw [w_X8_commonDivisor_3]
          simp only [lg_cmp_eq]
          refine ⟨fun q => absurd q s1, fun _ => ⟨fun q => absurd q nb, fun _ => ⟨nb, ?_⟩⟩⟩
          rw [pk_lRem ha (by omega) hb, hr0, w_X8_commonDivisor_3]
          simp only [lg_cmp_eq]
          rw [hr0, Nat.gcd_zero_right] at hq
          exact ⟨fun _ => hq, fun _ => ⟨fun _ => hq, fun h0 => absurd rfl h0⟩⟩
        · have nr : ¬ lN (a % b) = 0 := fun e => hr0 ((pk_lNe0 (by omega)).mp e)
          have e1 : b % (a % b) < a % b := Nat.mod_lt _ (by omega)
          have hlt : b % (a % b) < 2 ^ j := by
            have e2 : a % b + b % (a % b) ≤ b := by
              have e3 := Nat.div_add_mod b (a % b)
              have e4 : 1 ≤ b / (a % b) := (Nat.le_div_iff_mul_le (by omega)).mpr (by omega)
              have e5 : a % b ≤ (a % b) * (b / (a % b)) := Nat.le_mul_of_pos_right _ (by omega)
              omega
            have e6 : 2 ^ (j + 1) = 2 * 2 ^ j := by rw [Nat.pow_succ]; omega
            omega
          rw [Nat.gcd_comm b (a % b), Nat.gcd_rec (a % b) b, Nat.gcd_comm] at hq
          obtain ⟨n, hn⟩ := ih (a % b) (b % (a % b)) (s + 2) Q hlt (by omega) (by omega) (by omega) hq
          refine ⟨n + 2, ?_⟩
          rw [w_X8_commonDivisor_3]
          simp only [lg_cmp_eq]
          refine ⟨fun q => absurd q s1, fun _ => ⟨fun q => absurd q nb, fun _ => ⟨nb, ?_⟩⟩⟩
          rw [pk_lRem ha (by omega) hb, nI_1, w_X8_commonDivisor_3]
          simp only [lg_cmp_eq]
          refine ⟨fun q => absurd q s2, fun _ => ⟨fun q => absurd q nr, fun _ => ⟨nr, ?_⟩⟩⟩
          rw [pk_lRem hb (by omega) (by omega), nI_1]
          exact hn
  unfold w_X8_commonDivisor
  have := key 49 n k 0 (fun r σ' => ∃ x, r = some (.long x) ∧ x = q_gcd a b ∧ σ' = σ) hk h1 g1 (by omega) ⟨_, rfl, by unfold q_gcd; rw [h3, g3], rfl⟩
  rw [← h2, ← g2] at this
  exact this
theorem gt_loop (σ : ds_S) (Q : Option Value → ds_S → Prop) (K31 : Int64 → Int64 → Int64 → Int64 → Int32 → ds_S → Prop) (K89 : Int32 → Int64 → Int64 → ds_S → Prop)
    (h31 : ∀ p q r s t : Nat, p < 2 ^ 63 → q < 2 ^ 63 → r < 2 ^ 63 → s < 2 ^ 63 → 0 < q → 0 < s → t ≤ 1 → p / q ≠ r / s → (t = 0 ∧ Q (some (.int (if r * q < p * s then 1 else 0))) σ ∨ t = 1 ∧ Q (some (.int (if p * s < r * q then 1 else 0))) σ) → K31 (lN p) (lN q) (lN r) (lN s) (nI t) σ)
    (h89 : ∀ p q r s t : Nat, p < 2 ^ 63 → q < 2 ^ 63 → r < 2 ^ 63 → s < 2 ^ 63 → 0 < q → 0 < s → t ≤ 1 → p / q = r / s → (p % q = 0 ∨ r % s = 0) → (t = 0 ∧ Q (some (.int (if r * q < p * s then 1 else 0))) σ ∨ t = 1 ∧ Q (some (.int (if p * s < r * q then 1 else 0))) σ) → K89 (nI t) (lN (p % q)) (lN (r % s)) σ) :
    ∀ (n p q r s t : Nat), q < n → p < 2 ^ 63 → q < 2 ^ 63 → r < 2 ^ 63 → s < 2 ^ 63 → 0 < q → 0 < s → t ≤ 1 → (t = 0 ∧ Q (some (.int (if r * q < p * s then 1 else 0))) σ ∨ t = 1 ∧ Q (some (.int (if p * s < r * q then 1 else 0))) σ) → w_X9_isGreater_17 n (lN p) (lN q) (lN r) (lN s) (nI t) σ Q K31 K89 := by
  intro n
  induction n with
  | zero => intro p q r s t h; omega
  | succ n ih =>
    intro p q r s t hn hp hq hr hs q0 s0 ht hQ
    have nq : ¬ lN q = 0 := fun e => absurd ((pk_lNe0 hq).mp e) (by omega)
    have ns : ¬ lN s = 0 := fun e => absurd ((pk_lNe0 hs).mp e) (by omega)
    have b1 : p / q < 2 ^ 63 := Nat.lt_of_le_of_lt (Nat.div_le_self _ _) hp
    have b2 : r / s < 2 ^ 63 := Nat.lt_of_le_of_lt (Nat.div_le_self _ _) hr
    have m1 : p % q < q := Nat.mod_lt _ q0
    have m2 : r % s < s := Nat.mod_lt _ s0
    rw [w_X9_isGreater_17]
    simp only [lg_cmp_eq, pk_lDiv hp q0 hq, pk_lDiv hr s0 hs, pk_lEQ b1 b2, pk_lNe0 (n := p % q) (by omega), pk_lNe0 (n := r % s) (by omega)]
    have e1 : lN p - lN (p / q) * lN q = lN (p % q) := by rw [← pk_lDiv hp q0 hq, pk_lRem hp q0 hq]
    have e2 : lN r - lN (r / s) * lN s = lN (r % s) := by rw [← pk_lDiv hr s0 hs, pk_lRem hr s0 hs]
    simp only [e1, e2, pk_lNe0 (n := p % q) (by omega), pk_lNe0 (n := r % s) (by omega)]
    refine ⟨nq, ns, fun hk => ⟨nq, ns, fun h0 => ?_, fun h0 => ⟨fun g0 => ?_, fun g0 => ?_⟩⟩, fun hk => ?_⟩
    · exact h89 p q r s t hp hq hr hs q0 s0 ht hk (Or.inl h0) hQ
    · have hP : p = q * (p / q) + p % q := (Nat.div_add_mod p q).symm
      have hR : r = s * (p / q) + r % s := by rw [hk]; exact (Nat.div_add_mod r s).symm
      have x1 : p * s = q * (p / q) * s + (p % q) * s := by
        rw [← Nat.add_mul, ← hP]
      have x2 : r * q = q * (p / q) * s + (r % s) * q := by
        have : r * q = s * (p / q) * q + (r % s) * q := by rw [← Nat.add_mul, ← hR]
        rw [this]
        congr 1
        rw [Nat.mul_right_comm, Nat.mul_comm s q, Nat.mul_right_comm q]
      have y1 : (r * q < p * s) = ((r % s) * q < (p % q) * s) := by rw [x1, x2]; exact propext (by omega)
      have y2 : (p * s < r * q) = ((p % q) * s < (r % s) * q) := by rw [x1, x2]; exact propext (by omega)
      have z1 : q * (r % s) = (r % s) * q := Nat.mul_comm _ _
      have z2 : s * (p % q) = (p % q) * s := Nat.mul_comm _ _
      refine ⟨fun ht0 => ?_, fun ht0 => ?_⟩
      · have t1 : t = 1 := by
          rcases (show t = 0 ∨ t = 1 by omega) with rfl | rfl
          · exact absurd rfl ht0
          · rfl
        subst t1
        refine ih q (p % q) s (r % s) 0 (by omega) hq (by omega) hs (by omega) (by omega) (by omega) (by omega) (Or.inl ⟨rfl, ?_⟩)
        rcases hQ with ⟨e, _⟩ | ⟨_, hQ⟩
        · omega
        · simp only [y2] at hQ
          rw [z1, z2]
          exact hQ
      · have t1 : t = 0 := by
          rcases (show t = 0 ∨ t = 1 by omega) with rfl | rfl
          · rfl
          · exact absurd ht0 (by decide)
        subst t1
        refine ih q (p % q) s (r % s) 1 (by omega) hq (by omega) hs (by omega) (by omega) (by omega) (by omega) (Or.inr ⟨rfl, ?_⟩)
        rcases hQ with ⟨_, hQ⟩ | ⟨e, _⟩
        · simp only [y1] at hQ
          rw [z1, z2]
          exact hQ
        · omega
    · exact h89 p q r s t hp hq hr hs q0 s0 ht hk (Or.inr g0) hQ
    · exact h31 p q r s t hp hq hr hs q0 s0 ht hk hQ
theorem gt_eq {p q r s : Nat} (hk : p / q = r / s) : ∃ k, p * s = k + (p % q) * s ∧ r * q = k + (r % s) * q := by
  refine ⟨q * (p / q) * s, ?_, ?_⟩
  · rw [← Nat.add_mul, Nat.div_add_mod]
  · have : r * q = s * (r / s) * q + (r % s) * q := by rw [← Nat.add_mul, Nat.div_add_mod]
    rw [this, hk]
    congr 1
    rw [Nat.mul_right_comm, Nat.mul_comm s q, Nat.mul_right_comm q]
theorem gt_quot {p q r s : Nat} (hq : 0 < q) (hs : 0 < s) (h : r / s < p / q) : r * q < p * s := by
  have h1 : r < (r / s + 1) * s := by
    have := Nat.div_add_mod r s
    have h2 := Nat.mod_lt r hs
    rw [Nat.add_mul, Nat.one_mul, Nat.mul_comm]
    omega
  have h3 : (r / s + 1) * s ≤ (p / q) * s := Nat.mul_le_mul_right _ h
  have h4 : (p / q) * q ≤ p := Nat.div_mul_le_self p q
  have h5 : r * q < (p / q) * s * q := Nat.mul_lt_mul_of_pos_right (by omega) hq
  have h6 : (p / q) * s * q = (p / q) * q * s := Nat.mul_right_comm _ _ _
  have h7 : (p / q) * q * s ≤ p * s := Nat.mul_le_mul_right _ h4
  omega
theorem lN_le0 {n : Nat} (h : n < 2 ^ 63) : lN n ≤ 0 ↔ n = 0 := by
  rw [show (0 : Int64) = lN 0 from rfl, pk_lLE h (by decide)]
  omega
theorem wk_X9_isGreater (a b c d : Int64) (σ : ds_S) (Q : Option Value → ds_S → Prop) (ha : 0 ≤ a) (hb : 0 < b) (hc : 0 ≤ c) (hd : 0 < d) (hq0 : Q (some (.int (q_gt a b c d))) σ) : w_X9_isGreater a b c d σ Q := by
  have hb' : 0 ≤ b := by rw [fa_lt64] at hb; rw [fa_le64]; omega
  have hd' : 0 ≤ d := by rw [fa_lt64] at hd; rw [fa_le64]; omega
  obtain ⟨p, hp, ep, tp⟩ := lN_of_nn ha
  obtain ⟨q, hq, eq, tq⟩ := lN_of_nn hb'
  obtain ⟨r, hr, er, tr⟩ := lN_of_nn hc
  obtain ⟨s, hs, es, ts⟩ := lN_of_nn hd'
  have q0 : 0 < q := by rw [eq, show (0 : Int64) = lN 0 from rfl, pk_lLT (by decide) hq] at hb; exact hb
  have s0 : 0 < s := by rw [es, show (0 : Int64) = lN 0 from rfl, pk_lLT (by decide) hs] at hd; exact hd
  have hQ : Q (some (.int (if r * q < p * s then 1 else 0))) σ := by
    have e : (q_gt a b c d) = (if r * q < p * s then 1 else 0) := by
      unfold q_gt
      rw [ep, eq, er, es, pk_lT hp, pk_lT hq, pk_lT hr, pk_lT hs]
      congr 1
      exact propext ⟨fun h => by rw [← Int.natCast_mul, ← Int.natCast_mul] at h; exact Int.ofNat_lt.mp h, fun h => by rw [← Int.natCast_mul, ← Int.natCast_mul]; exact Int.ofNat_lt.mpr h⟩
    rw [← e]
    exact hq0
  unfold w_X9_isGreater
  refine ⟨q + 1, ?_⟩
  rw [ep, eq, er, es]
  refine gt_loop σ _ _ _ ?_ ?_ (q + 1) p q r s 0 (by omega) hp hq hr hs q0 s0 (by omega) (Or.inl ⟨rfl, hQ⟩)
  · intro p q r s t hp hq hr hs q0 s0 ht hne hQ
    have b1 : p / q < 2 ^ 63 := Nat.lt_of_le_of_lt (Nat.div_le_self _ _) hp
    have b2 : r / s < 2 ^ 63 := Nat.lt_of_le_of_lt (Nat.div_le_self _ _) hr
    refine ⟨fun e => absurd ((pk_lNe0 hq).mp e) (by omega), fun e => absurd ((pk_lNe0 hs).mp e) (by omega), ?_⟩
    rw [pk_lDiv hp q0 hq, pk_lDiv hr s0 hs]
    simp only [lg_cmp_le, pk_lLE b1 b2, w_X9_isGreater_50]
    rcases Nat.lt_or_gt_of_ne hne with hlt | hgt
    · have hm := gt_quot s0 q0 hlt
      refine ⟨fun _ => ?_, fun h => absurd (by omega) h⟩
      rcases hQ with ⟨rfl, hQ⟩ | ⟨rfl, hQ⟩
      · rw [if_neg (by omega)] at hQ
        exact ⟨fun _ => hQ, fun h => absurd rfl h⟩
      · rw [if_pos hm] at hQ
        exact ⟨fun h => absurd h (by decide), fun _ => hQ⟩
    · have hm := gt_quot q0 s0 hgt
      refine ⟨fun h => absurd h (by omega), fun _ => ?_⟩
      rcases hQ with ⟨rfl, hQ⟩ | ⟨rfl, hQ⟩
      · rw [if_pos hm] at hQ
        exact ⟨fun h => absurd h (by decide), fun _ => hQ⟩
      · rw [if_neg (by omega)] at hQ
        exact ⟨fun _ => hQ, fun h => absurd rfl h⟩
  · intro p q r s t hp hq hr hs q0 s0 ht hk h0 hQ
    have m1 : p % q < q := Nat.mod_lt _ q0
    have m2 : r % s < s := Nat.mod_lt _ s0
    obtain ⟨k, x1, x2⟩ := gt_eq hk
    unfold w_X9_isGreater_89 w_X9_isGreater_109
    simp only [lg_cmp_eq, lg_cmp_le, pk_lEQ (a := p % q) (b := r % s) (by omega) (by omega), lN_le0 (n := p % q) (by omega)]
    refine ⟨fun h => ?_, fun h => ⟨fun h1 => ?_, fun h1 => ?_⟩⟩
    · have z1 : p % q = 0 := by omega
      have z2 : r % s = 0 := by omega
      rw [z1, Nat.zero_mul] at x1
      rw [z2, Nat.zero_mul] at x2
      rcases hQ with ⟨rfl, hQ⟩ | ⟨rfl, hQ⟩
      · rw [if_neg (by omega)] at hQ; exact hQ
      · rw [if_neg (by omega)] at hQ; exact hQ
    · have z2 : 0 < (r % s) * q := Nat.mul_pos (by omega) q0
      rw [h1, Nat.zero_mul] at x1
      rcases hQ with ⟨rfl, hQ⟩ | ⟨rfl, hQ⟩
      · rw [if_neg (by omega)] at hQ
        exact ⟨fun _ => hQ, fun h => absurd rfl h⟩
      · rw [if_pos (by omega)] at hQ
        exact ⟨fun h => absurd h (by decide), fun _ => hQ⟩
    · have z2 : r % s = 0 := by omega
      have z1 : 0 < (p % q) * s := Nat.mul_pos (by omega) s0
      rw [z2, Nat.zero_mul] at x2
      rcases hQ with ⟨rfl, hQ⟩ | ⟨rfl, hQ⟩
      · rw [if_pos (by omega)] at hQ
        exact ⟨fun h => absurd h (by decide), fun _ => hQ⟩
      · rw [if_neg (by omega)] at hQ
        exact ⟨fun _ => hQ, fun h => absurd rfl h⟩
theorem sp_X9_isGreater (a b c d : Int64) (σ : ds_S) (ha : 0 ≤ a) (hb : 0 < b) (hc : 0 ≤ c) (hd : 0 < d) : ds_EI mt_X9_isGreater Ym [.long a, .long b, .long c, .long d] σ (fun x σ' => x = q_gt a b c d ∧ σ' = σ) :=
  e_X9_isGreater a b c d σ _ (wk_X9_isGreater a b c d σ _ ha hb hc hd ⟨_, rfl, rfl, rfl⟩)
theorem sp_X9_loadOf (a b c : Int32) (σ : ds_S) (h : vp_in (((36 : Int32) * a) + ((6 : Int32) * b) + c) 108) : ds_EI mt_X9_loadOf Ym [.ref 0, .int a, .int b, .int c] σ (fun x σ' => x = σ.1 7 (((36 : Int32) * a) + ((6 : Int32) * b) + c).toNatClampNeg ∧ σ' = σ) :=
  e_X9_loadOf a b c σ _ ⟨h, _, rfl, rfl, rfl⟩
theorem sp_X9_isThere (l : Int32) (σ : ds_S) (h : vp_in l 10) : ds_EI mt_X9_isThere Ym [.ref 0, .int l] σ (fun x σ' => x = q_th (σ.1 6 l.toNatClampNeg) l (σ.1 0 13) ∧ σ' = σ) := by
  refine e_X9_isThere l σ _ ⟨h, fun h1 => ⟨_, rfl, ?_, rfl⟩, fun h1 => ⟨fun h2 => ⟨_, rfl, ?_, rfl⟩, fun h2 => ⟨_, rfl, ?_, rfl⟩⟩⟩
  · unfold q_th; rw [if_neg (fun q => h1 q.1)]
  · unfold q_th; rw [if_neg (fun q => q.2 h2)]
  · unfold q_th; rw [if_pos ⟨h1, h2⟩]
theorem ones_loop (b : Int32) (σ : ds_S) (Q : Option Value → ds_S → Prop) (hq : Q (some (.int (q_ones b))) σ) : ∀ (d k : Nat), k + d = 10 → w_X9_ones_4 (d + 1) b (q_onesN b k) (nI k) σ Q := by
  intro d
  induction d with
  | zero =>
    intro k hk
    obtain rfl : k = 10 := by omega
    rw [w_X9_ones_4]
    exact ⟨fun _ => hq, fun h => absurd (by decide) h⟩
  | succ d ih =>
    intro k hk
    rw [w_X9_ones_4]
    refine ⟨fun h => absurd h (nI_ge (b := 10) (by omega) (by decide)), fun _ => ?_⟩
    have := ih (k + 1) (by omega)
    rw [nI_1]
    exact this
theorem sp_X9_ones (b : Int32) (σ : ds_S) : ds_EI mt_X9_ones Ym [.int b] σ (fun x σ' => x = q_ones b ∧ σ' = σ) :=
  e_X9_ones b σ _ ⟨11, ones_loop b σ _ ⟨_, rfl, rfl, rfl⟩ 10 0 rfl⟩
theorem q_rng_t {x lo hi : Int32} (h : lo ≤ x) (h2 : x < hi) : q_rng x lo hi = 1 := if_pos ⟨h, h2⟩
theorem q_rng_f {x lo hi : Int32} (h : ¬ (lo ≤ x ∧ x < hi)) : q_rng x lo hi = 0 := if_neg h
theorem q_rng_l {x lo hi : Int32} (h : x < lo) : q_rng x lo hi = 0 := if_neg fun q => absurd q.1 (nle32.mpr h)
theorem q_rng_h {x lo hi : Int32} (h : hi ≤ x) : q_rng x lo hi = 0 := if_neg fun q => absurd q.2 (nlt32.mpr h)
theorem sp_J9_min_f86c9 (a b : Int64) (σ : ds_S) : ds_EL mt_J9_min_f86c9 Yc [.long a, .long b] σ (fun x σ' => x = q_min a b ∧ σ' = σ) := by
  refine e_J9_min_f86c9 a b σ _ ⟨fun h => ⟨_, rfl, ?_, rfl⟩, fun h => ⟨_, rfl, ?_, rfl⟩⟩
  · unfold q_min; rw [if_pos ((lg_cmp_gt a b).mp h)]
  · unfold q_min; rw [if_neg (fun q => h ((lg_cmp_gt a b).mpr q))]
theorem sp_J13_compare_74951 (a b : Int64) (σ : ds_S) : ds_EI mt_J13_compare_74951 Yc [.long a, .long b] σ (fun x σ' => x = q_cmp a b ∧ σ' = σ) := by
  refine e_J13_compare_74951 a b σ _ ⟨fun h => ⟨fun h2 => ⟨_, rfl, ?_, rfl⟩, fun h2 => ⟨_, rfl, ?_, rfl⟩⟩, fun h => ⟨_, rfl, ?_, rfl⟩⟩
  · unfold q_cmp; rw [if_neg (nlt64.mpr ((lg_cmp_ge a b).mp h)), if_neg (fun q => h2 ((lg_cmp_eq a b).mpr q))]
  · unfold q_cmp; rw [if_neg (nlt64.mpr ((lg_cmp_ge a b).mp h)), if_pos ((lg_cmp_eq a b).mp h2)]
  · unfold q_cmp; rw [if_pos (nle64.mp (fun q => h ((lg_cmp_ge a b).mpr q)))]
theorem sp_X8_isTable (a : Int32) (σ : ds_S) : ds_EI mt_X8_isTable Yc [.int a] σ (fun x σ' => x = q_rng a 0 3 ∧ σ' = σ) :=
  e_X8_isTable a σ _ ⟨fun h => ⟨_, rfl, (q_rng_l h).symm, rfl⟩, fun h => ⟨fun h2 => ⟨_, rfl, (q_rng_h h2).symm, rfl⟩, fun h2 => ⟨_, rfl, (q_rng_t (nlt32.mp h) (nle32.mp h2)).symm, rfl⟩⟩⟩
theorem le20 {a : Int32} : (20 < a ↔ 21 ≤ a) ∧ (a ≤ 20 ↔ a < 21) := by
  have c2 : (20 : Int32).toInt = 20 := rfl
  have c3 : (21 : Int32).toInt = 21 := rfl
  simp only [fa_lt, fa_le, c2, c3]
  omega
theorem le1 {a : Int32} : (0 ≤ a ∧ a < 2 ↔ a = 0 ∨ a = 1) := by
  have c0 : (0 : Int32).toInt = 0 := rfl
  have c1 : (1 : Int32).toInt = 1 := rfl
  have c2 : (2 : Int32).toInt = 2 := rfl
  simp only [fa_lt, fa_le, fa_eq, c0, c1, c2]
  omega
theorem sp_X8_isWeight (a : Int32) (σ : ds_S) : ds_EI mt_X8_isWeight Yc [.int a] σ (fun x σ' => x = q_rng a 1 21 ∧ σ' = σ) :=
  e_X8_isWeight a σ _ ⟨fun h => ⟨_, rfl, (q_rng_l h).symm, rfl⟩, fun h => ⟨fun h2 => ⟨_, rfl, (q_rng_h (le20.1.mp h2)).symm, rfl⟩, fun h2 => ⟨_, rfl, (q_rng_t (nlt32.mp h) (le20.2.mp (nlt32.mp h2))).symm, rfl⟩⟩⟩
theorem sp_X8_isOneOfTwo (a : Int32) (σ : ds_S) : ds_EI mt_X8_isOneOfTwo Yc [.int a] σ (fun x σ' => x = q_rng a 0 2 ∧ σ' = σ) := by
  refine e_X8_isOneOfTwo a σ _ ⟨fun h => ⟨_, rfl, ?_, rfl⟩, fun h => ⟨fun h2 => ⟨_, rfl, ?_, rfl⟩, fun h2 => ⟨_, rfl, ?_, rfl⟩⟩⟩
  · subst h; rfl
  · exact (q_rng_f (fun q => (le1.mp q).elim h h2)).symm
  · subst h2; rfl
theorem sp_X1_hasBox (a : Int32) (σ : ds_S) : ds_EI mt_X1_hasBox Yc [.ref 1, .int a] σ (fun x σ' => x = q_rng a 0 (σ.1 1 0) ∧ σ' = σ) :=
  e_X1_hasBox a σ _ ⟨fun h => ⟨_, rfl, (q_rng_l h).symm, rfl⟩, fun h => ⟨fun h2 => ⟨_, rfl, (q_rng_h h2).symm, rfl⟩, fun h2 => ⟨_, rfl, (q_rng_t (nlt32.mp h) (nle32.mp h2)).symm, rfl⟩⟩⟩
theorem sp_X1_hasLine (a : Int32) (σ : ds_S) : ds_EI mt_X1_hasLine Yc [.ref 1, .int a] σ (fun x σ' => x = q_rng a 0 (σ.1 1 1) ∧ σ' = σ) :=
  e_X1_hasLine a σ _ ⟨fun h => ⟨_, rfl, (q_rng_l h).symm, rfl⟩, fun h => ⟨fun h2 => ⟨_, rfl, (q_rng_h h2).symm, rfl⟩, fun h2 => ⟨_, rfl, (q_rng_t (nlt32.mp h) (nle32.mp h2)).symm, rfl⟩⟩⟩
theorem sp_X8_bit (a b : Int32) (σ : ds_S) : ds_EI mt_X8_bit Yc [.int a, .int b] σ (fun x σ' => x = q_bit a b ∧ σ' = σ) := e_X8_bit a b σ _ ⟨_, rfl, rfl, rfl⟩
theorem sp_X8_withBit (a b c : Int32) (σ : ds_S) : ds_EI mt_X8_withBit Yc [.int a, .int b, .int c] σ (fun x σ' => x = q_wb a b c ∧ σ' = σ) := by
  refine e_X8_withBit a b c σ _ ⟨fun h => ⟨_, rfl, ?_, rfl⟩, fun h => ⟨_, rfl, ?_, rfl⟩⟩
  · unfold q_wb; rw [if_pos h]
  · unfold q_wb; rw [if_neg h]
theorem sp_X8_pair (a b : Int32) (σ : ds_S) : ds_EI mt_X8_pair Yc [.int a, .int b] σ (fun x σ' => x = (a * (6 : Int32)) + b ∧ σ' = σ) := e_X8_pair a b σ _ ⟨_, rfl, rfl, rfl⟩
theorem sp_X8_slot (a b : Int32) (σ : ds_S) : ds_EI mt_X8_slot Yc [.int a, .int b] σ (fun x σ' => x = ((2 : Int32) * a) + b ∧ σ' = σ) := e_X8_slot a b σ _ ⟨_, rfl, rfl, rfl⟩
theorem sp_X2_place (a b c : Int32) (σ : ds_S) : ds_EI mt_X2_place Yc [.int a, .int b, .int c] σ (fun x σ' => x = ((a * (36 : Int32)) + (b * (6 : Int32))) + c ∧ σ' = σ) := e_X2_place a b c σ _ ⟨_, rfl, rfl, rfl⟩
theorem sp_X1_linesThere (a : Int32) (σ : ds_S) : ds_EI mt_X1_linesThere Yc [.ref 1, .int a] σ (fun x σ' => x = q_lt a (σ.1 1 1) (σ.1 1 7) ∧ σ' = σ) := by
  refine e_X1_linesThere a σ _ ⟨fun h => ⟨_, rfl, ?_, rfl⟩, fun h => ⟨_, rfl, ?_, rfl⟩⟩
  · unfold q_lt; rw [if_neg h]
  · unfold q_lt; rw [if_pos h]
theorem sp_X3_isAboveOne (a : Nat) (σ : ds_S) (h : ds_k Yc a 3) : ds_EI mt_X3_isAboveOne Yc [.ref a] σ (fun x σ' => x = q_ab (σ.2 a 0) (σ.1 a 1) ∧ σ' = σ) := by
  refine e_X3_isAboveOne a σ _ ⟨h, h, fun h1 => ⟨_, rfl, ?_, rfl⟩, fun h1 => ⟨_, rfl, ?_, rfl⟩⟩
  · unfold q_ab; rw [if_neg (nlt64.mpr ((lg_cmp_le _ _).mp h1))]
  · unfold q_ab; rw [if_pos (nle64.mp (fun q => h1 ((lg_cmp_le _ _).mpr q)))]
theorem sp_X5_choicesOf (a : Int32) (σ : ds_S) (h : vp_in a 10) : ds_EI mt_X5_choicesOf Yc [.ref 14, .int a] σ (fun x σ' => x = q_ch (σ.1 64 a.toNatClampNeg) (σ.1 14 6) ∧ σ' = σ) := by
  refine e_X5_choicesOf a σ _ ⟨h, fun h1 => ⟨_, rfl, ?_, rfl⟩, fun h1 => ⟨_, rfl, ?_, rfl⟩⟩
  · unfold q_ch; rw [if_neg (nlt32.mpr h1)]
  · unfold q_ch; rw [if_pos (nle32.mp h1)]
theorem sp_X6_countNets (σ : ds_S) : ds_EI mt_X6_countNets Yc [.ref 12] σ (fun x σ' => x = q_cn (σ.1 12 2) (σ.1 1 1) ∧ σ' = σ) := by
  refine e_X6_countNets σ _ ⟨fun h => ⟨_, rfl, ?_, rfl⟩, fun h => ⟨_, rfl, ?_, rfl⟩⟩
  · unfold q_cn; rw [if_pos h]
  · unfold q_cn; rw [if_neg h]
end
