section
-- ===== PART A: goes FIRST, ahead of the names: the tables' words, and 'selects' of the private methods out of them =====
/-- a private method of a class that the tables say can be made, by its rows of tables_1 -/
def lw_okq (q : MethodName × Nat) : Prop := (q.1.cls ≠ "java/lang/invoke/MethodHandle" ∧ q.1.cls ≠ "java/lang/invoke/VarHandle") ∧ Cond.instantiable q.1.cls q.2 ∈ tables_1 ∧ Cond.privateMethod q.1 ∈ tables_1 ∧ Cond.instanceMethod q.1 ∈ tables_1
theorem lw_p0 : lw_okq (⟨"WayWeights$Ways", "nearest", "(LWayWeights$Net;I)I"⟩, 6) := ⟨⟨by decide +kernel, by decide +kernel⟩, List.mem_of_getElem? (i := 93) (by decide +kernel), List.mem_of_getElem? (i := 400) (by decide +kernel), List.mem_of_getElem? (i := 401) (by decide +kernel)⟩
theorem lw_p1 : lw_okq (⟨"WayWeights$Ways", "comeNearerBy", "(ILWayWeights$Net;[II)V"⟩, 6) := ⟨⟨by decide +kernel, by decide +kernel⟩, List.mem_of_getElem? (i := 93) (by decide +kernel), List.mem_of_getElem? (i := 404) (by decide +kernel), List.mem_of_getElem? (i := 405) (by decide +kernel)⟩
theorem lw_p2 : lw_okq (⟨"WayWeights$Ways", "findNext", "(LWayWeights$Net;[II)V"⟩, 6) := ⟨⟨by decide +kernel, by decide +kernel⟩, List.mem_of_getElem? (i := 93) (by decide +kernel), List.mem_of_getElem? (i := 408) (by decide +kernel), List.mem_of_getElem? (i := 409) (by decide +kernel)⟩
theorem lw_p3 : lw_okq (⟨"WayWeights$Flow", "pass", "(LWayWeights$Net;LWayWeights$Ways;)V"⟩, 2) := ⟨⟨by decide +kernel, by decide +kernel⟩, List.mem_of_getElem? (i := 134) (by decide +kernel), List.mem_of_getElem? (i := 430) (by decide +kernel), List.mem_of_getElem? (i := 431) (by decide +kernel)⟩
theorem lw_p4 : lw_okq (⟨"WayWeights$Flow", "divide", "(LWayWeights$Net;LWayWeights$Ways;IJ)V"⟩, 2) := ⟨⟨by decide +kernel, by decide +kernel⟩, List.mem_of_getElem? (i := 134) (by decide +kernel), List.mem_of_getElem? (i := 434) (by decide +kernel), List.mem_of_getElem? (i := 435) (by decide +kernel)⟩
theorem lw_p5 : lw_okq (⟨"WayWeights$Flow", "collect", "(LWayWeights$Net;[II)Z"⟩, 2) := ⟨⟨by decide +kernel, by decide +kernel⟩, List.mem_of_getElem? (i := 134) (by decide +kernel), List.mem_of_getElem? (i := 465) (by decide +kernel), List.mem_of_getElem? (i := 466) (by decide +kernel)⟩
theorem lw_p6 : lw_okq (⟨"WayWeights", "findPeak", "(I)V"⟩, 9) := ⟨⟨by decide +kernel, by decide +kernel⟩, List.mem_of_getElem? (i := 16) (by decide +kernel), List.mem_of_getElem? (i := 474) (by decide +kernel), List.mem_of_getElem? (i := 475) (by decide +kernel)⟩
theorem lw_p7 : lw_okq (⟨"WayWeights$Seeker", "chooseFree", "()V"⟩, 13) := ⟨⟨by decide +kernel, by decide +kernel⟩, List.mem_of_getElem? (i := 211) (by decide +kernel), List.mem_of_getElem? (i := 545) (by decide +kernel), List.mem_of_getElem? (i := 546) (by decide +kernel)⟩
theorem lw_p8 : lw_okq (⟨"WayWeights$Seeker", "countChoices", "()I"⟩, 13) := ⟨⟨by decide +kernel, by decide +kernel⟩, List.mem_of_getElem? (i := 211) (by decide +kernel), List.mem_of_getElem? (i := 554) (by decide +kernel), List.mem_of_getElem? (i := 555) (by decide +kernel)⟩
theorem lw_p9 : lw_okq (⟨"WayWeights$Seeker", "choicesOf", "(I)I"⟩, 13) := ⟨⟨by decide +kernel, by decide +kernel⟩, List.mem_of_getElem? (i := 211) (by decide +kernel), List.mem_of_getElem? (i := 558) (by decide +kernel), List.mem_of_getElem? (i := 559) (by decide +kernel)⟩
theorem lw_p10 : lw_okq (⟨"WayWeights$Seeker", "choose", "(I)I"⟩, 13) := ⟨⟨by decide +kernel, by decide +kernel⟩, List.mem_of_getElem? (i := 211) (by decide +kernel), List.mem_of_getElem? (i := 562) (by decide +kernel), List.mem_of_getElem? (i := 563) (by decide +kernel)⟩
theorem lw_p11 : lw_okq (⟨"WayWeights$Seeker", "isBetter", "(I)Z"⟩, 13) := ⟨⟨by decide +kernel, by decide +kernel⟩, List.mem_of_getElem? (i := 211) (by decide +kernel), List.mem_of_getElem? (i := 566) (by decide +kernel), List.mem_of_getElem? (i := 567) (by decide +kernel)⟩
theorem lw_p12 : lw_okq (⟨"WayWeights", "refusalOfNews", "(II)I"⟩, 9) := ⟨⟨by decide +kernel, by decide +kernel⟩, List.mem_of_getElem? (i := 16) (by decide +kernel), List.mem_of_getElem? (i := 593) (by decide +kernel), List.mem_of_getElem? (i := 594) (by decide +kernel)⟩
theorem lw_p13 : lw_okq (⟨"WayWeights$News", "learn", "(II)V"⟩, 5) := ⟨⟨by decide +kernel, by decide +kernel⟩, List.mem_of_getElem? (i := 263) (by decide +kernel), List.mem_of_getElem? (i := 601) (by decide +kernel), List.mem_of_getElem? (i := 602) (by decide +kernel)⟩
theorem lw_p14 : lw_okq (⟨"WayWeights$News", "learnSteps", "(IILWayWeights$Ways;)V"⟩, 5) := ⟨⟨by decide +kernel, by decide +kernel⟩, List.mem_of_getElem? (i := 263) (by decide +kernel), List.mem_of_getElem? (i := 607) (by decide +kernel), List.mem_of_getElem? (i := 608) (by decide +kernel)⟩
theorem lw_p15 : lw_okq (⟨"WayWeights$News", "leastRing", "(II)I"⟩, 5) := ⟨⟨by decide +kernel, by decide +kernel⟩, List.mem_of_getElem? (i := 263) (by decide +kernel), List.mem_of_getElem? (i := 614) (by decide +kernel), List.mem_of_getElem? (i := 615) (by decide +kernel)⟩
def lw_privs_1 : List (MethodName × Nat) := [(⟨"WayWeights$Ways", "nearest", "(LWayWeights$Net;I)I"⟩, 6), (⟨"WayWeights$Ways", "comeNearerBy", "(ILWayWeights$Net;[II)V"⟩, 6), (⟨"WayWeights$Ways", "findNext", "(LWayWeights$Net;[II)V"⟩, 6), (⟨"WayWeights$Flow", "pass", "(LWayWeights$Net;LWayWeights$Ways;)V"⟩, 2), (⟨"WayWeights$Flow", "divide", "(LWayWeights$Net;LWayWeights$Ways;IJ)V"⟩, 2), (⟨"WayWeights$Flow", "collect", "(LWayWeights$Net;[II)Z"⟩, 2), (⟨"WayWeights", "findPeak", "(I)V"⟩, 9), (⟨"WayWeights$Seeker", "chooseFree", "()V"⟩, 13), (⟨"WayWeights$Seeker", "countChoices", "()I"⟩, 13), (⟨"WayWeights$Seeker", "choicesOf", "(I)I"⟩, 13), (⟨"WayWeights$Seeker", "choose", "(I)I"⟩, 13), (⟨"WayWeights$Seeker", "isBetter", "(I)Z"⟩, 13), (⟨"WayWeights", "refusalOfNews", "(II)I"⟩, 9), (⟨"WayWeights$News", "learn", "(II)V"⟩, 5), (⟨"WayWeights$News", "learnSteps", "(IILWayWeights$Ways;)V"⟩, 5), (⟨"WayWeights$News", "leastRing", "(II)I"⟩, 5)]
theorem lw_r1 : ∀ q ∈ lw_privs_1, lw_okq q := List.forall_mem_cons.mpr ⟨lw_p0, List.forall_mem_cons.mpr ⟨lw_p1, List.forall_mem_cons.mpr ⟨lw_p2, List.forall_mem_cons.mpr ⟨lw_p3, List.forall_mem_cons.mpr ⟨lw_p4, List.forall_mem_cons.mpr ⟨lw_p5, List.forall_mem_cons.mpr ⟨lw_p6, List.forall_mem_cons.mpr ⟨lw_p7, List.forall_mem_cons.mpr ⟨lw_p8, List.forall_mem_cons.mpr ⟨lw_p9, List.forall_mem_cons.mpr ⟨lw_p10, List.forall_mem_cons.mpr ⟨lw_p11, List.forall_mem_cons.mpr ⟨lw_p12, List.forall_mem_cons.mpr ⟨lw_p13, List.forall_mem_cons.mpr ⟨lw_p14, List.forall_mem_cons.mpr ⟨lw_p15, fun _ h => absurd h List.not_mem_nil⟩⟩⟩⟩⟩⟩⟩⟩⟩⟩⟩⟩⟩⟩⟩⟩
theorem lw_p16 : lw_okq (⟨"WayWeights$News", "hasRing", "(III)Z"⟩, 5) := ⟨⟨by decide +kernel, by decide +kernel⟩, List.mem_of_getElem? (i := 263) (by decide +kernel), List.mem_of_getElem? (i := 618) (by decide +kernel), List.mem_of_getElem? (i := 619) (by decide +kernel)⟩
theorem lw_p17 : lw_okq (⟨"WayWeights$News", "measure", "(II)V"⟩, 5) := ⟨⟨by decide +kernel, by decide +kernel⟩, List.mem_of_getElem? (i := 263) (by decide +kernel), List.mem_of_getElem? (i := 630) (by decide +kernel), List.mem_of_getElem? (i := 631) (by decide +kernel)⟩
theorem lw_p18 : lw_okq (⟨"WayWeights$News", "meetFrom", "(I)V"⟩, 5) := ⟨⟨by decide +kernel, by decide +kernel⟩, List.mem_of_getElem? (i := 263) (by decide +kernel), List.mem_of_getElem? (i := 635) (by decide +kernel), List.mem_of_getElem? (i := 636) (by decide +kernel)⟩
theorem lw_p19 : lw_okq (⟨"WayWeights$News", "leastNearer", "(I)I"⟩, 5) := ⟨⟨by decide +kernel, by decide +kernel⟩, List.mem_of_getElem? (i := 263) (by decide +kernel), List.mem_of_getElem? (i := 647) (by decide +kernel), List.mem_of_getElem? (i := 648) (by decide +kernel)⟩
theorem lw_p20 : lw_okq (⟨"WayWeights", "growByHundredths", "(I)V"⟩, 9) := ⟨⟨by decide +kernel, by decide +kernel⟩, List.mem_of_getElem? (i := 16) (by decide +kernel), List.mem_of_getElem? (i := 665) (by decide +kernel), List.mem_of_getElem? (i := 666) (by decide +kernel)⟩
theorem lw_p21 : lw_okq (⟨"WayWeights", "sumOfLoads", "(I)I"⟩, 9) := ⟨⟨by decide +kernel, by decide +kernel⟩, List.mem_of_getElem? (i := 16) (by decide +kernel), List.mem_of_getElem? (i := 679) (by decide +kernel), List.mem_of_getElem? (i := 680) (by decide +kernel)⟩
theorem lw_p22 : lw_okq (⟨"WayWeightsModel", "isBox", "(I)Z"⟩, 33) := ⟨⟨by decide +kernel, by decide +kernel⟩, List.mem_of_getElem? (i := 683) (by decide +kernel), List.mem_of_getElem? (i := 803) (by decide +kernel), List.mem_of_getElem? (i := 804) (by decide +kernel)⟩
theorem lw_p23 : lw_okq (⟨"WayWeightsModel", "isLine", "(I)Z"⟩, 33) := ⟨⟨by decide +kernel, by decide +kernel⟩, List.mem_of_getElem? (i := 683) (by decide +kernel), List.mem_of_getElem? (i := 813) (by decide +kernel), List.mem_of_getElem? (i := 814) (by decide +kernel)⟩
theorem lw_p24 : lw_okq (⟨"WayWeightsModel", "loadOf", "(III)I"⟩, 33) := ⟨⟨by decide +kernel, by decide +kernel⟩, List.mem_of_getElem? (i := 683) (by decide +kernel), List.mem_of_getElem? (i := 833) (by decide +kernel), List.mem_of_getElem? (i := 834) (by decide +kernel)⟩
theorem lw_p25 : lw_okq (⟨"WayWeightsModel", "findFar", "(I)V"⟩, 33) := ⟨⟨by decide +kernel, by decide +kernel⟩, List.mem_of_getElem? (i := 683) (by decide +kernel), List.mem_of_getElem? (i := 841) (by decide +kernel), List.mem_of_getElem? (i := 842) (by decide +kernel)⟩
theorem lw_p26 : lw_okq (⟨"WayWeightsModel", "isThere", "(I)Z"⟩, 33) := ⟨⟨by decide +kernel, by decide +kernel⟩, List.mem_of_getElem? (i := 683) (by decide +kernel), List.mem_of_getElem? (i := 846) (by decide +kernel), List.mem_of_getElem? (i := 847) (by decide +kernel)⟩
theorem lw_p27 : lw_okq (⟨"WayWeightsModel", "nextOf", "(I)I"⟩, 33) := ⟨⟨by decide +kernel, by decide +kernel⟩, List.mem_of_getElem? (i := 683) (by decide +kernel), List.mem_of_getElem? (i := 854) (by decide +kernel), List.mem_of_getElem? (i := 855) (by decide +kernel)⟩
theorem lw_p28 : lw_okq (⟨"WayWeightsModel", "isNext", "(II)Z"⟩, 33) := ⟨⟨by decide +kernel, by decide +kernel⟩, List.mem_of_getElem? (i := 683) (by decide +kernel), List.mem_of_getElem? (i := 858) (by decide +kernel), List.mem_of_getElem? (i := 859) (by decide +kernel)⟩
theorem lw_p29 : lw_okq (⟨"WayWeightsModel", "goDown", "()V"⟩, 33) := ⟨⟨by decide +kernel, by decide +kernel⟩, List.mem_of_getElem? (i := 683) (by decide +kernel), List.mem_of_getElem? (i := 868) (by decide +kernel), List.mem_of_getElem? (i := 869) (by decide +kernel)⟩
theorem lw_p30 : lw_okq (⟨"WayWeightsModel", "parts", "(I)V"⟩, 33) := ⟨⟨by decide +kernel, by decide +kernel⟩, List.mem_of_getElem? (i := 683) (by decide +kernel), List.mem_of_getElem? (i := 875) (by decide +kernel), List.mem_of_getElem? (i := 876) (by decide +kernel)⟩
theorem lw_p31 : lw_okq (⟨"WayWeightsModel", "findOn", "(I)V"⟩, 33) := ⟨⟨by decide +kernel, by decide +kernel⟩, List.mem_of_getElem? (i := 683) (by decide +kernel), List.mem_of_getElem? (i := 889) (by decide +kernel), List.mem_of_getElem? (i := 890) (by decide +kernel)⟩
def lw_privs_2 : List (MethodName × Nat) := [(⟨"WayWeights$News", "hasRing", "(III)Z"⟩, 5), (⟨"WayWeights$News", "measure", "(II)V"⟩, 5), (⟨"WayWeights$News", "meetFrom", "(I)V"⟩, 5), (⟨"WayWeights$News", "leastNearer", "(I)I"⟩, 5), (⟨"WayWeights", "growByHundredths", "(I)V"⟩, 9), (⟨"WayWeights", "sumOfLoads", "(I)I"⟩, 9), (⟨"WayWeightsModel", "isBox", "(I)Z"⟩, 33), (⟨"WayWeightsModel", "isLine", "(I)Z"⟩, 33), (⟨"WayWeightsModel", "loadOf", "(III)I"⟩, 33), (⟨"WayWeightsModel", "findFar", "(I)V"⟩, 33), (⟨"WayWeightsModel", "isThere", "(I)Z"⟩, 33), (⟨"WayWeightsModel", "nextOf", "(I)I"⟩, 33), (⟨"WayWeightsModel", "isNext", "(II)Z"⟩, 33), (⟨"WayWeightsModel", "goDown", "()V"⟩, 33), (⟨"WayWeightsModel", "parts", "(I)V"⟩, 33), (⟨"WayWeightsModel", "findOn", "(I)V"⟩, 33)]
theorem lw_r2 : ∀ q ∈ lw_privs_2, lw_okq q := List.forall_mem_cons.mpr ⟨lw_p16, List.forall_mem_cons.mpr ⟨lw_p17, List.forall_mem_cons.mpr ⟨lw_p18, List.forall_mem_cons.mpr ⟨lw_p19, List.forall_mem_cons.mpr ⟨lw_p20, List.forall_mem_cons.mpr ⟨lw_p21, List.forall_mem_cons.mpr ⟨lw_p22, List.forall_mem_cons.mpr ⟨lw_p23, List.forall_mem_cons.mpr ⟨lw_p24, List.forall_mem_cons.mpr ⟨lw_p25, List.forall_mem_cons.mpr ⟨lw_p26, List.forall_mem_cons.mpr ⟨lw_p27, List.forall_mem_cons.mpr ⟨lw_p28, List.forall_mem_cons.mpr ⟨lw_p29, List.forall_mem_cons.mpr ⟨lw_p30, List.forall_mem_cons.mpr ⟨lw_p31, fun _ h => absurd h List.not_mem_nil⟩⟩⟩⟩⟩⟩⟩⟩⟩⟩⟩⟩⟩⟩⟩⟩
theorem lw_p32 : lw_okq (⟨"WayWeightsModel", "findWorst", "(I)V"⟩, 33) := ⟨⟨by decide +kernel, by decide +kernel⟩, List.mem_of_getElem? (i := 683) (by decide +kernel), List.mem_of_getElem? (i := 898) (by decide +kernel), List.mem_of_getElem? (i := 899) (by decide +kernel)⟩
theorem lw_p33 : lw_okq (⟨"WayWeightsModel", "findAll", "()V"⟩, 33) := ⟨⟨by decide +kernel, by decide +kernel⟩, List.mem_of_getElem? (i := 683) (by decide +kernel), List.mem_of_getElem? (i := 914) (by decide +kernel), List.mem_of_getElem? (i := 915) (by decide +kernel)⟩
theorem lw_p34 : lw_okq (⟨"WayWeightsModel", "changes", "()I"⟩, 33) := ⟨⟨by decide +kernel, by decide +kernel⟩, List.mem_of_getElem? (i := 683) (by decide +kernel), List.mem_of_getElem? (i := 932) (by decide +kernel), List.mem_of_getElem? (i := 933) (by decide +kernel)⟩
theorem lw_p35 : lw_okq (⟨"WayWeightsModel", "isLesserRow", "()Z"⟩, 33) := ⟨⟨by decide +kernel, by decide +kernel⟩, List.mem_of_getElem? (i := 683) (by decide +kernel), List.mem_of_getElem? (i := 936) (by decide +kernel), List.mem_of_getElem? (i := 937) (by decide +kernel)⟩
theorem lw_p36 : lw_okq (⟨"WayWeightsModel", "whyNot", "(II)I"⟩, 33) := ⟨⟨by decide +kernel, by decide +kernel⟩, List.mem_of_getElem? (i := 683) (by decide +kernel), List.mem_of_getElem? (i := 957) (by decide +kernel), List.mem_of_getElem? (i := 958) (by decide +kernel)⟩
theorem lw_p37 : lw_okq (⟨"WayWeightsModel", "ringOf", "(III)I"⟩, 33) := ⟨⟨by decide +kernel, by decide +kernel⟩, List.mem_of_getElem? (i := 683) (by decide +kernel), List.mem_of_getElem? (i := 961) (by decide +kernel), List.mem_of_getElem? (i := 962) (by decide +kernel)⟩
theorem lw_p38 : lw_okq (⟨"WayWeightsModel", "hasRing", "(IIII)Z"⟩, 33) := ⟨⟨by decide +kernel, by decide +kernel⟩, List.mem_of_getElem? (i := 683) (by decide +kernel), List.mem_of_getElem? (i := 965) (by decide +kernel), List.mem_of_getElem? (i := 966) (by decide +kernel)⟩
theorem lw_p39 : lw_okq (⟨"WayWeightsModel", "addGoes", "(III)V"⟩, 33) := ⟨⟨by decide +kernel, by decide +kernel⟩, List.mem_of_getElem? (i := 683) (by decide +kernel), List.mem_of_getElem? (i := 969) (by decide +kernel), List.mem_of_getElem? (i := 970) (by decide +kernel)⟩
theorem lw_p40 : lw_okq (⟨"WayWeightsModel", "findOff", "(II)V"⟩, 33) := ⟨⟨by decide +kernel, by decide +kernel⟩, List.mem_of_getElem? (i := 683) (by decide +kernel), List.mem_of_getElem? (i := 977) (by decide +kernel), List.mem_of_getElem? (i := 978) (by decide +kernel)⟩
def lw_privs_3 : List (MethodName × Nat) := [(⟨"WayWeightsModel", "findWorst", "(I)V"⟩, 33), (⟨"WayWeightsModel", "findAll", "()V"⟩, 33), (⟨"WayWeightsModel", "changes", "()I"⟩, 33), (⟨"WayWeightsModel", "isLesserRow", "()Z"⟩, 33), (⟨"WayWeightsModel", "whyNot", "(II)I"⟩, 33), (⟨"WayWeightsModel", "ringOf", "(III)I"⟩, 33), (⟨"WayWeightsModel", "hasRing", "(IIII)Z"⟩, 33), (⟨"WayWeightsModel", "addGoes", "(III)V"⟩, 33), (⟨"WayWeightsModel", "findOff", "(II)V"⟩, 33)]
theorem lw_r3 : ∀ q ∈ lw_privs_3, lw_okq q := List.forall_mem_cons.mpr ⟨lw_p32, List.forall_mem_cons.mpr ⟨lw_p33, List.forall_mem_cons.mpr ⟨lw_p34, List.forall_mem_cons.mpr ⟨lw_p35, List.forall_mem_cons.mpr ⟨lw_p36, List.forall_mem_cons.mpr ⟨lw_p37, List.forall_mem_cons.mpr ⟨lw_p38, List.forall_mem_cons.mpr ⟨lw_p39, List.forall_mem_cons.mpr ⟨lw_p40, fun _ h => absurd h List.not_mem_nil⟩⟩⟩⟩⟩⟩⟩⟩⟩
def lw_privs : List (MethodName × Nat) := lw_privs_1 ++ (lw_privs_2 ++ (lw_privs_3))
def lw_tbl : List Cond := k2_sels lw_privs ++ tables_1
theorem lw_privs_ok : ∀ q ∈ lw_privs, lw_okq q := by
  show ∀ q ∈ lw_privs_1 ++ (lw_privs_2 ++ (lw_privs_3)), lw_okq q
  exact List.forall_mem_append.mpr ⟨lw_r1, List.forall_mem_append.mpr ⟨lw_r2, lw_r3⟩⟩

def RX0 : String := "WayWeights$Flow"
def TX0 : u_T := fun k => match k with
  | 0 => ("WayWeights$Flow", "at", "[J", true)
  | _ => ("WayWeights$Flow", "over", "[J", true)
def tyX0 : Nat → FieldType := fun k => match k with
  | 0 => .array .long
  | _ => .array .long
theorem nmX0 : ∀ a, a < 2 → ∀ b, b < 2 → a ≠ b → (TX0 a).2.1 ≠ (TX0 b).2.1 := by decide +kernel
theorem tyX0_ok : ∀ k, k < 2 → parseFieldDescriptor (TX0 k).2.2.1 = some (tyX0 k) := by decide +kernel
def RX1 : String := "WayWeights$Net"
def TX1 : u_T := fun k => match k with
  | 0 => ("WayWeights$Net", "boxes", "I", false)
  | 1 => ("WayWeights$Net", "lines", "I", false)
  | 2 => ("WayWeights$Net", "first", "[I", true)
  | 3 => ("WayWeights$Net", "second", "[I", true)
  | 4 => ("WayWeights$Net", "room", "[I", true)
  | 5 => ("WayWeights$Net", "weight", "[I", true)
  | 6 => ("WayWeights$Net", "still", "I", false)
  | _ => ("WayWeights$Net", "away", "I", false)
def tyX1 : Nat → FieldType := fun k => match k with
  | 0 => .int
  | 1 => .int
  | 2 => .array .int
  | 3 => .array .int
  | 4 => .array .int
  | 5 => .array .int
  | 6 => .int
  | _ => .int
theorem nmX1 : ∀ a, a < 8 → ∀ b, b < 8 → a ≠ b → (TX1 a).2.1 ≠ (TX1 b).2.1 := by decide +kernel
theorem tyX1_ok : ∀ k, k < 8 → parseFieldDescriptor (TX1 k).2.2.1 = some (tyX1 k) := by decide +kernel
def RX2 : String := "WayWeights$News"
def TX2 : u_T := fun k => match k with
  | 0 => ("WayWeights$News", "net", "LWayWeights$Net;", true)
  | 1 => ("WayWeights$News", "routes", "LWayWeights$Routes;", true)
  | 2 => ("WayWeights$News", "trial", "[I", true)
  | 3 => ("WayWeights$News", "steps", "[I", true)
  | _ => ("WayWeights$News", "toGoal", "[I", true)
def tyX2 : Nat → FieldType := fun k => match k with
  | 0 => .object "WayWeights$Net"
  | 1 => .object "WayWeights$Routes"
  | 2 => .array .int
  | 3 => .array .int
  | _ => .array .int
theorem nmX2 : ∀ a, a < 5 → ∀ b, b < 5 → a ≠ b → (TX2 a).2.1 ≠ (TX2 b).2.1 := by decide +kernel
theorem tyX2_ok : ∀ k, k < 5 → parseFieldDescriptor (TX2 k).2.2.1 = some (tyX2 k) := by decide +kernel
def RX3 : String := "WayWeights$Peak"
def TX3 : u_T := fun k => match k with
  | 0 => ("WayWeights$Peak", "over", "J", false)
  | 1 => ("WayWeights$Peak", "room", "I", false)
  | 2 => ("WayWeights$Peak", "line", "I", false)
  | 3 => ("WayWeights$Peak", "way", "I", false)
  | 4 => ("WayWeights$Peak", "table", "I", false)
  | _ => ("WayWeights$Peak", "moreAway", "I", false)
def tyX3 : Nat → FieldType := fun k => match k with
  | 0 => .long
  | 1 => .int
  | 2 => .int
  | 3 => .int
  | 4 => .int
  | _ => .int
theorem nmX3 : ∀ a, a < 6 → ∀ b, b < 6 → a ≠ b → (TX3 a).2.1 ≠ (TX3 b).2.1 := by decide +kernel
theorem tyX3_ok : ∀ k, k < 6 → parseFieldDescriptor (TX3 k).2.2.1 = some (tyX3 k) := by decide +kernel
def RX4 : String := "WayWeights$Routes"
def TX4 : u_T := fun k => match k with
  | _ => ("WayWeights$Routes", "to", "[LWayWeights$Ways;", true)
def tyX4 : Nat → FieldType := fun k => match k with
  | _ => .array (.object "WayWeights$Ways")
theorem nmX4 : ∀ a, a < 1 → ∀ b, b < 1 → a ≠ b → (TX4 a).2.1 ≠ (TX4 b).2.1 := by decide +kernel
theorem tyX4_ok : ∀ k, k < 1 → parseFieldDescriptor (TX4 k).2.2.1 = some (tyX4 k) := by decide +kernel
def RX5 : String := "WayWeights$Seeker"
def TX5 : u_T := fun k => match k with
  | 0 => ("WayWeights$Seeker", "net", "LWayWeights$Net;", true)
  | 1 => ("WayWeights$Seeker", "survey", "LWayWeights$Survey;", true)
  | 2 => ("WayWeights$Seeker", "isDone", "Z", false)
  | 3 => ("WayWeights$Seeker", "changes", "I", false)
  | 4 => ("WayWeights$Seeker", "found", "[I", true)
  | 5 => ("WayWeights$Seeker", "best", "LWayWeights$Peak;", true)
  | 6 => ("WayWeights$Seeker", "span", "I", false)
  | 7 => ("WayWeights$Seeker", "count", "I", false)
  | 8 => ("WayWeights$Seeker", "free", "[I", true)
  | 9 => ("WayWeights$Seeker", "targets", "I", false)
  | 10 => ("WayWeights$Seeker", "hardest", "I", false)
  | 11 => ("WayWeights$Seeker", "trial", "[I", true)
  | _ => ("WayWeights$Seeker", "peak", "LWayWeights$Peak;", true)
def tyX5 : Nat → FieldType := fun k => match k with
  | 0 => .object "WayWeights$Net"
  | 1 => .object "WayWeights$Survey"
  | 2 => .boolean
  | 3 => .int
  | 4 => .array .int
  | 5 => .object "WayWeights$Peak"
  | 6 => .int
  | 7 => .int
  | 8 => .array .int
  | 9 => .int
  | 10 => .int
  | 11 => .array .int
  | _ => .object "WayWeights$Peak"
theorem nmX5 : ∀ a, a < 13 → ∀ b, b < 13 → a ≠ b → (TX5 a).2.1 ≠ (TX5 b).2.1 := by decide +kernel
theorem tyX5_ok : ∀ k, k < 13 → parseFieldDescriptor (TX5 k).2.2.1 = some (tyX5 k) := by decide +kernel
def RX6 : String := "WayWeights$Survey"
def TX6 : u_T := fun k => match k with
  | 0 => ("WayWeights$Survey", "net", "LWayWeights$Net;", true)
  | 1 => ("WayWeights$Survey", "loads", "[[I", true)
  | 2 => ("WayWeights$Survey", "guarded", "Z", false)
  | 3 => ("WayWeights$Survey", "routes", "LWayWeights$Routes;", true)
  | 4 => ("WayWeights$Survey", "flow", "LWayWeights$Flow;", true)
  | _ => ("WayWeights$Survey", "one", "LWayWeights$Peak;", true)
def tyX6 : Nat → FieldType := fun k => match k with
  | 0 => .object "WayWeights$Net"
  | 1 => .array (.array .int)
  | 2 => .boolean
  | 3 => .object "WayWeights$Routes"
  | 4 => .object "WayWeights$Flow"
  | _ => .object "WayWeights$Peak"
theorem nmX6 : ∀ a, a < 6 → ∀ b, b < 6 → a ≠ b → (TX6 a).2.1 ≠ (TX6 b).2.1 := by decide +kernel
theorem tyX6_ok : ∀ k, k < 6 → parseFieldDescriptor (TX6 k).2.2.1 = some (tyX6 k) := by decide +kernel
def RX7 : String := "WayWeights$Ways"
def TX7 : u_T := fun k => match k with
  | 0 => ("WayWeights$Ways", "far", "[I", true)
  | 1 => ("WayWeights$Ways", "order", "[I", true)
  | 2 => ("WayWeights$Ways", "reached", "I", false)
  | 3 => ("WayWeights$Ways", "parts", "[I", true)
  | 4 => ("WayWeights$Ways", "tail", "[I", true)
  | _ => ("WayWeights$Ways", "head", "[I", true)
def tyX7 : Nat → FieldType := fun k => match k with
  | 0 => .array .int
  | 1 => .array .int
  | 2 => .int
  | 3 => .array .int
  | 4 => .array .int
  | _ => .array .int
theorem nmX7 : ∀ a, a < 6 → ∀ b, b < 6 → a ≠ b → (TX7 a).2.1 ≠ (TX7 b).2.1 := by decide +kernel
theorem tyX7_ok : ∀ k, k < 6 → parseFieldDescriptor (TX7 k).2.2.1 = some (tyX7 k) := by decide +kernel
def RX8 : String := "WayWeights"
def TX8 : u_T := fun k => match k with
  | 0 => ("WayWeights", "net", "LWayWeights$Net;", true)
  | 1 => ("WayWeights", "loads", "[[I", true)
  | 2 => ("WayWeights", "routes", "LWayWeights$Routes;", true)
  | 3 => ("WayWeights", "flow", "LWayWeights$Flow;", true)
  | 4 => ("WayWeights", "peak", "LWayWeights$Peak;", true)
  | 5 => ("WayWeights", "survey", "LWayWeights$Survey;", true)
  | 6 => ("WayWeights", "seeker", "LWayWeights$Seeker;", true)
  | 7 => ("WayWeights", "news", "LWayWeights$News;", true)
  | _ => ("WayWeights", "grown", "[I", true)
def tyX8 : Nat → FieldType := fun k => match k with
  | 0 => .object "WayWeights$Net"
  | 1 => .array (.array .int)
  | 2 => .object "WayWeights$Routes"
  | 3 => .object "WayWeights$Flow"
  | 4 => .object "WayWeights$Peak"
  | 5 => .object "WayWeights$Survey"
  | 6 => .object "WayWeights$Seeker"
  | 7 => .object "WayWeights$News"
  | _ => .array .int
theorem nmX8 : ∀ a, a < 9 → ∀ b, b < 9 → a ≠ b → (TX8 a).2.1 ≠ (TX8 b).2.1 := by decide +kernel
theorem tyX8_ok : ∀ k, k < 9 → parseFieldDescriptor (TX8 k).2.2.1 = some (tyX8 k) := by decide +kernel
def RX9 : String := "WayWeightsModel"
def TX9 : u_T := fun k => match k with
  | 0 => ("WayWeightsModel", "boxes", "I", false)
  | 1 => ("WayWeightsModel", "first", "[I", true)
  | 2 => ("WayWeightsModel", "second", "[I", true)
  | 3 => ("WayWeightsModel", "room", "[I", true)
  | 4 => ("WayWeightsModel", "weight", "[I", true)
  | 5 => ("WayWeightsModel", "isStill", "[Z", true)
  | 6 => ("WayWeightsModel", "isAway", "[Z", true)
  | 7 => ("WayWeightsModel", "lines", "I", false)
  | 8 => ("WayWeightsModel", "loads", "[I", true)
  | 9 => ("WayWeightsModel", "isGuarded", "Z", false)
  | 10 => ("WayWeightsModel", "hasSought", "Z", false)
  | 11 => ("WayWeightsModel", "sought", "[I", true)
  | 12 => ("WayWeightsModel", "far", "[I", true)
  | 13 => ("WayWeightsModel", "more", "I", false)
  | 14 => ("WayWeightsModel", "letters", "[J", true)
  | 15 => ("WayWeightsModel", "flow", "[J", true)
  | 16 => ("WayWeightsModel", "flowLower", "J", false)
  | 17 => ("WayWeightsModel", "onUpper", "[J", true)
  | 18 => ("WayWeightsModel", "onLower", "[J", true)
  | 19 => ("WayWeightsModel", "worstUpper", "J", false)
  | 20 => ("WayWeightsModel", "worstLower", "J", false)
  | 21 => ("WayWeightsModel", "worstAt", "I", false)
  | 22 => ("WayWeightsModel", "allUpper", "J", false)
  | 23 => ("WayWeightsModel", "allLower", "J", false)
  | 24 => ("WayWeightsModel", "allTable", "I", false)
  | 25 => ("WayWeightsModel", "allLine", "I", false)
  | 26 => ("WayWeightsModel", "had", "[I", true)
  | 27 => ("WayWeightsModel", "may", "[I", true)
  | 28 => ("WayWeightsModel", "betterUpper", "J", false)
  | 29 => ("WayWeightsModel", "betterLower", "J", false)
  | 30 => ("WayWeightsModel", "goes", "[I", true)
  | 31 => ("WayWeightsModel", "off", "[I", true)
  | _ => ("WayWeightsModel", "kept", "[I", true)
def tyX9 : Nat → FieldType := fun k => match k with
  | 0 => .int
  | 1 => .array .int
  | 2 => .array .int
  | 3 => .array .int
  | 4 => .array .int
  | 5 => .array .boolean
  | 6 => .array .boolean
  | 7 => .int
  | 8 => .array .int
  | 9 => .boolean
  | 10 => .boolean
  | 11 => .array .int
  | 12 => .array .int
  | 13 => .int
  | 14 => .array .long
  | 15 => .array .long
  | 16 => .long
  | 17 => .array .long
  | 18 => .array .long
  | 19 => .long
  | 20 => .long
  | 21 => .int
  | 22 => .long
  | 23 => .long
  | 24 => .int
  | 25 => .int
  | 26 => .array .int
  | 27 => .array .int
  | 28 => .long
  | 29 => .long
  | 30 => .array .int
  | 31 => .array .int
  | _ => .array .int
theorem nmX9 : ∀ a, a < 33 → ∀ b, b < 33 → a ≠ b → (TX9 a).2.1 ≠ (TX9 b).2.1 := by decide +kernel
theorem tyX9_ok : ∀ k, k < 33 → parseFieldDescriptor (TX9 k).2.2.1 = some (tyX9 k) := by decide +kernel
def RJ13 : String := "java/lang/Long"
def RJ9 : String := "java/lang/Math"
def RJ10 : String := "java/lang/System"
def RJ7 : String := "java/util/Arrays"
abbrev vwCl : List vw_C := [(RX0, TX0, 2), (RX1, TX1, 8), (RX2, TX2, 5), (RX3, TX3, 6), (RX4, TX4, 1), (RX5, TX5, 13), (RX6, TX6, 6), (RX7, TX7, 6), (RX8, TX8, 9), (RX9, TX9, 33)]
set_option maxRecDepth 100000 in
theorem inX0 : ∀ w ∈ u_ws RX0 TX0 2, w ∈ lw_tbl := by
  have h : ∀ w ∈ u_ws RX0 TX0 2, w ∈ tables_1 := by decide +kernel
  exact fun w hw => List.mem_append_right _ (h w hw)
set_option maxRecDepth 100000 in
theorem inX1 : ∀ w ∈ u_ws RX1 TX1 8, w ∈ lw_tbl := by
  have h : ∀ w ∈ u_ws RX1 TX1 8, w ∈ tables_1 := by decide +kernel
  exact fun w hw => List.mem_append_right _ (h w hw)
set_option maxRecDepth 100000 in
theorem inX2 : ∀ w ∈ u_ws RX2 TX2 5, w ∈ lw_tbl := by
  have h : ∀ w ∈ u_ws RX2 TX2 5, w ∈ tables_1 := by decide +kernel
  exact fun w hw => List.mem_append_right _ (h w hw)
set_option maxRecDepth 100000 in
theorem inX3 : ∀ w ∈ u_ws RX3 TX3 6, w ∈ lw_tbl := by
  have h : ∀ w ∈ u_ws RX3 TX3 6, w ∈ tables_1 := by decide +kernel
  exact fun w hw => List.mem_append_right _ (h w hw)
set_option maxRecDepth 100000 in
theorem inX4 : ∀ w ∈ u_ws RX4 TX4 1, w ∈ lw_tbl := by
  have h : ∀ w ∈ u_ws RX4 TX4 1, w ∈ tables_1 := by decide +kernel
  exact fun w hw => List.mem_append_right _ (h w hw)
set_option maxRecDepth 100000 in
theorem inX5 : ∀ w ∈ u_ws RX5 TX5 13, w ∈ lw_tbl := by
  have h : ∀ w ∈ u_ws RX5 TX5 13, w ∈ tables_1 := by decide +kernel
  exact fun w hw => List.mem_append_right _ (h w hw)
set_option maxRecDepth 100000 in
theorem inX6 : ∀ w ∈ u_ws RX6 TX6 6, w ∈ lw_tbl := by
  have h : ∀ w ∈ u_ws RX6 TX6 6, w ∈ tables_1 := by decide +kernel
  exact fun w hw => List.mem_append_right _ (h w hw)
set_option maxRecDepth 100000 in
theorem inX7 : ∀ w ∈ u_ws RX7 TX7 6, w ∈ lw_tbl := by
  have h : ∀ w ∈ u_ws RX7 TX7 6, w ∈ tables_1 := by decide +kernel
  exact fun w hw => List.mem_append_right _ (h w hw)
set_option maxRecDepth 100000 in
theorem inX8 : ∀ w ∈ u_ws RX8 TX8 9, w ∈ lw_tbl := by
  have h : ∀ w ∈ u_ws RX8 TX8 9, w ∈ tables_1 := by decide +kernel
  exact fun w hw => List.mem_append_right _ (h w hw)
set_option maxRecDepth 100000 in
theorem inX9 : ∀ w ∈ u_ws RX9 TX9 33, w ∈ lw_tbl := by
  have h : ∀ w ∈ u_ws RX9 TX9 33, w ∈ tables_1 := by decide +kernel
  exact fun w hw => List.mem_append_right _ (h w hw)
end
section
def ds_fc : Nat → List Nat
  | 0 => [3, 3]
  | 1 => [0, 0, 3, 3, 3, 3, 0, 0]
  | 2 => [3, 3, 3, 3, 3]
  | 3 => [1, 0, 0, 0, 0, 0]
  | 4 => [3]
  | 5 => [3, 3, 2, 0, 3, 3, 0, 0, 3, 0, 0, 3, 3]
  | 6 => [3, 3, 2, 3, 3, 3]
  | 7 => [3, 3, 0, 3, 3, 3]
  | 8 => [3, 3, 3, 3, 3, 3, 3, 3, 3]
  | 9 => [0, 3, 3, 3, 3, 3, 3, 0, 3, 2, 2, 3, 3, 0, 3, 3, 1, 3, 3, 1, 1, 0, 1, 1, 0, 0, 3, 3, 1, 1, 3, 3, 3]
  | _ => []
/-! the abstract machine: cells by numbers, ints and longs by cell and slot -/
abbrev ds_S : Type := (Nat → Nat → Int32) × (Nat → Nat → Int64)
abbrev ds_L : Type := List (Option Value)
/-- how many cells; each one's kind (a class below 10; 10 int[], 11 long[], 12 boolean[], 13 Ways[], 14 int[][]); an array's length; where references go -/
abbrev ds_Y : Type := Nat × (Nat → Nat) × (Nat → Nat) × (Nat → Nat → Nat)
/-- an instruction: pc, itself, its length, three numbers, a constant -/
abbrev ds_I : Type := Nat × Instr × Nat × Nat × Nat × Nat × Value
/-- a method: name, bytes, locals, what it returns, its room's frames and locals -/
abbrev ds_M : Type := MethodName × ByteArray × Nat × Option FieldType × Nat × Nat
def ds_v (ad : Nat → Nat) : Value → Value
  | .ref a => .ref (ad a)
  | v => v
def ds_fv (ad : Nat → Nat) (T : Nat → Nat → Nat) (σ : ds_S) (c k : Nat) : Nat → Value
  | 0 => .int (σ.1 c k)
  | 1 => .long (σ.2 c k)
  | 2 => .int (σ.1 c k)
  | _ => .ref (ad (T c k))
def ds_fs (ad : Nat → Nat) (T : Nat → Nat → Nat) (σ : ds_S) (c : Nat) (fc : List Nat) : List Value := (List.range fc.length).map (fun k => ds_fv ad T σ c k (fc.getD k 0))
def ds_e (cy : Nat → ClassId) (ad : Nat → Nat) (Y : ds_Y) (σ : ds_S) (c : Nat) : va_E :=
  if Y.2.1 c < 10 then .inr (Y.2.1 c, ds_fs ad Y.2.2.2 σ c (ds_fc (Y.2.1 c)))
  else if Y.2.1 c = 11 then .inl (cy 11, Y.2.2.1 c, .inr (.inl (σ.2 c)))
  else if Y.2.1 c = 13 ∨ Y.2.1 c = 14 then .inl (cy (Y.2.1 c), Y.2.2.1 c, .inr (.inr (.inr (.inr (fun j => some (ad (Y.2.2.2 c j)))))))
  else .inl (cy (Y.2.1 c), Y.2.2.1 c, .inl (σ.1 c))
def ds_w (cy : Nat → ClassId) (ad : Nat → Nat) (Y : ds_Y) (σ : ds_S) : va_W := (List.range Y.1).map (fun c => (ad c, ds_e cy ad Y σ c))
def ds_ty (cy : Nat → ClassId) : List (ClassId × FieldType) := [(cy 10, .int), (cy 11, .long), (cy 12, .boolean), (cy 13, .object "WayWeights$Ways"), (cy 14, .array .int)]
theorem ds_w_at {cy : Nat → ClassId} {ad : Nat → Nat} {Y : ds_Y} {σ : ds_S} {c : Nat} (h : c < Y.1) : (ds_w cy ad Y σ)[c]? = some (ad c, ds_e cy ad Y σ c) := by
  unfold ds_w
  rw [List.getElem?_map, List.getElem?_range h]
  rfl
theorem ds_w_set {cy : Nat → ClassId} {ad : Nat → Nat} {Y : ds_Y} {σ σ' : ds_S} {c : Nat} {x : va_E} (h : ds_e cy ad Y σ' c = x) (ho : ∀ b, b ≠ c → ds_e cy ad Y σ' b = ds_e cy ad Y σ b) : (ds_w cy ad Y σ).set c (ad c, x) = ds_w cy ad Y σ' := by
  apply List.ext_getElem?
  intro i
  unfold ds_w
  rw [List.getElem?_set]
  by_cases hi : c = i
  · subst hi
    by_cases hl : c < Y.1
    · simp [hl, h]
    · simp [hl]
  · rw [if_neg hi]
    by_cases hl : i < Y.1
    · simp [hl, ho i (fun e => hi e.symm)]
    · simp [hl]
/-- ints of one cell are other ones -/
def ds_si (σ : ds_S) (c : Nat) (r : Nat → Int32) : ds_S := (va_up σ.1 c r, σ.2)
def ds_sl (σ : ds_S) (c : Nat) (r : Nat → Int64) : ds_S := (σ.1, va_up σ.2 c r)
theorem ds_e_si {cy : Nat → ClassId} {ad : Nat → Nat} {Y : ds_Y} {σ : ds_S} {c b : Nat} {r : Nat → Int32} (h : b ≠ c) : ds_e cy ad Y (ds_si σ c r) b = ds_e cy ad Y σ b := by
  have e : va_up σ.1 c r b = σ.1 b := by simp [va_up, h]
  have hf : ∀ k code, ds_fv ad Y.2.2.2 (ds_si σ c r) b k code = ds_fv ad Y.2.2.2 σ b k code := by
    intro k code
    unfold ds_fv ds_si
    rcases code with _ | _ | _ | code <;> simp [e]
  unfold ds_e ds_fs
  simp only [hf]
  simp only [ds_si, e]
theorem ds_e_sl {cy : Nat → ClassId} {ad : Nat → Nat} {Y : ds_Y} {σ : ds_S} {c b : Nat} {r : Nat → Int64} (h : b ≠ c) : ds_e cy ad Y (ds_sl σ c r) b = ds_e cy ad Y σ b := by
  have e : va_up σ.2 c r b = σ.2 b := by simp [va_up, h]
  have hf : ∀ k code, ds_fv ad Y.2.2.2 (ds_sl σ c r) b k code = ds_fv ad Y.2.2.2 σ b k code := by
    intro k code
    unfold ds_fv ds_sl
    rcases code with _ | _ | _ | code <;> simp [e]
  unfold ds_e ds_fs
  simp only [hf]
  simp only [ds_sl, e]
theorem ds_e_obj {cy : Nat → ClassId} {ad : Nat → Nat} {Y : ds_Y} {σ : ds_S} {c ci : Nat} (h : Y.2.1 c = ci) (hi : ci < 10) : ds_e cy ad Y σ c = .inr (ci, ds_fs ad Y.2.2.2 σ c (ds_fc ci)) := by
  unfold ds_e
  rw [h, if_pos hi]
theorem ds_e_int {cy : Nat → ClassId} {ad : Nat → Nat} {Y : ds_Y} {σ : ds_S} {c : Nat} (h : Y.2.1 c = 10) : ds_e cy ad Y σ c = .inl (cy 10, Y.2.2.1 c, .inl (σ.1 c)) := by
  unfold ds_e
  rw [h]
  rfl
theorem ds_e_bool {cy : Nat → ClassId} {ad : Nat → Nat} {Y : ds_Y} {σ : ds_S} {c : Nat} (h : Y.2.1 c = 12) : ds_e cy ad Y σ c = .inl (cy 12, Y.2.2.1 c, .inl (σ.1 c)) := by
  unfold ds_e
  rw [h]
  rfl
theorem ds_e_long {cy : Nat → ClassId} {ad : Nat → Nat} {Y : ds_Y} {σ : ds_S} {c : Nat} (h : Y.2.1 c = 11) : ds_e cy ad Y σ c = .inl (cy 11, Y.2.2.1 c, .inr (.inl (σ.2 c))) := by
  unfold ds_e
  rw [h]
  rfl
theorem ds_e_ways {cy : Nat → ClassId} {ad : Nat → Nat} {Y : ds_Y} {σ : ds_S} {c : Nat} (h : Y.2.1 c = 13) : ds_e cy ad Y σ c = .inl (cy 13, Y.2.2.1 c, .inr (.inr (.inr (.inr (fun j => some (ad (Y.2.2.2 c j))))))) := by
  unfold ds_e
  rw [h]
  rfl
theorem ds_e_rows {cy : Nat → ClassId} {ad : Nat → Nat} {Y : ds_Y} {σ : ds_S} {c : Nat} (h : Y.2.1 c = 14) : ds_e cy ad Y σ c = .inl (cy 14, Y.2.2.1 c, .inr (.inr (.inr (.inr (fun j => some (ad (Y.2.2.2 c j))))))) := by
  unfold ds_e
  rw [h]
  rfl
theorem ds_fs_at {ad : Nat → Nat} {T : Nat → Nat → Nat} {σ : ds_S} {c k code : Nat} {fc : List Nat} (h : fc[k]? = some code) : (ds_fs ad T σ c fc)[k]? = some (ds_fv ad T σ c k code) := by
  have hk : k < fc.length := (List.getElem?_eq_some_iff.mp h).1
  unfold ds_fs
  rw [List.getElem?_map, List.getElem?_range hk]
  simp [List.getD, h]
theorem ds_fs_len {ad : Nat → Nat} {T : Nat → Nat → Nat} {σ : ds_S} {c : Nat} {fc : List Nat} : (ds_fs ad T σ c fc).length = fc.length := by simp [ds_fs]
theorem ds_fs_si {ad : Nat → Nat} {T : Nat → Nat → Nat} {σ : ds_S} {c k code : Nat} {fc : List Nat} {x : Int32} (h : fc[k]? = some code) (hc : code = 0 ∨ code = 2) : ds_fs ad T (ds_si σ c (upd (σ.1 c) k x)) c fc = (ds_fs ad T σ c fc).set k (.int x) := by
  have hk : k < fc.length := (List.getElem?_eq_some_iff.mp h).1
  apply List.ext_getElem?
  intro i
  rw [List.getElem?_set]
  unfold ds_fs
  by_cases hi : k = i
  · subst hi
    have e : fc.getD k 0 = code := by rw [List.getD_eq_getElem?_getD, h]; rfl
    rw [if_pos rfl, List.getElem?_map, List.getElem?_range hk]
    simp only [Option.map_some, e, List.length_map, List.length_range, if_pos hk, Option.some.injEq]
    rcases hc with rfl | rfl <;> simp [ds_fv, ds_si, va_up, upd]
  · have hne : i ≠ k := fun e => hi e.symm
    rw [if_neg hi]
    by_cases hl : i < fc.length
    · rw [List.getElem?_map, List.getElem?_map, List.getElem?_range hl]
      simp only [Option.map_some, Option.some.injEq]
      unfold ds_fv ds_si
      rcases fc.getD i 0 with _ | _ | _ | d <;> simp [va_up, upd, hne]
    · simp [hl]
theorem ds_fs_sl {ad : Nat → Nat} {T : Nat → Nat → Nat} {σ : ds_S} {c k : Nat} {fc : List Nat} {x : Int64} (h : fc[k]? = some 1) : ds_fs ad T (ds_sl σ c (vp_updL (σ.2 c) k x)) c fc = (ds_fs ad T σ c fc).set k (.long x) := by
  have hk : k < fc.length := (List.getElem?_eq_some_iff.mp h).1
  apply List.ext_getElem?
  intro i
  rw [List.getElem?_set]
  unfold ds_fs
  by_cases hi : k = i
  · subst hi
    have e : fc.getD k 0 = 1 := by rw [List.getD_eq_getElem?_getD, h]; rfl
    rw [if_pos rfl, List.getElem?_map, List.getElem?_range hk]
    simp only [Option.map_some, e, List.length_map, List.length_range, if_pos hk, Option.some.injEq]
    simp [ds_fv, ds_sl, va_up, vp_updL]
  · have hne : i ≠ k := fun e => hi e.symm
    rw [if_neg hi]
    by_cases hl : i < fc.length
    · rw [List.getElem?_map, List.getElem?_map, List.getElem?_range hl]
      simp only [Option.map_some, Option.some.injEq]
      unfold ds_fv ds_sl
      rcases fc.getD i 0 with _ | _ | _ | d <;> simp [va_up, vp_updL, hne]
    · simp [hl]
/-! locals -/
def ds_at : ds_L → Nat → Option Value
  | [], _ => none
  | x :: _, 0 => x
  | _ :: r, n + 1 => ds_at r n
/-- what is left of the slot ahead of one that is written -/
def ds_nl : Option Value → Option Value
  | some (.long _) => none
  | some (.double _) => none
  | x => x
def ds_put : ds_L → Nat → Value → ds_L
  | [], _, _ => []
  | _ :: r, 0, v => some v :: r
  | x :: r, 1, v => ds_nl x :: (match r with
    | [] => []
    | _ :: t => some v :: t)
  | x :: r, n + 2, v => x :: ds_put r (n + 1) v
def ds_un : ds_L → Nat → ds_L
  | [], _ => []
  | _ :: r, 0 => none :: r
  | x :: r, n + 1 => x :: ds_un r n
def ds_put2 (ls : ds_L) (i : Nat) (v : Value) : ds_L := ds_un (ds_put ls i v) (i + 1)
def ds_loc (ad : Nat → Nat) (lc : Array Slot) (nL : Nat) (ls : ds_L) : Prop := ls.length = nL ∧ lc.size = nL ∧ lv_wf lc ∧ ∀ i v, ds_at ls i = some v → lc[i]? = some (.val (ds_v ad v))
def ds_pr (ad : Nat → Nat) (ls : ds_L) : List (Nat × Value) := (List.range ls.length).filterMap (fun j => (ds_at ls j).map (fun v => (j, ds_v ad v)))
theorem ds_at_lt {ls : ds_L} {i : Nat} {v : Value} (h : ds_at ls i = some v) : i < ls.length := by
  induction ls generalizing i with
  | nil => simp [ds_at] at h
  | cons x r ih =>
    cases i with
    | zero => simp
    | succ n => simp only [ds_at] at h; simpa using ih h
theorem ds_pr_mem {ad : Nat → Nat} {ls : ds_L} {i : Nat} {v : Value} (h : ds_at ls i = some v) : (i, ds_v ad v) ∈ ds_pr ad ls := by
  refine List.mem_filterMap.mpr ⟨i, List.mem_range.mpr (ds_at_lt h), ?_⟩
  rw [h]
  rfl
theorem ds_pr_of {ad : Nat → Nat} {ls : ds_L} {q : Nat × Value} (h : q ∈ ds_pr ad ls) : ∃ v, ds_at ls q.1 = some v ∧ q.2 = ds_v ad v := by
  obtain ⟨j, -, hj⟩ := List.mem_filterMap.mp h
  cases hv : ds_at ls j with
  | none => rw [hv] at hj; cases hj
  | some v => rw [hv] at hj; cases hj; exact ⟨v, hv, rfl⟩
theorem ds_loc.has {ad : Nat → Nat} {lc : Array Slot} {nL : Nat} {ls : ds_L} (h : ds_loc ad lc nL ls) : lv_has lc nL (ds_pr ad ls) := by
  refine ⟨h.2.1, h.2.2.1, fun q hq => ?_⟩
  obtain ⟨v, h1, h2⟩ := ds_pr_of hq
  rw [h2]
  exact h.2.2.2 _ _ h1
theorem ds_put_len (ls : ds_L) (i : Nat) (v : Value) : (ds_put ls i v).length = ls.length := by
  induction ls generalizing i with
  | nil => cases i <;> rfl
  | cons x r ih =>
    match i with
    | 0 => rfl
    | 1 => cases r <;> rfl
    | n + 2 => simp [ds_put, ih]
theorem ds_un_len (ls : ds_L) (i : Nat) : (ds_un ls i).length = ls.length := by
  induction ls generalizing i with
  | nil => cases i <;> rfl
  | cons x r ih =>
    cases i with
    | zero => rfl
    | succ n => simp [ds_un, ih]
theorem ds_un_at {ls : ds_L} {i j : Nat} {v : Value} (h : ds_at (ds_un ls i) j = some v) : j ≠ i ∧ ds_at ls j = some v := by
  induction ls generalizing i j with
  | nil => cases i <;> simp [ds_un, ds_at] at h
  | cons x r ih =>
    cases i with
    | zero =>
      cases j with
      | zero => simp [ds_un, ds_at] at h
      | succ n => exact ⟨by omega, h⟩
    | succ m =>
      cases j with
      | zero => exact ⟨by omega, h⟩
      | succ n =>
        obtain ⟨h1, h2⟩ := ih (i := m) (j := n) h
        exact ⟨by omega, h2⟩
theorem ds_nl_some {x : Option Value} {v : Value} (h : ds_nl x = some v) : x = some v ∧ v.category = 1 := by
  cases x with
  | none => cases h
  | some w => cases w <;> first | (cases h; exact ⟨rfl, rfl⟩) | (exfalso; cases h)
theorem ds_put_at {ls : ds_L} {i j : Nat} {v w : Value} (h : ds_at (ds_put ls i v) j = some w) : (j = i ∧ w = v) ∨ (j ≠ i ∧ ds_at ls j = some w ∧ ¬ (j + 1 = i ∧ w.category = 2)) := by
  induction ls generalizing i j with
  | nil => cases i <;> cases j <;> simp [ds_put, ds_at] at h
  | cons x r ih =>
    match i with
    | 0 =>
      cases j with
      | zero => left; simp only [ds_put, ds_at, Option.some.injEq] at h; exact ⟨rfl, h.symm⟩
      | succ n => right; exact ⟨by omega, h, by omega⟩
    | 1 =>
      cases j with
      | zero =>
        right
        simp only [ds_put, ds_at] at h
        obtain ⟨h1, h2⟩ := ds_nl_some h
        exact ⟨by omega, h1, by omega⟩
      | succ n =>
        cases r with
        | nil => cases n <;> simp [ds_put, ds_at] at h
        | cons y t =>
          cases n with
          | zero => left; simp only [ds_put, ds_at, Option.some.injEq] at h; exact ⟨rfl, h.symm⟩
          | succ n => right; exact ⟨by omega, h, by omega⟩
    | m + 2 =>
      cases j with
      | zero => right; exact ⟨by omega, h, by omega⟩
      | succ n =>
        rcases ih (i := m + 1) (j := n) h with ⟨h1, h2⟩ | ⟨h1, h2, h3⟩
        · left; exact ⟨by omega, h2⟩
        · right; exact ⟨by omega, h2, fun q => h3 ⟨by omega, q.2⟩⟩
theorem ds_v_cat (ad : Nat → Nat) (v : Value) : (ds_v ad v).category = v.category := by cases v <;> rfl
theorem ds_loc.put {ad : Nat → Nat} {lc lc' : Array Slot} {nL : Nat} {ls : ds_L} {i : Nat} {v : Value} (h : ds_loc ad lc nL ls) (h' : lv_has lc' nL ((i, ds_v ad v) :: (ds_pr ad ls).filter (fun q => !(q.1 == i) && !(q.1 + 1 == i && q.2.category == 2)))) : ds_loc ad lc' nL (ds_put ls i v) := by
  refine ⟨by rw [ds_put_len]; exact h.1, h'.1, h'.2.1, fun j w hj => ?_⟩
  rcases ds_put_at hj with ⟨rfl, rfl⟩ | ⟨h1, h2, h3⟩
  · exact h'.2.2 _ List.mem_cons_self
  · refine h'.2.2 (j, ds_v ad w) (List.mem_cons_of_mem _ (List.mem_filter.mpr ⟨ds_pr_mem h2, ?_⟩))
    simp only [ds_v_cat]
    simp only [Bool.and_eq_true, Bool.not_eq_true', beq_eq_false_iff_ne, Bool.and_eq_false_iff]
    refine ⟨h1, ?_⟩
    by_cases hj1 : j + 1 = i
    · right; exact fun q => h3 ⟨hj1, q⟩
    · left; exact hj1
theorem ds_loc.put2 {ad : Nat → Nat} {lc lc' : Array Slot} {nL : Nat} {ls : ds_L} {i : Nat} {v : Value} (h : ds_loc ad lc nL ls) (h' : lv_has lc' nL ((i, ds_v ad v) :: (ds_pr ad ls).filter (fun q => !(q.1 == i) && (!(q.1 == i + 1) && !(q.1 + 1 == i && q.2.category == 2))))) : ds_loc ad lc' nL (ds_put2 ls i v) := by
  refine ⟨by rw [ds_put2, ds_un_len, ds_put_len]; exact h.1, h'.1, h'.2.1, fun j w hj => ?_⟩
  obtain ⟨h0, hj⟩ := ds_un_at hj
  rcases ds_put_at hj with ⟨rfl, rfl⟩ | ⟨h1, h2, h3⟩
  · exact h'.2.2 _ List.mem_cons_self
  · refine h'.2.2 (j, ds_v ad w) (List.mem_cons_of_mem _ (List.mem_filter.mpr ⟨ds_pr_mem h2, ?_⟩))
    simp only [ds_v_cat]
    simp only [Bool.and_eq_true, Bool.not_eq_true', beq_eq_false_iff_ne, Bool.and_eq_false_iff]
    refine ⟨h1, h0, ?_⟩
    by_cases hj1 : j + 1 = i
    · right; exact fun q => h3 ⟨hj1, q⟩
    · left; exact hj1
/-- the locals with which a method begins -/
def ds_en : List Value → ds_L
  | [] => []
  | v :: vs => if v.category = 2 then some v :: none :: ds_en vs else some v :: ds_en vs
def ds_pad (ls : ds_L) : Nat → ds_L
  | 0 => ls
  | n + 1 => ds_pad (ls ++ [none]) n
end
section
def ds_entry (n : Nat) (as : List Value) : ds_L := ds_en as ++ List.replicate (n - (ds_en as).length) none
theorem ds_at_app {a b : ds_L} {i : Nat} {v : Value} (h : ds_at (a ++ b) i = some v) (hb : ∀ j w, ds_at b j ≠ some w) : ds_at a i = some v := by
  induction a generalizing i with
  | nil => exact absurd h (hb i v)
  | cons x r ih =>
    cases i with
    | zero => exact h
    | succ n => exact ih h
theorem ds_at_none (n j : Nat) (w : Value) : ds_at (List.replicate n none) j ≠ some w := by
  induction n generalizing j with
  | zero => simp [ds_at]
  | succ n ih =>
    cases j with
    | zero => simp [ds_at, List.replicate]
    | succ j => exact ih j
theorem ds_en_at {ad : Nat → Nat} {as : List Value} {i k : Nat} {v : Value} (h : ds_at (ds_en as) i = some v) : (k + i, ds_v ad v) ∈ lv_args k (as.map (ds_v ad)) := by
  induction as generalizing i k with
  | nil => simp [ds_en, ds_at] at h
  | cons a r ih =>
    have hc := ds_v_cat ad a
    by_cases ha : a.category = 2
    · simp only [ds_en, if_pos ha] at h
      simp only [List.map_cons, lv_args, hc, if_pos ha]
      match i with
      | 0 => simp only [ds_at, Option.some.injEq] at h; subst h; exact List.mem_cons_self
      | 1 => simp [ds_at] at h
      | i + 2 =>
        have := ih (i := i) (k := k + 2) h
        rw [show k + (i + 2) = k + 2 + i by omega]
        exact List.mem_cons_of_mem _ this
    · simp only [ds_en, if_neg ha] at h
      simp only [List.map_cons, lv_args, hc, if_neg ha]
      match i with
      | 0 => simp only [ds_at, Option.some.injEq] at h; subst h; exact List.mem_cons_self
      | i + 1 =>
        have := ih (i := i) (k := k + 1) h
        rw [show k + (i + 1) = k + 1 + i by omega]
        exact List.mem_cons_of_mem _ this
theorem ds_en_len (ad : Nat → Nat) (as : List Value) : (ds_en as).length = (lg_sl (as.map (ds_v ad))).length := by
  induction as with
  | nil => rfl
  | cons a r ih =>
    have hc := ds_v_cat ad a
    by_cases ha : a.category = 2
    · simp only [ds_en, if_pos ha, List.map_cons, lg_sl, List.flatMap_cons, hc, List.length_append, List.length_cons] at ih ⊢
      simp [ih]; omega
    · simp only [ds_en, if_neg ha, List.map_cons, lg_sl, List.flatMap_cons, hc, List.length_append, List.length_cons] at ih ⊢
      simp [ih]; omega
theorem ds_loc_entry (ad : Nat → Nat) (as : List Value) {n : Nat} (h : (ds_en as).length ≤ n) : ds_loc ad ((lg_sl (as.map (ds_v ad)) ++ List.replicate (n - (lg_sl (as.map (ds_v ad))).length) Slot.unset).toArray) n (ds_entry n as) := by
  have h2 : (lg_sl (as.map (ds_v ad))).length ≤ n := by rw [← ds_en_len ad as]; exact h
  obtain ⟨e1, e2, e3⟩ := lv_entry (as.map (ds_v ad)) h2
  refine ⟨by simp [ds_entry]; omega, e1, e2, fun i v hi => ?_⟩
  have h3 := ds_en_at (ad := ad) (k := 0) (ds_at_app hi (ds_at_none _))
  rw [Nat.zero_add] at h3
  exact e3 _ h3
/-! the words -/
def ds_T : List Cond := lw_tbl.filter goodWord
def ds_N : List (String × Nat × MethodName) := [("WayWeights$Routes", 39, ⟨"WayWeights", "bit", "(II)I"⟩), ("WayWeights$Flow", 46, ⟨"WayWeights", "pair", "(II)I"⟩), ("WayWeights$Peak", 41, ⟨"WayWeights", "slot", "(II)I"⟩), ("WayWeights$Survey", 61, ⟨"WayWeights", "bit", "(II)I"⟩), ("WayWeights$Seeker", 107, ⟨"WayWeights", "bit", "(II)I"⟩)]
def ds_nest (U : State) : Prop := ∀ q ∈ ds_N, va_Nw (.methodLinkNest q.1 q.2.1 q.2.2 "WayWeights") U
theorem ds_nest.warm {s U : State} (hW : s.WarmedH U.vm) (h : ds_nest s) : ds_nest U := fun q hq => va_Nw.warmM hW (h q hq)
theorem ds_nest.same {s U : State} (hW : s.vm = U.vm) (h : ds_nest s) : ds_nest U := fun q hq => va_Nw.same rfl hW (h q hq)
theorem ds_T_of {i : Nat} {w : Cond} (h : lw_tbl[i]? = some w) (hg : goodWord w = true) : w ∈ ds_T := List.mem_filter.mpr ⟨List.mem_of_getElem? h, hg⟩
theorem ds_T_good {y : MethodName} {b : ByteArray} {n : Nat} {r : Option FieldType} (h : Cond.code y b n r ∈ ds_T) : GoodIn ds_T (.code y b n r :: ds_T) := by
  intro w hw
  have hw2 : w ∈ ds_T := by
    rcases List.mem_cons.mp hw with rfl | h2
    · exact h
    · exact h2
  exact ⟨hw2, good_of_word (List.mem_filter.mp hw2).2⟩
def ds_ws (y : ds_M) : List Cond := .code y.1 y.2.1 y.2.2.1 y.2.2.2.1 :: ds_T
def ds_rm (y : ds_M) : Room := { frames := y.2.2.2.2.1, cells := 0, slots := 0, locals := y.2.2.2.2.2 }
/-- what holds all through a method's run -/
def ds_C (y : ds_M) (p : Program) (s : State) (m : MethodId) (args : Array Value) (meth : Method) (c : Code) (cy : Nat → ClassId) (dC : Nat → ClassId) (dI : Nat → Nat → Nat) (A : Nat → Prop) : Prop :=
  p.tables.exec = Jvm.exec ∧ c.code = y.2.1 ∧ c.maxLocals = y.2.2.1 ∧ meth.sig.returnType = y.2.2.2.1 ∧ meth.locks = false ∧ (∀ w ∈ ds_T, w.before args s = true) ∧ s.vm.findClass y.1.cls = some m.cls ∧ va_K (dC, dI) vwCl (ds_ty cy) s ∧ ds_nest s ∧ ∀ q, s.heap.size ≤ q → A q
def ds_B (cy : Nat → ClassId) (dC : Nat → ClassId) (dI : Nat → Nat → Nat) (ad : Nat → Nat) (A : Nat → Prop) (Y : ds_Y) (σ : ds_S) (t : State) : Prop :=
  va_P (dC, dI) vwCl (ds_w cy ad Y σ) t.heap ∧ va_K (dC, dI) vwCl (ds_ty cy) t ∧ va_D A (ds_w cy ad Y σ)
def ds_Q (ret : Option FieldType) (Q : Option Value → ds_S → Prop) (cy : Nat → ClassId) (dC : Nat → ClassId) (dI : Nat → Nat → Nat) (ad : Nat → Nat) (A : Nat → Prop) (Y : ds_Y) : Array Value → State → Outcome → State → Prop := match ret with
  | none => va_Qv (fun σ => Q none σ) (ds_B cy dC dI ad A Y) A
  | some .long => va_Ql (fun r σ => Q (some (.long r)) σ) (ds_B cy dC dI ad A Y) A
  | some (.object _) => va_Qr (fun u : ds_S × Nat => Q (some (.ref u.2)) u.1) (fun u a t => a = ad u.2 ∧ ds_B cy dC dI ad A Y u.1 t) A
  | some _ => va_Qi (fun r σ => Q (some (.int r)) σ) (ds_B cy dC dI ad A Y) A
/-- from here on the method comes to its end, with Q -/
def ds_X (y : ds_M) (Y : ds_Y) (pc : Nat) (ls : ds_L) (st : List Value) (σ : ds_S) (Q : Option Value → ds_S → Prop) : Prop :=
  ∀ (p : Program) (l : Launch) (e : Env) (s : State) (m : MethodId) (args : Array Value) (below : List Frame) (meth : Method) (c : Code) (cy : Nat → ClassId) (dC : Nat → ClassId) (dI : Nat → Nat → Nat) (ad : Nat → Nat) (A : Nat → Prop),
    ds_C y p s m args meth c cy dC dI A → ∀ (H : Heap) (locs : List Loc), va_P (dC, dI) vwCl (ds_w cy ad Y σ) H → va_D A (ds_w cy ad Y σ) → va_S A s.heap H locs → ∀ lc : Array Slot, ds_loc ad lc y.2.2.1 ls →
    W p l e (ds_rm y) s m args below meth c H locs 0 0 (MQ below (ds_Q y.2.2.2.1 Q cy dC dI ad A Y) args s 0 0 A) (F0 m pc lc (st.map (ds_v ad)))
def ds_Pc (as : List Value) (cy : Nat → ClassId) (dC : Nat → ClassId) (dI : Nat → Nat → Nat) (ad : Nat → Nat) (Y : ds_Y) (σ : ds_S) (sz : Nat) : Array Value → State → Prop :=
  va_Pc (as.map (ds_v ad)) (fun U => U.heap.size = sz ∧ va_P (dC, dI) vwCl (ds_w cy ad Y σ) U.heap ∧ va_K (dC, dI) vwCl (ds_ty cy) U ∧ ds_nest U ∧ va_D (fun _ => True) (ds_w cy ad Y σ))
/-- a method's contract: called so, it comes back with Q -/
def ds_E (y : ds_M) (Y : ds_Y) (as : List Value) (σ : ds_S) (Q : Option Value → ds_S → Prop) : Prop :=
  ∀ (l : Launch) (cy : Nat → ClassId) (dC : Nat → ClassId) (dI : Nat → Nat → Nat) (ad : Nat → Nat) (sz : Nat),
    Met l y.1 (ds_ws y) (ds_rm y) (ds_Pc as cy dC dI ad Y σ sz) (ds_Q y.2.2.2.1 Q cy dC dI ad (va_A (ds_w cy ad Y σ) sz) Y) 0 0 (va_A (ds_w cy ad Y σ) sz)
theorem ds_Q_mono {ret : Option FieldType} {Q Q' : Option Value → ds_S → Prop} {cy : Nat → ClassId} {dC : Nat → ClassId} {dI : Nat → Nat → Nat} {ad : Nat → Nat} {A : Nat → Prop} {Y : ds_Y} (h : ∀ r σ, Q r σ → Q' r σ) {a : Array Value} {s : State} {o : Outcome} {t : State} (hq : ds_Q ret Q cy dC dI ad A Y a s o t) : ds_Q ret Q' cy dC dI ad A Y a s o t := by
  unfold ds_Q at hq ⊢
  split at hq
  · obtain ⟨⟨u, h1, h2, h3⟩, h4⟩ := hq; exact ⟨⟨u, h1, h _ _ h2, h3⟩, h4⟩
  · obtain ⟨⟨r, u, h1, h2, h3⟩, h4⟩ := hq; exact ⟨⟨r, u, h1, h _ _ h2, h3⟩, h4⟩
  · obtain ⟨⟨r, u, h1, h2, h3⟩, h4⟩ := hq; exact ⟨⟨r, u, h1, h _ _ h2, h3⟩, h4⟩
  · obtain ⟨⟨r, u, h1, h2, h3⟩, h4⟩ := hq; exact ⟨⟨r, u, h1, h _ _ h2, h3⟩, h4⟩
theorem ds_E.mono {y : ds_M} {Y : ds_Y} {as : List Value} {σ : ds_S} {Q Q' : Option Value → ds_S → Prop} (hE : ds_E y Y as σ Q) (h : ∀ r σ, Q r σ → Q' r σ) : ds_E y Y as σ Q' := by
  intro l cy dC dI ad sz p e h1 h2 h3 s m args below h4 h5 h6 h7
  obtain ⟨n, o, g1, g2, g3, g4, g5⟩ := hE l cy dC dI ad sz p e h1 h2 h3 s m args below h4 h5 h6 h7
  exact ⟨n, o, g1, g2, g3, ds_Q_mono h g4, g5⟩
/-- a contract out of the run of its body -/
theorem ds_enter {y : ds_M} {Y : ds_Y} {as : List Value} {σ : ds_S} {Q : Option Value → ds_S → Prop} (hy : plainName y.1.cls = true) (hn : (ds_en as).length ≤ y.2.2.1) (h : ds_X y Y 0 (ds_entry y.2.2.1 as) [] σ Q) : ds_E y Y as σ Q := by
  intro l cy dC dI ad sz
  refine Met.ofW (cc := y.2.1) (maxL := y.2.2.1) (ret := y.2.2.2.1) (ws' := ds_T) hy rfl ?_
  intro p e s m args below meth c s₁ B hml hv
  obtain ⟨rfl, hsz, hP, hK, hN, hD0⟩ := hv
  have hts := atoms_spec (ws := ds_ws y) B.pre
  have hown : s.vm.findClass y.1.cls = some m.cls := findClass_of_methodNamed B.named
  subst hsz
  have hD := hD0.self (sz := s.heap.size)
  have hA : ∀ q : Nat, s.heap.size ≤ q → va_A (ds_w cy ad Y σ) s.heap.size q := fun q h => Or.inr h
  rw [lg_entry_eq]
  exact h p l e s m _ below meth c cy dC dI ad _ ⟨B.exec, B.bytes, hml, B.returns, B.notSynchronized, fun w hw => hts w (List.mem_cons_of_mem _ hw), hown, hK, hN, hA⟩ s.heap [] hP hD va_S.rf _ (ds_loc_entry ad as hn)
end
section
section DSX
variable {y : ds_M} {Y : ds_Y} {pc : Nat} {ls : ds_L} {st : List Value} {σ : ds_S} {Q : Option Value → ds_S → Prop}
/-- an instruction that leaves heap and locals -/
theorem ds_x1 {pc' : Nat} {st' : List Value} (hk : ds_X y Y pc' ls st' σ Q)
    (h : ∀ (p : Program) (l : Launch) (e : Env) (s : State) (m : MethodId) (args : Array Value) (below : List Frame) (meth : Method) (c : Code) (ad : Nat → Nat) (H : Heap) (locs : List Loc) (lc : Array Slot) (R : State → Prop), p.tables.exec = Jvm.exec → c.code = y.2.1 → ds_loc ad lc y.2.2.1 ls → s.vm.findClass y.1.cls = some m.cls → (∀ w ∈ ds_T, w.before args s = true) → W p l e (ds_rm y) s m args below meth c H locs 0 0 R (F0 m pc' lc (st'.map (ds_v ad))) → W p l e (ds_rm y) s m args below meth c H locs 0 0 R (F0 m pc lc (st.map (ds_v ad)))) : ds_X y Y pc ls st σ Q := by
  intro p l e s m args below meth c cy dC dI ad A C H locs hP hD hS lc hl
  exact h p l e s m args below meth c ad H locs lc _ C.1 C.2.1 hl C.2.2.2.2.2.2.1 C.2.2.2.2.2.1 (hk p l e s m args below meth c cy dC dI ad A C H locs hP hD hS lc hl)
theorem ds_iconst {n : Int} {v : Int32} (hd : decode y.2.1 pc = .ok (.iconst n, 1)) (hv : Int32.ofInt n = v) (k : ds_X y Y (pc + 1) ls (.int v :: st) σ Q) : ds_X y Y pc ls st σ Q :=
  ds_x1 k fun _ _ _ _ _ _ _ _ _ _ _ _ _ _ hx hb _ _ _ kk => lv_iconst hx hb hd hv kk
theorem ds_bipush {n : Int} {v : Int32} (hd : decode y.2.1 pc = .ok (.bipush n, 2)) (hv : (Int8.ofInt n).toInt32 = v) (k : ds_X y Y (pc + 2) ls (.int v :: st) σ Q) : ds_X y Y pc ls st σ Q :=
  ds_x1 k fun _ _ _ _ _ _ _ _ _ _ _ _ _ _ hx hb _ _ _ kk => lv_bipush hx hb hd hv kk
theorem ds_sipush {n : Int} {v : Int32} (hd : decode y.2.1 pc = .ok (.sipush n, 3)) (hv : (Int16.ofInt n).toInt32 = v) (k : ds_X y Y (pc + 3) ls (.int v :: st) σ Q) : ds_X y Y pc ls st σ Q :=
  ds_x1 k fun _ _ _ _ _ _ _ _ _ _ _ _ _ _ hx hb _ _ _ kk => lv_sipush hx hb hd hv kk
theorem ds_lconst {n : Fin 2} {v : Int64} (hd : decode y.2.1 pc = .ok (.lconst n, 1)) (hv : Int64.ofNat (n : Nat) = v) (k : ds_X y Y (pc + 1) ls (.long v :: st) σ Q) : ds_X y Y pc ls st σ Q :=
  ds_x1 k fun _ _ _ _ _ _ _ _ _ _ _ _ _ _ hx hb _ _ _ kk => lv_lconst hx hb hd hv kk
theorem ds_ldc {n : Nat} {v : Int32} (hd : decode y.2.1 pc = .ok (.ldc n, 2)) (hv : Cond.constant y.1.cls n v ∈ ds_T) (k : ds_X y Y (pc + 2) ls (.int v :: st) σ Q) : ds_X y Y pc ls st σ Q :=
  ds_x1 k fun _ _ _ _ _ _ _ _ _ _ _ _ _ _ hx hb _ ho ht kk => lv_ldc hx hb ho (ht _ hv) hd kk
theorem ds_ldc2 {n : Nat} {v : Int64} (hd : decode y.2.1 pc = .ok (.ldc2_w n, 3)) (hv : Cond.constantLong y.1.cls n v ∈ ds_T) (k : ds_X y Y (pc + 3) ls (.long v :: st) σ Q) : ds_X y Y pc ls st σ Q :=
  ds_x1 k fun _ _ _ _ _ _ _ _ _ _ _ _ _ _ hx hb _ ho ht kk => lv_ldc2 hx hb ho (ht _ hv) hd kk
theorem ds_iload {n : Nat} {x : Int32} (hd : decode y.2.1 pc = .ok (.iload n, 2)) (hv : ds_at ls n = some (.int x)) (k : ds_X y Y (pc + 2) ls (.int x :: st) σ Q) : ds_X y Y pc ls st σ Q :=
  ds_x1 k fun _ _ _ _ _ _ _ _ _ _ _ _ _ _ hx hb hl _ _ kk => lv_iload hx hb hd (hl.2.2.2 _ _ hv) kk
theorem ds_iload_n {n : Fin 4} {x : Int32} (hd : decode y.2.1 pc = .ok (.iload_n n, 1)) (hv : ds_at ls n = some (.int x)) (k : ds_X y Y (pc + 1) ls (.int x :: st) σ Q) : ds_X y Y pc ls st σ Q :=
  ds_x1 k fun _ _ _ _ _ _ _ _ _ _ _ _ _ _ hx hb hl _ _ kk => lv_iload_n hx hb hd rfl (hl.2.2.2 _ _ hv) kk
theorem ds_lload {n : Nat} {x : Int64} (hd : decode y.2.1 pc = .ok (.lload n, 2)) (hv : ds_at ls n = some (.long x)) (k : ds_X y Y (pc + 2) ls (.long x :: st) σ Q) : ds_X y Y pc ls st σ Q :=
  ds_x1 k fun _ _ _ _ _ _ _ _ _ _ _ _ _ _ hx hb hl _ _ kk => lv_lload hx hb hd (hl.2.2.2 _ _ hv) kk
theorem ds_lload_n {n : Fin 4} {x : Int64} (hd : decode y.2.1 pc = .ok (.lload_n n, 1)) (hv : ds_at ls n = some (.long x)) (k : ds_X y Y (pc + 1) ls (.long x :: st) σ Q) : ds_X y Y pc ls st σ Q :=
  ds_x1 k fun _ _ _ _ _ _ _ _ _ _ _ _ _ _ hx hb hl _ _ kk => lv_lload_n hx hb hd rfl (hl.2.2.2 _ _ hv) kk
theorem ds_aload {n : Nat} {x : Nat} (hd : decode y.2.1 pc = .ok (.aload n, 2)) (hv : ds_at ls n = some (.ref x)) (k : ds_X y Y (pc + 2) ls (.ref x :: st) σ Q) : ds_X y Y pc ls st σ Q :=
  ds_x1 k fun _ _ _ _ _ _ _ _ _ _ _ _ _ _ hx hb hl _ _ kk => lv_aload hx hb hd (hl.2.2.2 _ _ hv) kk
theorem ds_aload_n {n : Fin 4} {x : Nat} (hd : decode y.2.1 pc = .ok (.aload_n n, 1)) (hv : ds_at ls n = some (.ref x)) (k : ds_X y Y (pc + 1) ls (.ref x :: st) σ Q) : ds_X y Y pc ls st σ Q :=
  ds_x1 k fun _ _ _ _ _ _ _ _ _ _ _ _ _ _ hx hb hl _ _ kk => lv_aload_n hx hb hd rfl (hl.2.2.2 _ _ hv) kk
theorem ds_iadd {x z : Int32} (hd : decode y.2.1 pc = .ok (.iadd, 1)) (k : ds_X y Y (pc + 1) ls (.int (x + z) :: st) σ Q) : ds_X y Y pc ls (.int z :: .int x :: st) σ Q :=
  ds_x1 k fun _ _ _ _ _ _ _ _ _ _ _ _ _ _ hx hb _ _ _ kk => lv_iadd hx hb hd kk
theorem ds_isub {x z : Int32} (hd : decode y.2.1 pc = .ok (.isub, 1)) (k : ds_X y Y (pc + 1) ls (.int (x - z) :: st) σ Q) : ds_X y Y pc ls (.int z :: .int x :: st) σ Q :=
  ds_x1 k fun _ _ _ _ _ _ _ _ _ _ _ _ _ _ hx hb _ _ _ kk => lv_isub hx hb hd kk
theorem ds_imul {x z : Int32} (hd : decode y.2.1 pc = .ok (.imul, 1)) (k : ds_X y Y (pc + 1) ls (.int (x * z) :: st) σ Q) : ds_X y Y pc ls (.int z :: .int x :: st) σ Q :=
  ds_x1 k fun _ _ _ _ _ _ _ _ _ _ _ _ _ _ hx hb _ _ _ kk => lv_imul hx hb hd kk
theorem ds_iand {x z : Int32} (hd : decode y.2.1 pc = .ok (.iand, 1)) (k : ds_X y Y (pc + 1) ls (.int (x &&& z) :: st) σ Q) : ds_X y Y pc ls (.int z :: .int x :: st) σ Q :=
  ds_x1 k fun _ _ _ _ _ _ _ _ _ _ _ _ _ _ hx hb _ _ _ kk => lv_iand hx hb hd kk
theorem ds_ior {x z : Int32} (hd : decode y.2.1 pc = .ok (.ior, 1)) (k : ds_X y Y (pc + 1) ls (.int (x ||| z) :: st) σ Q) : ds_X y Y pc ls (.int z :: .int x :: st) σ Q :=
  ds_x1 k fun _ _ _ _ _ _ _ _ _ _ _ _ _ _ hx hb _ _ _ kk => lv_ior hx hb hd kk
theorem ds_ixor {x z : Int32} (hd : decode y.2.1 pc = .ok (.ixor, 1)) (k : ds_X y Y (pc + 1) ls (.int (x ^^^ z) :: st) σ Q) : ds_X y Y pc ls (.int z :: .int x :: st) σ Q :=
  ds_x1 k fun _ _ _ _ _ _ _ _ _ _ _ _ _ _ hx hb _ _ _ kk => lv_ixor hx hb hd kk
theorem ds_ishl {x z : Int32} (hd : decode y.2.1 pc = .ok (.ishl, 1)) (k : ds_X y Y (pc + 1) ls (.int (x <<< (z &&& 31)) :: st) σ Q) : ds_X y Y pc ls (.int z :: .int x :: st) σ Q :=
  ds_x1 k fun _ _ _ _ _ _ _ _ _ _ _ _ _ _ hx hb _ _ _ kk => lv_ishl hx hb hd kk
theorem ds_ishr {x z : Int32} (hd : decode y.2.1 pc = .ok (.ishr, 1)) (k : ds_X y Y (pc + 1) ls (.int (x >>> (z &&& 31)) :: st) σ Q) : ds_X y Y pc ls (.int z :: .int x :: st) σ Q :=
  ds_x1 k fun _ _ _ _ _ _ _ _ _ _ _ _ _ _ hx hb _ _ _ kk => lv_ishr hx hb hd kk
theorem ds_ladd {x z : Int64} (hd : decode y.2.1 pc = .ok (.ladd, 1)) (k : ds_X y Y (pc + 1) ls (.long (x + z) :: st) σ Q) : ds_X y Y pc ls (.long z :: .long x :: st) σ Q :=
  ds_x1 k fun _ _ _ _ _ _ _ _ _ _ _ _ _ _ hx hb _ _ _ kk => lv_ladd hx hb hd kk
theorem ds_lsub {x z : Int64} (hd : decode y.2.1 pc = .ok (.lsub, 1)) (k : ds_X y Y (pc + 1) ls (.long (x - z) :: st) σ Q) : ds_X y Y pc ls (.long z :: .long x :: st) σ Q :=
  ds_x1 k fun _ _ _ _ _ _ _ _ _ _ _ _ _ _ hx hb _ _ _ kk => lv_lsub hx hb hd kk
theorem ds_lmul {x z : Int64} (hd : decode y.2.1 pc = .ok (.lmul, 1)) (k : ds_X y Y (pc + 1) ls (.long (x * z) :: st) σ Q) : ds_X y Y pc ls (.long z :: .long x :: st) σ Q :=
  ds_x1 k fun _ _ _ _ _ _ _ _ _ _ _ _ _ _ hx hb _ _ _ kk => lv_lmul hx hb hd kk
theorem ds_idiv {x z : Int32} (hd : decode y.2.1 pc = .ok (.idiv, 1)) (hz : ¬ z = 0) (k : ds_X y Y (pc + 1) ls (.int (x / z) :: st) σ Q) : ds_X y Y pc ls (.int z :: .int x :: st) σ Q :=
  ds_x1 k fun _ _ _ _ _ _ _ _ _ _ _ _ _ _ hx hb _ _ _ kk => lv_idiv hx hb hd hz kk
theorem ds_irem {x z : Int32} (hd : decode y.2.1 pc = .ok (.irem, 1)) (hz : ¬ z = 0) (k : ds_X y Y (pc + 1) ls (.int (x - x / z * z) :: st) σ Q) : ds_X y Y pc ls (.int z :: .int x :: st) σ Q :=
  ds_x1 k fun _ _ _ _ _ _ _ _ _ _ _ _ _ _ hx hb _ _ _ kk => lv_irem hx hb hd hz kk
theorem ds_ldiv {x z : Int64} (hd : decode y.2.1 pc = .ok (.ldiv, 1)) (hz : ¬ z = 0) (k : ds_X y Y (pc + 1) ls (.long (x / z) :: st) σ Q) : ds_X y Y pc ls (.long z :: .long x :: st) σ Q :=
  ds_x1 k fun _ _ _ _ _ _ _ _ _ _ _ _ _ _ hx hb _ _ _ kk => lv_ldiv hx hb hd hz kk
theorem ds_lrem {x z : Int64} (hd : decode y.2.1 pc = .ok (.lrem, 1)) (hz : ¬ z = 0) (k : ds_X y Y (pc + 1) ls (.long (x - x / z * z) :: st) σ Q) : ds_X y Y pc ls (.long z :: .long x :: st) σ Q :=
  ds_x1 k fun _ _ _ _ _ _ _ _ _ _ _ _ _ _ hx hb _ _ _ kk => lv_lrem hx hb hd hz kk
theorem ds_lcmp {x z : Int64} (hd : decode y.2.1 pc = .ok (.lcmp, 1)) (k : ds_X y Y (pc + 1) ls (.int (lg_cmp x z) :: st) σ Q) : ds_X y Y pc ls (.long z :: .long x :: st) σ Q :=
  ds_x1 k fun _ _ _ _ _ _ _ _ _ _ _ _ _ _ hx hb _ _ _ kk => W.lcmp hx hb hd kk
theorem ds_ineg {x : Int32} (hd : decode y.2.1 pc = .ok (.ineg, 1)) (k : ds_X y Y (pc + 1) ls (.int (-x) :: st) σ Q) : ds_X y Y pc ls (.int x :: st) σ Q :=
  ds_x1 k fun _ _ _ _ _ _ _ _ _ _ _ _ _ _ hx hb _ _ _ kk => lv_ineg hx hb hd kk
theorem ds_lneg {x : Int64} (hd : decode y.2.1 pc = .ok (.lneg, 1)) (k : ds_X y Y (pc + 1) ls (.long (-x) :: st) σ Q) : ds_X y Y pc ls (.long x :: st) σ Q :=
  ds_x1 k fun _ _ _ _ _ _ _ _ _ _ _ _ _ _ hx hb _ _ _ kk => lv_lneg hx hb hd kk
theorem ds_i2l {x : Int32} (hd : decode y.2.1 pc = .ok (.i2l, 1)) (k : ds_X y Y (pc + 1) ls (.long x.toInt64 :: st) σ Q) : ds_X y Y pc ls (.int x :: st) σ Q :=
  ds_x1 k fun _ _ _ _ _ _ _ _ _ _ _ _ _ _ hx hb _ _ _ kk => lv_i2l hx hb hd rfl kk
theorem ds_l2i {x : Int64} (hd : decode y.2.1 pc = .ok (.l2i, 1)) (k : ds_X y Y (pc + 1) ls (.int x.toInt32 :: st) σ Q) : ds_X y Y pc ls (.long x :: st) σ Q :=
  ds_x1 k fun _ _ _ _ _ _ _ _ _ _ _ _ _ _ hx hb _ _ _ kk => lv_l2i hx hb hd rfl kk
theorem ds_dup {v : Value} (hd : decode y.2.1 pc = .ok (.dup, 1)) (hv : v.category = 1) (k : ds_X y Y (pc + 1) ls (v :: v :: st) σ Q) : ds_X y Y pc ls (v :: st) σ Q :=
  ds_x1 k fun _ _ _ _ _ _ _ _ _ ad _ _ _ _ hx hb _ _ _ kk => lv_dup hx hb hd ((ds_v_cat ad v).trans hv) kk
theorem ds_dup2 {v w : Value} (hd : decode y.2.1 pc = .ok (.dup2, 1)) (hv : v.category = 1) (hw : w.category = 1) (k : ds_X y Y (pc + 1) ls (v :: w :: v :: w :: st) σ Q) : ds_X y Y pc ls (v :: w :: st) σ Q :=
  ds_x1 k fun _ _ _ _ _ _ _ _ _ ad _ _ _ _ hx hb _ _ _ kk => lv_dup2_11 hx hb hd ((ds_v_cat ad v).trans hv) ((ds_v_cat ad w).trans hw) kk
theorem ds_goto {off : Int} {t : Nat} (hd : decode y.2.1 pc = .ok (.goto off, 3)) (ht : (pc : Int) + off = (t : Int)) (k : ds_X y Y t ls st σ Q) : ds_X y Y pc ls st σ Q :=
  ds_x1 k fun _ _ _ _ _ _ _ _ _ _ _ _ _ _ hx hb _ _ _ kk => lv_goto hx hb hd ht kk
/-! branches -/
theorem ds_if_eq {x : Int32} {off : Int} {t : Nat} (hd : decode y.2.1 pc = .ok (.ifCond .eq off, 3)) (ht : (pc : Int) + off = (t : Int)) (kt : x = 0 → ds_X y Y t ls st σ Q) (kf : ¬ x = 0 → ds_X y Y (pc + 3) ls st σ Q) : ds_X y Y pc ls (.int x :: st) σ Q := by
  intro p l e s m args below meth c cy dC dI ad A C H locs hP hD hS lc hl
  exact lv_if_eq C.1 C.2.1 hd ht (fun h => kt h p l e s m args below meth c cy dC dI ad A C H locs hP hD hS lc hl) (fun h => kf h p l e s m args below meth c cy dC dI ad A C H locs hP hD hS lc hl)
theorem ds_ic_eq {x z : Int32} {off : Int} {t : Nat} (hd : decode y.2.1 pc = .ok (.if_icmp .eq off, 3)) (ht : (pc : Int) + off = (t : Int)) (kt : x = z → ds_X y Y t ls st σ Q) (kf : ¬ x = z → ds_X y Y (pc + 3) ls st σ Q) : ds_X y Y pc ls (.int z :: .int x :: st) σ Q := by
  intro p l e s m args below meth c cy dC dI ad A C H locs hP hD hS lc hl
  exact lv_icmp_eq C.1 C.2.1 hd ht (fun h => kt h p l e s m args below meth c cy dC dI ad A C H locs hP hD hS lc hl) (fun h => kf h p l e s m args below meth c cy dC dI ad A C H locs hP hD hS lc hl)
theorem ds_if_ne {x : Int32} {off : Int} {t : Nat} (hd : decode y.2.1 pc = .ok (.ifCond .ne off, 3)) (ht : (pc : Int) + off = (t : Int)) (kt : ¬ x = 0 → ds_X y Y t ls st σ Q) (kf : x = 0 → ds_X y Y (pc + 3) ls st σ Q) : ds_X y Y pc ls (.int x :: st) σ Q := by
  intro p l e s m args below meth c cy dC dI ad A C H locs hP hD hS lc hl
  exact lv_if_ne C.1 C.2.1 hd ht (fun h => kt h p l e s m args below meth c cy dC dI ad A C H locs hP hD hS lc hl) (fun h => kf h p l e s m args below meth c cy dC dI ad A C H locs hP hD hS lc hl)
theorem ds_ic_ne {x z : Int32} {off : Int} {t : Nat} (hd : decode y.2.1 pc = .ok (.if_icmp .ne off, 3)) (ht : (pc : Int) + off = (t : Int)) (kt : ¬ x = z → ds_X y Y t ls st σ Q) (kf : x = z → ds_X y Y (pc + 3) ls st σ Q) : ds_X y Y pc ls (.int z :: .int x :: st) σ Q := by
  intro p l e s m args below meth c cy dC dI ad A C H locs hP hD hS lc hl
  exact lv_icmp_ne C.1 C.2.1 hd ht (fun h => kt h p l e s m args below meth c cy dC dI ad A C H locs hP hD hS lc hl) (fun h => kf h p l e s m args below meth c cy dC dI ad A C H locs hP hD hS lc hl)
theorem ds_if_lt {x : Int32} {off : Int} {t : Nat} (hd : decode y.2.1 pc = .ok (.ifCond .lt off, 3)) (ht : (pc : Int) + off = (t : Int)) (kt : x < 0 → ds_X y Y t ls st σ Q) (kf : ¬ x < 0 → ds_X y Y (pc + 3) ls st σ Q) : ds_X y Y pc ls (.int x :: st) σ Q := by
  intro p l e s m args below meth c cy dC dI ad A C H locs hP hD hS lc hl
  exact lv_if_lt C.1 C.2.1 hd ht (fun h => kt h p l e s m args below meth c cy dC dI ad A C H locs hP hD hS lc hl) (fun h => kf h p l e s m args below meth c cy dC dI ad A C H locs hP hD hS lc hl)
theorem ds_ic_lt {x z : Int32} {off : Int} {t : Nat} (hd : decode y.2.1 pc = .ok (.if_icmp .lt off, 3)) (ht : (pc : Int) + off = (t : Int)) (kt : x < z → ds_X y Y t ls st σ Q) (kf : ¬ x < z → ds_X y Y (pc + 3) ls st σ Q) : ds_X y Y pc ls (.int z :: .int x :: st) σ Q := by
  intro p l e s m args below meth c cy dC dI ad A C H locs hP hD hS lc hl
  exact lv_icmp_lt C.1 C.2.1 hd ht (fun h => kt h p l e s m args below meth c cy dC dI ad A C H locs hP hD hS lc hl) (fun h => kf h p l e s m args below meth c cy dC dI ad A C H locs hP hD hS lc hl)
theorem ds_if_ge {x : Int32} {off : Int} {t : Nat} (hd : decode y.2.1 pc = .ok (.ifCond .ge off, 3)) (ht : (pc : Int) + off = (t : Int)) (kt : 0 ≤ x → ds_X y Y t ls st σ Q) (kf : ¬ 0 ≤ x → ds_X y Y (pc + 3) ls st σ Q) : ds_X y Y pc ls (.int x :: st) σ Q := by
  intro p l e s m args below meth c cy dC dI ad A C H locs hP hD hS lc hl
  exact lv_if_ge C.1 C.2.1 hd ht (fun h => kt h p l e s m args below meth c cy dC dI ad A C H locs hP hD hS lc hl) (fun h => kf h p l e s m args below meth c cy dC dI ad A C H locs hP hD hS lc hl)
theorem ds_ic_ge {x z : Int32} {off : Int} {t : Nat} (hd : decode y.2.1 pc = .ok (.if_icmp .ge off, 3)) (ht : (pc : Int) + off = (t : Int)) (kt : z ≤ x → ds_X y Y t ls st σ Q) (kf : ¬ z ≤ x → ds_X y Y (pc + 3) ls st σ Q) : ds_X y Y pc ls (.int z :: .int x :: st) σ Q := by
  intro p l e s m args below meth c cy dC dI ad A C H locs hP hD hS lc hl
  exact lv_icmp_ge C.1 C.2.1 hd ht (fun h => kt h p l e s m args below meth c cy dC dI ad A C H locs hP hD hS lc hl) (fun h => kf h p l e s m args below meth c cy dC dI ad A C H locs hP hD hS lc hl)
theorem ds_if_gt {x : Int32} {off : Int} {t : Nat} (hd : decode y.2.1 pc = .ok (.ifCond .gt off, 3)) (ht : (pc : Int) + off = (t : Int)) (kt : 0 < x → ds_X y Y t ls st σ Q) (kf : ¬ 0 < x → ds_X y Y (pc + 3) ls st σ Q) : ds_X y Y pc ls (.int x :: st) σ Q := by
  intro p l e s m args below meth c cy dC dI ad A C H locs hP hD hS lc hl
  exact lv_if_gt C.1 C.2.1 hd ht (fun h => kt h p l e s m args below meth c cy dC dI ad A C H locs hP hD hS lc hl) (fun h => kf h p l e s m args below meth c cy dC dI ad A C H locs hP hD hS lc hl)
theorem ds_ic_gt {x z : Int32} {off : Int} {t : Nat} (hd : decode y.2.1 pc = .ok (.if_icmp .gt off, 3)) (ht : (pc : Int) + off = (t : Int)) (kt : z < x → ds_X y Y t ls st σ Q) (kf : ¬ z < x → ds_X y Y (pc + 3) ls st σ Q) : ds_X y Y pc ls (.int z :: .int x :: st) σ Q := by
  intro p l e s m args below meth c cy dC dI ad A C H locs hP hD hS lc hl
  exact lv_icmp_gt C.1 C.2.1 hd ht (fun h => kt h p l e s m args below meth c cy dC dI ad A C H locs hP hD hS lc hl) (fun h => kf h p l e s m args below meth c cy dC dI ad A C H locs hP hD hS lc hl)
theorem ds_if_le {x : Int32} {off : Int} {t : Nat} (hd : decode y.2.1 pc = .ok (.ifCond .le off, 3)) (ht : (pc : Int) + off = (t : Int)) (kt : x ≤ 0 → ds_X y Y t ls st σ Q) (kf : ¬ x ≤ 0 → ds_X y Y (pc + 3) ls st σ Q) : ds_X y Y pc ls (.int x :: st) σ Q := by
  intro p l e s m args below meth c cy dC dI ad A C H locs hP hD hS lc hl
  exact lv_if_le C.1 C.2.1 hd ht (fun h => kt h p l e s m args below meth c cy dC dI ad A C H locs hP hD hS lc hl) (fun h => kf h p l e s m args below meth c cy dC dI ad A C H locs hP hD hS lc hl)
theorem ds_ic_le {x z : Int32} {off : Int} {t : Nat} (hd : decode y.2.1 pc = .ok (.if_icmp .le off, 3)) (ht : (pc : Int) + off = (t : Int)) (kt : x ≤ z → ds_X y Y t ls st σ Q) (kf : ¬ x ≤ z → ds_X y Y (pc + 3) ls st σ Q) : ds_X y Y pc ls (.int z :: .int x :: st) σ Q := by
  intro p l e s m args below meth c cy dC dI ad A C H locs hP hD hS lc hl
  exact lv_icmp_le C.1 C.2.1 hd ht (fun h => kt h p l e s m args below meth c cy dC dI ad A C H locs hP hD hS lc hl) (fun h => kf h p l e s m args below meth c cy dC dI ad A C H locs hP hD hS lc hl)
theorem ds_table {d lo hi : Int} {offs : Array Int} {len : Nat} {x : Int32} (hd : decode y.2.1 pc = .ok (.tableswitch d lo hi offs, len)) (t : Nat) (ht : (pc : Int) + d = (t : Int)) (ho : x.toInt < lo ∨ hi < x.toInt → ds_X y Y t ls st σ Q) (hin : ¬ x.toInt < lo → ¬ hi < x.toInt → ∃ (off : Int) (t : Nat), offs[(x.toInt - lo).toNat]? = some off ∧ (pc : Int) + off = (t : Int) ∧ ds_X y Y t ls st σ Q) : ds_X y Y pc ls (.int x :: st) σ Q := by
  intro p l e s m args below meth c cy dC dI ad A C H locs hP hD hS lc hl
  by_cases h : x.toInt < lo ∨ hi < x.toInt
  · exact lv_tableOut C.1 C.2.1 hd h ht (ho h p l e s m args below meth c cy dC dI ad A C H locs hP hD hS lc hl)
  · obtain ⟨off, t2, h1, h2, h3⟩ := hin (fun q => h (Or.inl q)) (fun q => h (Or.inr q))
    exact lv_tableIn C.1 C.2.1 hd (fun q => h (Or.inl q)) (fun q => h (Or.inr q)) h1 h2 (h3 p l e s m args below meth c cy dC dI ad A C H locs hP hD hS lc hl)
/-! locals written -/
theorem ds_istore {n : Nat} {x : Int32} (hd : decode y.2.1 pc = .ok (.istore n, 2)) (hn : n < ls.length) (k : ds_X y Y (pc + 2) (ds_put ls n (.int x)) st σ Q) : ds_X y Y pc ls (.int x :: st) σ Q := by
  intro p l e s m args below meth c cy dC dI ad A C H locs hP hD hS lc hl
  exact lv_istore C.1 C.2.1 hd hl.has (by rw [← hl.1]; exact hn) rfl (fun lc' h' => k p l e s m args below meth c cy dC dI ad A C H locs hP hD hS lc' (hl.put h'))
theorem ds_istore_n {n : Fin 4} {x : Int32} (hd : decode y.2.1 pc = .ok (.istore_n n, 1)) (hn : (n : Nat) < ls.length) (k : ds_X y Y (pc + 1) (ds_put ls n (.int x)) st σ Q) : ds_X y Y pc ls (.int x :: st) σ Q := by
  intro p l e s m args below meth c cy dC dI ad A C H locs hP hD hS lc hl
  exact lv_istore_n C.1 C.2.1 hd rfl hl.has (by rw [← hl.1]; exact hn) rfl (fun lc' h' => k p l e s m args below meth c cy dC dI ad A C H locs hP hD hS lc' (hl.put h'))
theorem ds_astore {n : Nat} {x : Nat} (hd : decode y.2.1 pc = .ok (.astore n, 2)) (hn : n < ls.length) (k : ds_X y Y (pc + 2) (ds_put ls n (.ref x)) st σ Q) : ds_X y Y pc ls (.ref x :: st) σ Q := by
  intro p l e s m args below meth c cy dC dI ad A C H locs hP hD hS lc hl
  exact lv_astore C.1 C.2.1 hd hl.has (by rw [← hl.1]; exact hn) rfl (fun lc' h' => k p l e s m args below meth c cy dC dI ad A C H locs hP hD hS lc' (hl.put h'))
theorem ds_astore_n {n : Fin 4} {x : Nat} (hd : decode y.2.1 pc = .ok (.astore_n n, 1)) (hn : (n : Nat) < ls.length) (k : ds_X y Y (pc + 1) (ds_put ls n (.ref x)) st σ Q) : ds_X y Y pc ls (.ref x :: st) σ Q := by
  intro p l e s m args below meth c cy dC dI ad A C H locs hP hD hS lc hl
  exact lv_astore_n C.1 C.2.1 hd rfl hl.has (by rw [← hl.1]; exact hn) rfl (fun lc' h' => k p l e s m args below meth c cy dC dI ad A C H locs hP hD hS lc' (hl.put h'))
theorem ds_lstore {n : Nat} {x : Int64} (hd : decode y.2.1 pc = .ok (.lstore n, 2)) (hn : n + 1 < ls.length) (k : ds_X y Y (pc + 2) (ds_put2 ls n (.long x)) st σ Q) : ds_X y Y pc ls (.long x :: st) σ Q := by
  intro p l e s m args below meth c cy dC dI ad A C H locs hP hD hS lc hl
  exact lv_lstore C.1 C.2.1 hd hl.has (by rw [← hl.1]; exact hn) rfl (fun lc' h' => k p l e s m args below meth c cy dC dI ad A C H locs hP hD hS lc' (hl.put2 h'))
theorem ds_lstore_n {n : Fin 4} {x : Int64} (hd : decode y.2.1 pc = .ok (.lstore_n n, 1)) (hn : (n : Nat) + 1 < ls.length) (k : ds_X y Y (pc + 1) (ds_put2 ls n (.long x)) st σ Q) : ds_X y Y pc ls (.long x :: st) σ Q := by
  intro p l e s m args below meth c cy dC dI ad A C H locs hP hD hS lc hl
  exact lv_lstore_n C.1 C.2.1 hd rfl hl.has (by rw [← hl.1]; exact hn) rfl (fun lc' h' => k p l e s m args below meth c cy dC dI ad A C H locs hP hD hS lc' (hl.put2 h'))
theorem ds_iinc {n : Nat} {i : Int} {x v : Int32} (hd : decode y.2.1 pc = .ok (.iinc n i, 3)) (hi : Int32.ofInt i = v) (hv : ds_at ls n = some (.int x)) (k : ds_X y Y (pc + 3) (ds_put ls n (.int (x + v))) st σ Q) : ds_X y Y pc ls st σ Q := by
  intro p l e s m args below meth c cy dC dI ad A C H locs hP hD hS lc hl
  obtain ⟨j, hj⟩ := List.getElem?_of_mem (ds_pr_mem (ad := ad) hv)
  exact lv_iinc (k := j) C.1 C.2.1 hd hl.has hj (by rw [hi]) (by rw [← hl.1]; exact ds_at_lt hv) rfl (fun lc' h' => k p l e s m args below meth c cy dC dI ad A C H locs hP hD hS lc' (hl.put h'))
/-! ends -/
theorem ds_vret (hd : decode y.2.1 pc = .ok (.return_, 1)) (hr : y.2.2.2.1 = none) (hq : Q none σ) : ds_X y Y pc ls [] σ Q := by
  intro p l e s m args below meth c cy dC dI ad A C H locs hP hD hS lc hl
  obtain ⟨hx, hb, hml, hret, hlocks, hts, hown, hK, hN, hA⟩ := C
  refine W.vret hx hb (hret.trans hr) (fun t ht hW => ?_) hS.2.2 hd
  rw [hr]
  exact ⟨⟨σ, rfl, hq, by rw [ht]; exact hP, va_K.moved hW.alike hK, hD⟩, hS.F ht⟩
theorem ds_lret {x : Int64} (hd : decode y.2.1 pc = .ok (.lreturn, 1)) (hr : y.2.2.2.1 = some .long) (hq : Q (some (.long x)) σ) : ds_X y Y pc ls [.long x] σ Q := by
  intro p l e s m args below meth c cy dC dI ad A C H locs hP hD hS lc hl
  obtain ⟨hx, hb, hml, hret, hlocks, hts, hown, hK, hN, hA⟩ := C
  refine W.lret hx hb (hret.trans hr) (fun t ht hW => ?_) hS.2.2 hd
  rw [hr]
  exact ⟨⟨x, σ, rfl, hq, by rw [ht]; exact hP, va_K.moved hW.alike hK, hD⟩, hS.F ht⟩
theorem ds_iret {x : Int32} (hd : decode y.2.1 pc = .ok (.ireturn, 1)) (hr : y.2.2.2.1 = some .int) (hq : Q (some (.int x)) σ) : ds_X y Y pc ls [.int x] σ Q := by
  intro p l e s m args below meth c cy dC dI ad A C H locs hP hD hS lc hl
  obtain ⟨hx, hb, hml, hret, hlocks, hts, hown, hK, hN, hA⟩ := C
  refine W.iret hx hb (hret.trans hr) (fun t ht hW => ?_) hS.2.2 hd
  rw [hr]
  exact ⟨⟨x, σ, rfl, hq, by rw [ht]; exact hP, va_K.moved hW.alike hK, hD⟩, hS.F ht⟩
theorem ds_zret {x : Int32} (hd : decode y.2.1 pc = .ok (.ireturn, 1)) (hr : y.2.2.2.1 = some .boolean) (hn : x = 0 ∨ x = 1) (hq : Q (some (.int x)) σ) : ds_X y Y pc ls [.int x] σ Q := by
  intro p l e s m args below meth c cy dC dI ad A C H locs hP hD hS lc hl
  obtain ⟨hx, hb, hml, hret, hlocks, hts, hown, hK, hN, hA⟩ := C
  refine W.zret (ty := .boolean) hx hb (hret.trans hr) (by rcases hn with rfl | rfl <;> rfl) (fun t ht hW => ?_) hS.2.2 hd
  rw [hr]
  exact ⟨⟨x, σ, rfl, hq, by rw [ht]; exact hP, va_K.moved hW.alike hK, hD⟩, hS.F ht⟩
theorem ds_aret {x : Nat} {cn : String} (hd : decode y.2.1 pc = .ok (.areturn, 1)) (hr : y.2.2.2.1 = some (.object cn)) (hq : Q (some (.ref x)) σ) : ds_X y Y pc ls [.ref x] σ Q := by
  intro p l e s m args below meth c cy dC dI ad A C H locs hP hD hS lc hl
  obtain ⟨hx, hb, hml, hret, hlocks, hts, hown, hK, hN, hA⟩ := C
  refine W.aret (v := .ref (ad x)) (rt := .object cn) hx hb (hret.trans hr) (Or.inl ⟨_, rfl⟩) (Or.inr ⟨_, rfl⟩) (fun t ht hW => ?_) hS.2.2 hd
  rw [hr]
  exact ⟨⟨(σ, x), ad x, rfl, hq, rfl, by rw [ht]; exact hP, va_K.moved hW.alike hK, hD⟩, hS.F ht⟩
end DSX
end
section
section DSH
variable {y : ds_M} {Y : ds_Y} {pc : Nat} {ls : ds_L} {st : List Value} {σ : ds_S} {Q : Option Value → ds_S → Prop}
/-- a field's word is among the tables', its class's fields too -/
def ds_fld (y : ds_M) (idx ci k : Nat) : Prop := ∃ q : vw_C, vwCl[ci]? = some q ∧ k < q.2.2 ∧ q.2.2 = (ds_fc ci).length ∧ Cond.fieldLink y.1.cls idx (q.2.1 k).1 (q.2.1 k).2.1 (q.2.1 k).2.2.1 ∈ ds_T ∧ (∀ w ∈ u_ws q.1 q.2.1 q.2.2, w ∈ ds_T)
theorem ds_ci {ci : Nat} {q : vw_C} (h : vwCl[ci]? = some q) : ci < 10 := (List.getElem?_eq_some_iff.mp h).1
/-- getfield: what it reads is v -/
theorem ds_get {idx ci k code c : Nat} {v : Value} (hd : decode y.2.1 pc = .ok (.getfield idx, 3)) (hw : ds_fld y idx ci k) (hc : c < Y.1) (hk : Y.2.1 c = ci) (hf : (ds_fc ci)[k]? = some code) (hv : ∀ ad, ds_fv ad Y.2.2.2 σ c k code = ds_v ad v) (kk : ds_X y Y (pc + 3) ls (v :: st) σ Q) : ds_X y Y pc ls (.ref c :: st) σ Q := by
  intro p l e s m args below meth c' cy dC dI ad A C H locs hP hD hS lc hl
  have C0 := C
  obtain ⟨hx, hb, hml, hret, hlocks, hts, hown, hK, hN, hA⟩ := C
  obtain ⟨q, q1, q2, q3, q4, q5⟩ := hw
  have he := ds_w_at (cy := cy) (ad := ad) (σ := σ) hc
  rw [ds_e_obj hk (ds_ci q1)] at he
  refine va_get (D := (dC, dI)) (ci := ci) (v := ds_v ad v) (C := q.1) (T := q.2.1) (N := q.2.2) hx hb hts q5 hown hK hP c he q1 k q2 (hts _ q4) (fun _ h9 => h9) ?_ hd (kk p l e s m args below meth c' cy dC dI ad A C0 H locs hP hD hS lc hl)
  rw [← hv ad]
  exact ds_fs_at hf
theorem ds_getI {idx ci k code c : Nat} (hd : decode y.2.1 pc = .ok (.getfield idx, 3)) (hw : ds_fld y idx ci k) (hc : c < Y.1) (hk : Y.2.1 c = ci) (hf : (ds_fc ci)[k]? = some code) (hv : code = 0 ∨ code = 2) (kk : ds_X y Y (pc + 3) ls (.int (σ.1 c k) :: st) σ Q) : ds_X y Y pc ls (.ref c :: st) σ Q :=
  ds_get hd hw hc hk hf (fun ad => by rcases hv with rfl | rfl <;> rfl) kk
theorem ds_getL {idx ci k c : Nat} (hd : decode y.2.1 pc = .ok (.getfield idx, 3)) (hw : ds_fld y idx ci k) (hc : c < Y.1) (hk : Y.2.1 c = ci) (hf : (ds_fc ci)[k]? = some 1) (kk : ds_X y Y (pc + 3) ls (.long (σ.2 c k) :: st) σ Q) : ds_X y Y pc ls (.ref c :: st) σ Q :=
  ds_get hd hw hc hk hf (fun ad => rfl) kk
theorem ds_getR {idx ci k c : Nat} (hd : decode y.2.1 pc = .ok (.getfield idx, 3)) (hw : ds_fld y idx ci k) (hc : c < Y.1) (hk : Y.2.1 c = ci) (hf : (ds_fc ci)[k]? = some 3) (kk : ds_X y Y (pc + 3) ls (.ref (Y.2.2.2 c k) :: st) σ Q) : ds_X y Y pc ls (.ref c :: st) σ Q :=
  ds_get hd hw hc hk hf (fun ad => rfl) kk
/-- a field may be written: not final, of such a type -/
def ds_fldP (ci k : Nat) (ty : FieldType) : Prop := ∃ q : vw_C, vwCl[ci]? = some q ∧ (q.2.1 k).2.2.2 = false ∧ parseFieldDescriptor (q.2.1 k).2.2.1 = some ty ∧ (∃ ty0 : Nat → FieldType, ∀ k, k < q.2.2 → parseFieldDescriptor (q.2.1 k).2.2.1 = some (ty0 k)) ∧ ∀ a, a < q.2.2 → ∀ b, b < q.2.2 → a ≠ b → (q.2.1 a).2.1 ≠ (q.2.1 b).2.1
theorem ds_put0 {idx ci k c : Nat} {ty : FieldType} {v : Value} {σ' : ds_S} (hd : decode y.2.1 pc = .ok (.putfield idx, 3)) (hw : ds_fld y idx ci k) (hp : ds_fldP ci k ty) (hc : c < Y.1) (hk : Y.2.1 c = ci) (hn : ∀ ad, narrow ty (ds_v ad v) = ds_v ad v) (hfit : ∀ ad, fits ty (ds_v ad v) = true) (hfs : ∀ ad, ds_fs ad Y.2.2.2 σ' c (ds_fc ci) = (ds_fs ad Y.2.2.2 σ c (ds_fc ci)).set k (ds_v ad v)) (ho : ∀ cy ad b, b ≠ c → ds_e cy ad Y σ' b = ds_e cy ad Y σ b) (kk : ds_X y Y (pc + 3) ls st σ' Q) : ds_X y Y pc ls (v :: .ref c :: st) σ Q := by
  intro p l e s m args below meth c' cy dC dI ad A C H locs hP hD hS lc hl
  have C0 := C
  obtain ⟨hx, hb, hml, hret, hlocks, hts, hown, hK, hN, hA⟩ := C
  obtain ⟨q, q1, q2, q3, q4, q5⟩ := hw
  obtain ⟨q', g1, g2, g3, ⟨ty0, g4⟩, g5⟩ := hp
  obtain rfl : q = q' := Option.some.inj (q1.symm.trans g1)
  have he := ds_w_at (cy := cy) (ad := ad) (σ := σ) hc
  rw [ds_e_obj hk (ds_ci q1)] at he
  have hset : (ds_w cy ad Y σ).set c (ad c, .inr (ci, (ds_fs ad Y.2.2.2 σ c (ds_fc ci)).set k (ds_v ad v))) = ds_w cy ad Y σ' := ds_w_set (by rw [ds_e_obj hk (ds_ci q1), hfs]) (ho cy ad)
  refine va_put (D := (dC, dI)) (ci := ci) (v := ds_v ad v) (ty := ty) (C := q.1) (T := q.2.1) (N := q.2.2) hx hb hts q5 ty0 g4 g5 hown hK hP hD hS c he q1 k q2 (hts _ q4) (fun _ h9 => h9) g2 g3 (hn ad) (hfit ad) (by rw [ds_fs_len, ← q3]; exact q2) hd (fun H1 locs1 hP1 hD1 hS1 => ?_)
  rw [hset] at hP1 hD1
  exact kk p l e s m args below meth c' cy dC dI ad A C0 H1 locs1 hP1 hD1 hS1 lc hl
theorem ds_putI {idx ci k c : Nat} {x : Int32} (hd : decode y.2.1 pc = .ok (.putfield idx, 3)) (hw : ds_fld y idx ci k) (hp : ds_fldP ci k .int) (hc : c < Y.1) (hk : Y.2.1 c = ci) (hf : (ds_fc ci)[k]? = some 0) (kk : ds_X y Y (pc + 3) ls st (ds_si σ c (upd (σ.1 c) k x)) Q) : ds_X y Y pc ls (.int x :: .ref c :: st) σ Q :=
  ds_put0 hd hw hp hc hk (fun _ => rfl) (fun _ => rfl) (fun _ => ds_fs_si hf (Or.inl rfl)) (fun _ _ _ h => ds_e_si h) kk
theorem ds_putZ {idx ci k c : Nat} {x : Int32} (hd : decode y.2.1 pc = .ok (.putfield idx, 3)) (hw : ds_fld y idx ci k) (hp : ds_fldP ci k .boolean) (hc : c < Y.1) (hk : Y.2.1 c = ci) (hf : (ds_fc ci)[k]? = some 2) (h01 : x = 0 ∨ x = 1) (kk : ds_X y Y (pc + 3) ls st (ds_si σ c (upd (σ.1 c) k x)) Q) : ds_X y Y pc ls (.int x :: .ref c :: st) σ Q :=
  ds_put0 hd hw hp hc hk (fun _ => by rcases h01 with rfl | rfl <;> rfl) (fun _ => by rcases h01 with rfl | rfl <;> rfl) (fun _ => ds_fs_si hf (Or.inr rfl)) (fun _ _ _ h => ds_e_si h) kk
theorem ds_putL {idx ci k c : Nat} {x : Int64} (hd : decode y.2.1 pc = .ok (.putfield idx, 3)) (hw : ds_fld y idx ci k) (hp : ds_fldP ci k .long) (hc : c < Y.1) (hk : Y.2.1 c = ci) (hf : (ds_fc ci)[k]? = some 1) (kk : ds_X y Y (pc + 3) ls st (ds_sl σ c (vp_updL (σ.2 c) k x)) Q) : ds_X y Y pc ls (.long x :: .ref c :: st) σ Q :=
  ds_put0 hd hw hp hc hk (fun _ => rfl) (fun _ => rfl) (fun _ => ds_fs_sl hf) (fun _ _ _ h => ds_e_sl h) kk
/-! arrays -/
theorem ds_iald {c : Nat} {i : Int32} (hd : decode y.2.1 pc = .ok (.iaload, 1)) (hc : c < Y.1) (hk : Y.2.1 c = 10) (hin : vp_in i (Y.2.2.1 c)) (kk : ds_X y Y (pc + 1) ls (.int (σ.1 c i.toNatClampNeg) :: st) σ Q) : ds_X y Y pc ls (.int i :: .ref c :: st) σ Q := by
  intro p l e s m args below meth c' cy dC dI ad A C H locs hP hD hS lc hl
  have he := ds_w_at (cy := cy) (ad := ad) (σ := σ) hc
  rw [ds_e_int hk] at he
  exact va_iald C.1 C.2.1 C.2.2.2.2.2.2.2.1 hP c 0 he rfl hin hd (kk p l e s m args below meth c' cy dC dI ad A C H locs hP hD hS lc hl)
theorem ds_zald {c : Nat} {i : Int32} (hd : decode y.2.1 pc = .ok (.baload, 1)) (hc : c < Y.1) (hk : Y.2.1 c = 12) (hin : vp_in i (Y.2.2.1 c)) (kk : ds_X y Y (pc + 1) ls (.int (σ.1 c i.toNatClampNeg) :: st) σ Q) : ds_X y Y pc ls (.int i :: .ref c :: st) σ Q := by
  intro p l e s m args below meth c' cy dC dI ad A C H locs hP hD hS lc hl
  have he := ds_w_at (cy := cy) (ad := ad) (σ := σ) hc
  rw [ds_e_bool hk] at he
  exact va_zald C.1 C.2.1 C.2.2.2.2.2.2.2.1 hP c 2 he rfl hin hd (kk p l e s m args below meth c' cy dC dI ad A C H locs hP hD hS lc hl)
theorem ds_lald {c : Nat} {i : Int32} (hd : decode y.2.1 pc = .ok (.laload, 1)) (hc : c < Y.1) (hk : Y.2.1 c = 11) (hin : vp_in i (Y.2.2.1 c)) (kk : ds_X y Y (pc + 1) ls (.long (σ.2 c i.toNatClampNeg) :: st) σ Q) : ds_X y Y pc ls (.int i :: .ref c :: st) σ Q := by
  intro p l e s m args below meth c' cy dC dI ad A C H locs hP hD hS lc hl
  have he := ds_w_at (cy := cy) (ad := ad) (σ := σ) hc
  rw [ds_e_long hk] at he
  exact va_lald C.1 C.2.1 C.2.2.2.2.2.2.2.1 hP c 1 he rfl hin hd (kk p l e s m args below meth c' cy dC dI ad A C H locs hP hD hS lc hl)
theorem ds_aald {c : Nat} {i : Int32} (hd : decode y.2.1 pc = .ok (.aaload, 1)) (hc : c < Y.1) (hk : Y.2.1 c = 13 ∨ Y.2.1 c = 14) (hin : vp_in i (Y.2.2.1 c)) (kk : ds_X y Y (pc + 1) ls (.ref (Y.2.2.2 c i.toNatClampNeg) :: st) σ Q) : ds_X y Y pc ls (.int i :: .ref c :: st) σ Q := by
  intro p l e s m args below meth c' cy dC dI ad A C H locs hP hD hS lc hl
  have he := ds_w_at (cy := cy) (ad := ad) (σ := σ) hc
  have k2 := kk p l e s m args below meth c' cy dC dI ad A C H locs hP hD hS lc hl
  have hlt : i.toNatClampNeg < Y.2.2.1 c := Nat.not_le.mp fun q => hin (Or.inr q)
  rcases hk with hk | hk
  · rw [ds_e_ways hk] at he
    exact va_aldq C.1 C.2.1 C.2.2.2.2.2.2.2.1 hP c 3 he rfl hin hd k2
  · rw [ds_e_rows hk] at he
    exact W.aald (v := .ref (ad (Y.2.2.2 c i.toNatClampNeg))) (ty := .array .int) C.1 C.2.1 (hP c _ he) ((C.2.2.2.2.2.2.2.1.2 4 _ rfl).1 (Y.2.2.1 c) (fun j => va_rf (some (ad (Y.2.2.2 c j))))) rfl (fun q => by cases q) (by show ¬ (i < 0 ∨ (arrV _ _ _).slots.size ≤ _); rw [arrV_size]; exact hin) (by show (arrV _ _ _).slots[_]? = _; rw [arrV_read _ _ hlt]; rfl) rfl rfl hd k2
theorem ds_alen {c : Nat} {v : Int32} (hd : decode y.2.1 pc = .ok (.arraylength, 1)) (hc : c < Y.1) (hk : Y.2.1 c = 10 ∨ Y.2.1 c = 11) (hv : Int32.ofNat (Y.2.2.1 c) = v) (kk : ds_X y Y (pc + 1) ls (.int v :: st) σ Q) : ds_X y Y pc ls (.ref c :: st) σ Q := by
  intro p l e s m args below meth c' cy dC dI ad A C H locs hP hD hS lc hl
  have he := ds_w_at (cy := cy) (ad := ad) (σ := σ) hc
  have k2 := kk p l e s m args below meth c' cy dC dI ad A C H locs hP hD hS lc hl
  rcases hk with hk | hk
  · rw [ds_e_int hk] at he
    exact va_alen C.1 C.2.1 C.2.2.2.2.2.2.2.1 hP c 0 he rfl hv hd k2
  · rw [ds_e_long hk] at he
    exact va_alen C.1 C.2.1 C.2.2.2.2.2.2.2.1 hP c 1 he rfl hv hd k2
theorem ds_iast {c : Nat} {i x : Int32} (hd : decode y.2.1 pc = .ok (.iastore, 1)) (hc : c < Y.1) (hk : Y.2.1 c = 10) (hin : vp_in i (Y.2.2.1 c)) (kk : ds_X y Y (pc + 1) ls st (ds_si σ c (upd (σ.1 c) i.toNatClampNeg x)) Q) : ds_X y Y pc ls (.int x :: .int i :: .ref c :: st) σ Q := by
  intro p l e s m args below meth c' cy dC dI ad A C H locs hP hD hS lc hl
  have he := ds_w_at (cy := cy) (ad := ad) (σ := σ) hc
  rw [ds_e_int hk] at he
  have hset : (ds_w cy ad Y σ).set c (ad c, .inl (cy 10, Y.2.2.1 c, .inl (upd (σ.1 c) i.toNatClampNeg x))) = ds_w cy ad Y (ds_si σ c (upd (σ.1 c) i.toNatClampNeg x)) := ds_w_set (by rw [ds_e_int hk]; simp [ds_si, va_up]) (fun b h => ds_e_si h)
  refine va_iast C.1 C.2.1 C.2.2.2.2.2.2.2.1 hP hD hS c 0 he rfl hin hd (fun H1 locs1 hP1 hD1 hS1 => ?_)
  rw [hset] at hP1 hD1
  exact kk p l e s m args below meth c' cy dC dI ad A C H1 locs1 hP1 hD1 hS1 lc hl
theorem ds_zast {c : Nat} {i x : Int32} (hd : decode y.2.1 pc = .ok (.bastore, 1)) (hc : c < Y.1) (hk : Y.2.1 c = 12) (hin : vp_in i (Y.2.2.1 c)) (kk : ds_X y Y (pc + 1) ls st (ds_si σ c (upd (σ.1 c) i.toNatClampNeg (vp_nar .boolean x))) Q) : ds_X y Y pc ls (.int x :: .int i :: .ref c :: st) σ Q := by
  intro p l e s m args below meth c' cy dC dI ad A C H locs hP hD hS lc hl
  have he := ds_w_at (cy := cy) (ad := ad) (σ := σ) hc
  rw [ds_e_bool hk] at he
  have hset : (ds_w cy ad Y σ).set c (ad c, .inl (cy 12, Y.2.2.1 c, .inl (upd (σ.1 c) i.toNatClampNeg (vp_nar .boolean x)))) = ds_w cy ad Y (ds_si σ c (upd (σ.1 c) i.toNatClampNeg (vp_nar .boolean x))) := ds_w_set (by rw [ds_e_bool hk]; simp [ds_si, va_up]) (fun b h => ds_e_si h)
  refine va_zast C.1 C.2.1 C.2.2.2.2.2.2.2.1 hP hD hS c 2 he rfl hin hd (fun H1 locs1 hP1 hD1 hS1 => ?_)
  rw [hset] at hP1 hD1
  exact kk p l e s m args below meth c' cy dC dI ad A C H1 locs1 hP1 hD1 hS1 lc hl
theorem ds_last {c : Nat} {i : Int32} {x : Int64} (hd : decode y.2.1 pc = .ok (.lastore, 1)) (hc : c < Y.1) (hk : Y.2.1 c = 11) (hin : vp_in i (Y.2.2.1 c)) (kk : ds_X y Y (pc + 1) ls st (ds_sl σ c (vp_updL (σ.2 c) i.toNatClampNeg x)) Q) : ds_X y Y pc ls (.long x :: .int i :: .ref c :: st) σ Q := by
  intro p l e s m args below meth c' cy dC dI ad A C H locs hP hD hS lc hl
  have he := ds_w_at (cy := cy) (ad := ad) (σ := σ) hc
  rw [ds_e_long hk] at he
  have hset : (ds_w cy ad Y σ).set c (ad c, .inl (cy 11, Y.2.2.1 c, .inr (.inl (vp_updL (σ.2 c) i.toNatClampNeg x)))) = ds_w cy ad Y (ds_sl σ c (vp_updL (σ.2 c) i.toNatClampNeg x)) := ds_w_set (by rw [ds_e_long hk]; simp [ds_sl, va_up]) (fun b h => ds_e_sl h)
  refine va_last C.1 C.2.1 C.2.2.2.2.2.2.2.1 hP hD hS c 1 he rfl hin hd (fun H1 locs1 hP1 hD1 hS1 => ?_)
  rw [hset] at hP1 hD1
  exact kk p l e s m args below meth c' cy dC dI ad A C H1 locs1 hP1 hD1 hS1 lc hl
/-- System.arraycopy of int arrays -/
theorem ds_copy {idx a b : Nat} {sp dp n : Int32} (hd : decode y.2.1 pc = .ok (.invokestatic idx, 3)) (hl1 : Cond.methodLink y.1.cls idx arraycopyName ∈ ds_T) (hl2 : Cond.native arraycopyName ∈ ds_T) (hl3 : Cond.static arraycopyName ∈ ds_T) (hl4 : Cond.initialized "java/lang/System" ∈ ds_T) (ha : a < Y.1) (hka : Y.2.1 a = 10) (hb : b < Y.1) (hkb : Y.2.1 b = 10)
    (h1 : ¬ sp < 0) (h2 : ¬ dp < 0) (h3 : ¬ n < 0) (h4 : sp.toNatClampNeg + n.toNatClampNeg ≤ Y.2.2.1 a) (h5 : dp.toNatClampNeg + n.toNatClampNeg ≤ Y.2.2.1 b) (hfr : 1 ≤ y.2.2.2.2.1) (hlo : (st.map fun v => v.category).sum + 18 ≤ y.2.2.2.2.2)
    (kk : ds_X y Y (pc + 3) ls st (ds_si σ b (va_cpy (σ.1 a) (σ.1 b) sp.toNatClampNeg dp.toNatClampNeg n.toNatClampNeg)) Q) : ds_X y Y pc ls (.int n :: .int dp :: .ref b :: .int sp :: .ref a :: st) σ Q := by
  intro p l e s m args below meth c' cy dC dI ad A C H locs hP hD hS lc hl
  have C0 := C
  obtain ⟨hx, hb', hml, hret, hlocks, hts, hown, hK, hN, hA⟩ := C
  have hea := ds_w_at (cy := cy) (ad := ad) (σ := σ) ha
  rw [ds_e_int hka] at hea
  have heb := ds_w_at (cy := cy) (ad := ad) (σ := σ) hb
  rw [ds_e_int hkb] at heb
  have hset : (ds_w cy ad Y σ).set b (ad b, .inl (cy 10, Y.2.2.1 b, .inl (va_cpy (σ.1 a) (σ.1 b) sp.toNatClampNeg dp.toNatClampNeg n.toNatClampNeg))) = ds_w cy ad Y (ds_si σ b (va_cpy (σ.1 a) (σ.1 b) sp.toNatClampNeg dp.toNatClampNeg n.toNatClampNeg)) := ds_w_set (by rw [ds_e_int hkb]; simp [ds_si, va_up]) (fun b h => ds_e_si h)
  have hsum : ((st.map (ds_v ad)).map fun v => v.category).sum = (st.map fun v => v.category).sum := by
    rw [List.map_map]
    congr 1
    exact List.map_congr_left fun v _ => ds_v_cat ad v
  refine va_copyi hx hb' (by rw [hml, hl.2.1]) hown (hts _ hl1) (hts _ hl2) (hts _ hl3) (hts _ hl4) hK hP hD hS a b 0 0 hea heb rfl rfl rfl h1 h2 h3 h4 h5 (fun _ _ => rfl) hfr (by rw [hsum]; exact hlo) hd (fun H1 locs1 hP1 hD1 hS1 => ?_)
  rw [hset] at hP1 hD1
  exact kk p l e s m args below meth c' cy dC dI ad A C0 H1 locs1 hP1 hD1 hS1 lc hl
end DSH
end
section
section DSC
variable {y z : ds_M} {Y : ds_Y} {pc : Nat} {ls : ds_L} {rest : List Value} {σ : ds_S} {Q : Option Value → ds_S → Prop}
theorem ds_blind {as : List Value} {cy : Nat → ClassId} {dC : Nat → ClassId} {dI : Nat → Nat → Nat} {ad : Nat → Nat} {sz : Nat} : FrameBlind (ds_Pc as cy dC dI ad Y σ sz) := by
  intro a U g mk q
  obtain ⟨q0, q1, qP, qK, qN, qD⟩ := q
  exact ⟨q0, q1, qP, va_K.moved (u := U) (U := U.calling g mk a) (Vm.Alike.refl U.vm) qK, qN.same rfl, qD⟩
theorem ds_catsum (ad : Nat → Nat) (st : List Value) : ((st.map (ds_v ad)).map fun v => v.category).sum = (st.map fun v => v.category).sum := by
  rw [List.map_map]
  congr 1
  exact List.map_congr_left fun v _ => ds_v_cat ad v
/-- behind a call: what came back goes on -/
theorem ds_after {p : Program} {l : Launch} {e : Env} {s : State} {m : MethodId} {args : Array Value} {below : List Frame} {meth : Method} {c : Code} {cy : Nat → ClassId} {dC : Nat → ClassId} {dI : Nat → Nat → Nat} {ad : Nat → Nat} {A : Nat → Prop} {H : Heap} {locs : List Loc} {lc : Array Slot} {st0 : List Value} {a : Array Value} (C : ds_C y p s m args meth c cy dC dI A) (hD : va_D A (ds_w cy ad Y σ)) (hS : va_S A s.heap H locs) (hl : ds_loc ad lc y.2.2.1 ls)
    (hr : va_Run p l e (ds_rm y) s m args below meth c H locs 0 0 0 0 (F0 m pc lc st0) (rest.map (ds_v ad)) (ds_Q z.2.2.2.1 (fun r σ' => ds_X y Y (pc + 3) ls (r.toList ++ rest) σ' Q) cy dC dI ad (va_A (ds_w cy ad Y σ) H.size) Y a) (va_A (ds_w cy ad Y σ) H.size)) :
    W p l e (ds_rm y) s m args below meth c H locs 0 0 (MQ below (ds_Q y.2.2.2.1 Q cy dC dI ad A Y) args s 0 0 A) (F0 m pc lc st0) := by
  have hsub : ∀ q, va_A (ds_w cy ad Y σ) H.size q → A q := by
    intro q hq
    rcases hq with ⟨k, x, h⟩ | h
    · exact hD.2 k _ h
    · exact C.2.2.2.2.2.2.2.2.2 q (Nat.le_trans hS.1 h)
  have go : ∀ (r : Option Value) (σ' : ds_S) (t : State) (H1 : Heap) (locs1 : List Loc), t.heap = H1 → s.vm.Alike t.vm → ds_X y Y (pc + 3) ls (r.toList ++ rest) σ' Q → ds_B cy dC dI ad (va_A (ds_w cy ad Y σ) H.size) Y σ' t → va_S A s.heap H1 locs1 → W p l e (ds_rm y) s m args below meth c H1 locs1 0 0 (MQ below (ds_Q y.2.2.2.1 Q cy dC dI ad A Y) args s 0 0 A) (F0 m (pc + 3) lc ((r.toList ++ rest).map (ds_v ad))) := by
    intro r σ' t H1 locs1 ht hvm hX hB hS1
    obtain ⟨hP1, hK1, hD1⟩ := hB
    rw [ht] at hP1
    exact hX p l e s m args below meth c cy dC dI ad A C H1 locs1 hP1 (hD1.weaken (fun k q _ h => hsub q.1 h)) hS1 lc hl
  generalize z.2.2.2.1 = rt at hr
  have hi : ∀ {rt : Option FieldType}, ds_Q rt (fun r σ' => ds_X y Y (pc + 3) ls (r.toList ++ rest) σ' Q) cy dC dI ad (va_A (ds_w cy ad Y σ) H.size) Y = va_Qi (fun r σ' => ds_X y Y (pc + 3) ls ((some (Value.int r)).toList ++ rest) σ' Q) (ds_B cy dC dI ad (va_A (ds_w cy ad Y σ) H.size) Y) (va_A (ds_w cy ad Y σ) H.size) → va_Run p l e (ds_rm y) s m args below meth c H locs 0 0 0 0 (F0 m pc lc st0) (rest.map (ds_v ad)) (ds_Q rt (fun r σ' => ds_X y Y (pc + 3) ls (r.toList ++ rest) σ' Q) cy dC dI ad (va_A (ds_w cy ad Y σ) H.size) Y a) (va_A (ds_w cy ad Y σ) H.size) → W p l e (ds_rm y) s m args below meth c H locs 0 0 (MQ below (ds_Q y.2.2.2.1 Q cy dC dI ad A Y) args s 0 0 A) (F0 m pc lc st0) := by
    intro rt e1 hr
    rw [e1] at hr
    refine va_calli hr hS (fun q _ h => hsub q h) hsub (fun r u t H1 locs1 ht hvm hw hB hz1 hk1 hS1 => ?_)
    exact go (some (.int r)) u t H1 locs1 ht hvm hw hB hS1
  cases rt with
  | none =>
    refine va_callv (a := a) (post := fun σ' => ds_X y Y (pc + 3) ls ((none : Option Value).toList ++ rest) σ' Q) (B := ds_B cy dC dI ad (va_A (ds_w cy ad Y σ) H.size) Y) hr hS (fun q _ h => hsub q h) hsub (fun u t H1 locs1 ht hvm hw hB hz1 hk1 hS1 => ?_)
    exact go none u t H1 locs1 ht hvm hw hB hS1
  | some ty =>
    cases ty with
    | long =>
      refine va_calll (a := a) (post := fun r σ' => ds_X y Y (pc + 3) ls ((some (Value.long r)).toList ++ rest) σ' Q) (B := ds_B cy dC dI ad (va_A (ds_w cy ad Y σ) H.size) Y) hr hS (fun q _ h => hsub q h) hsub (fun r u t H1 locs1 ht hvm hw hB hz1 hk1 hS1 => ?_)
      exact go (some (.long r)) u t H1 locs1 ht hvm hw hB hS1
    | object cn =>
      refine va_callr (a := a) (post := fun u : ds_S × Nat => ds_X y Y (pc + 3) ls ((some (Value.ref u.2)).toList ++ rest) u.1 Q) (B := fun u a t => a = ad u.2 ∧ ds_B cy dC dI ad (va_A (ds_w cy ad Y σ) H.size) Y u.1 t) hr hS (fun q _ h => hsub q h) hsub (fun u ra t H1 locs1 ht hvm hw hB hz1 hk1 hS1 => ?_)
      obtain ⟨rfl, hB⟩ := hB
      exact go (some (.ref u.2)) u.1 t H1 locs1 ht hvm hw hB hS1
    | _ => exact hi rfl hr
/-- what a call needs of the tables and of the room -/
def ds_cw (y z : ds_M) (n : Nat) : Prop := Cond.code z.1 z.2.1 z.2.2.1 z.2.2.2.1 ∈ ds_T ∧ Cond.initialized z.1.cls ∈ ds_T ∧ (z.1.cls ≠ "java/lang/invoke/MethodHandle" ∧ z.1.cls ≠ "java/lang/invoke/VarHandle" ∧ (parseMethodDescriptor z.1.desc).map (fun d => d.parameters.length) = some n) ∧ z.2.2.2.2.1 + 1 ≤ y.2.2.2.2.1 ∧ 8 + (z.2.2.1 + 11) + z.2.2.2.2.2 ≤ y.2.2.2.2.2
theorem ds_pre {p : Program} {s : State} {m : MethodId} {args : Array Value} {meth : Method} {c : Code} {cy : Nat → ClassId} {dC : Nat → ClassId} {dI : Nat → Nat → Nat} {ad : Nat → Nat} {A : Nat → Prop} {H : Heap} (as : List Value) (C : ds_C y p s m args meth c cy dC dI A) (hP : va_P (dC, dI) vwCl (ds_w cy ad Y σ) H) (hD : va_D A (ds_w cy ad Y σ)) (U : State) (hU : U.heap = H) (hW : s.WarmedH U.vm) : ds_Pc as cy dC dI ad Y σ H.size (as.map (ds_v ad)).toArray U :=
  ⟨rfl, by rw [hU], by rw [hU]; exact hP, va_K.moved hW.alike C.2.2.2.2.2.2.2.1, C.2.2.2.2.2.2.2.2.1.warm hW, hD.weaken (fun _ _ _ _ => trivial)⟩
/-- invokevirtual -/
theorem ds_callV {idx ci b : Nat} {as : List Value} (hd : decode y.2.1 pc = .ok (.invokevirtual idx, 3)) (hE : ds_E z Y (.ref b :: as) σ (fun r σ' => ds_X y Y (pc + 3) ls (r.toList ++ rest) σ' Q)) (hw : ds_cw y z as.length) (hl1 : Cond.methodLink y.1.cls idx z.1 ∈ ds_T) (hl2 : Cond.instanceMethod z.1 ∈ ds_T) (hl3 : Cond.selects z.1.cls z.1 z.1 ∈ ds_T) (hb : b < Y.1) (hk : Y.2.1 b = ci) (hq : ∃ q : vw_C, vwCl[ci]? = some q ∧ q.1 = z.1.cls) (hsum : (rest.map fun v => v.category).sum ≤ 8) : ds_X y Y pc ls (as.reverse ++ .ref b :: rest) σ Q := by
  intro p l e s m args below meth c cy dC dI ad A C H locs hP hD hS lc hl
  have C0 := C
  obtain ⟨hx, hb', hml, hret, hlocks, hts, hown, hK, hN, hA⟩ := C
  obtain ⟨w1, w2, w3, w4, w5⟩ := hw
  obtain ⟨q, q1, q2⟩ := hq
  have he := ds_w_at (cy := cy) (ad := ad) (σ := σ) hb
  rw [ds_e_obj hk (ds_ci q1)] at he
  have hrec := va_recv hK hP q1 he
  rw [q2] at hrec
  have cw : CallW (ds_rm y) s args y.1.cls z.1.cls idx z.1 z.2.1 z.2.2.1 z.2.2.2.1 (ds_ws z) (ds_rm z) 0 0 as.length := ⟨callB_of as.length hts (ds_T_good w1) rfl rfl rfl (hts _ w2) (hts _ hl1) w3 ⟨w4, w5⟩, hts _ hl2, hts _ hl3⟩
  have hr := va_runV (p := p) (e := e) (below := below) (meth := meth) (H := H) (locs := locs) (cells := 0) (slots := 0) (nL := y.2.2.1) (cc := y.2.1) (Ts := ds_T) (As := as.map (ds_v ad)) (b := ad b) (rest := rest.map (ds_v ad)) (g := F0 m pc lc ((as.reverse ++ .ref b :: rest).map (ds_v ad))) ⟨hx, hb', hml, hown, hts⟩ (hE l cy dC dI ad H.size) cw ⟨ds_blind, hrec, fun U hU hW => ds_pre (.ref b :: as) C0 hP hD U hU hW⟩ rfl (by simp) hl.2.1 (by simp [ds_v]) (lv_room (by rw [ds_catsum]; exact hsum)) hd ⟨Nat.le_refl _, Nat.le_refl _⟩
  exact ds_after C0 hD hS hl hr
/-- invokestatic -/
theorem ds_callS {idx : Nat} {as : List Value} (hd : decode y.2.1 pc = .ok (.invokestatic idx, 3)) (hE : ds_E z Y as σ (fun r σ' => ds_X y Y (pc + 3) ls (r.toList ++ rest) σ' Q)) (hw : ds_cw y z as.length) (hl1 : Cond.methodLink y.1.cls idx z.1 ∈ ds_T) (hl2 : Cond.static z.1 ∈ ds_T) (hsum : (rest.map fun v => v.category).sum ≤ 8) : ds_X y Y pc ls (as.reverse ++ rest) σ Q := by
  intro p l e s m args below meth c cy dC dI ad A C H locs hP hD hS lc hl
  have C0 := C
  obtain ⟨hx, hb', hml, hret, hlocks, hts, hown, hK, hN, hA⟩ := C
  obtain ⟨w1, w2, w3, w4, w5⟩ := hw
  have cw : CallB (ds_rm y) s args y.1.cls idx z.1 z.2.1 z.2.2.1 z.2.2.2.1 (ds_ws z) (ds_rm z) 0 0 as.length ∧ (Cond.static z.1).before args s = true := ⟨callB_of as.length hts (ds_T_good w1) rfl rfl rfl (hts _ w2) (hts _ hl1) w3 ⟨w4, w5⟩, hts _ hl2⟩
  have hr := va_runS (p := p) (e := e) (below := below) (meth := meth) (H := H) (locs := locs) (cells := 0) (slots := 0) (nL := y.2.2.1) (cc := y.2.1) (Ts := ds_T) (As := as.map (ds_v ad)) (rest := rest.map (ds_v ad)) (g := F0 m pc lc ((as.reverse ++ rest).map (ds_v ad))) ⟨hx, hb', hml, hown, hts⟩ (hE l cy dC dI ad H.size) cw ⟨ds_blind, fun U hU hW => ds_pre as C0 hP hD U hU hW⟩ rfl (by simp) hl.2.1 (by simp) (lv_room (by rw [ds_catsum]; exact hsum)) hd ⟨Nat.le_refl _, Nat.le_refl _⟩
  exact ds_after C0 hD hS hl hr
/-- invokestatic of a nest mate's private method -/
theorem ds_callN {idx : Nat} {as : List Value} (hd : decode y.2.1 pc = .ok (.invokestatic idx, 3)) (hE : ds_E z Y as σ (fun r σ' => ds_X y Y (pc + 3) ls (r.toList ++ rest) σ' Q)) (hw : ds_cw y z as.length) (hl1 : (y.1.cls, idx, z.1) ∈ ds_N) (hl2 : Cond.static z.1 ∈ ds_T) (hsum : (rest.map fun v => v.category).sum ≤ 8) : ds_X y Y pc ls (as.reverse ++ rest) σ Q := by
  intro p l e s m args below meth c cy dC dI ad A C H locs hP hD hS lc hl
  have C0 := C
  obtain ⟨hx, hb', hml, hret, hlocks, hts, hown, hK, hN, hA⟩ := C
  obtain ⟨w1, w2, w3, w4, w5⟩ := hw
  have cw : va_CN (ds_rm y) s args y.1.cls idx z.1 "WayWeights" z.2.1 z.2.2.1 z.2.2.2.1 (ds_ws z) (ds_rm z) 0 0 as.length ∧ (Cond.static z.1).before args s = true ∧ True := ⟨va_cnB as.length hts (ds_T_good w1) rfl rfl rfl (hN _ hl1) (hts _ w2) w3 ⟨w4, w5⟩, hts _ hl2, trivial⟩
  have hr := va_runSN (p := p) (e := e) (below := below) (meth := meth) (H := H) (locs := locs) (cells := 0) (slots := 0) (nL := y.2.2.1) (cc := y.2.1) (Ts := ds_T) (As := as.map (ds_v ad)) (rest := rest.map (ds_v ad)) (g := F0 m pc lc ((as.reverse ++ rest).map (ds_v ad))) ⟨hx, hb', hml, hown, hts⟩ (hE l cy dC dI ad H.size) cw ⟨ds_blind, fun U hU hW => ds_pre as C0 hP hD U hU hW⟩ rfl (by simp) hl.2.1 (by simp) (lv_room (by rw [ds_catsum]; exact hsum)) hd ⟨Nat.le_refl _, Nat.le_refl _⟩
  exact ds_after C0 hD hS hl hr
end DSC
end
section
/-- a cell is of a kind -/
def ds_k (Y : ds_Y) (c k : Nat) : Prop := c < Y.1 ∧ Y.2.1 c = k
def ds_all : List Prop → Prop
  | [] => True
  | p :: r => p ∧ ds_all r
theorem ds_all_app {a b : List Prop} (h : ds_all (a ++ b)) : ds_all a ∧ ds_all b := by
  induction a with
  | nil => exact ⟨trivial, h⟩
  | cons p r ih => exact ⟨⟨h.1, (ih h.2).1⟩, (ih h.2).2⟩
abbrev ds_O : Type := Option (ds_L × List Value × ds_S × List Prop)
/-- loads of locals -/
def ds_ld (ls : ds_L) (st : List Value) (σ : ds_S) (t : Value → Bool) (n : Nat) : ds_O := match ds_at ls n with
  | some v => if t v = true then some (ls, v :: st, σ, []) else none
  | none => none
def ds_ti : Value → Bool
  | .int _ => true
  | _ => false
def ds_tl : Value → Bool
  | .long _ => true
  | _ => false
def ds_tr : Value → Bool
  | .ref _ => true
  | _ => false
def ds_t1 (v : Value) : Bool := ds_ti v || ds_tr v
def ds_sto (ls : ds_L) (st : List Value) (σ : ds_S) (t : Value → Bool) (n : Nat) : ds_O := match st with
  | v :: r => if t v = true ∧ n < ls.length then some (ds_put ls n v, r, σ, []) else none
  | [] => none
def ds_sto2 (ls : ds_L) (st : List Value) (σ : ds_S) (n : Nat) : ds_O := match st with
  | .long x :: r => if n + 1 < ls.length then some (ds_put2 ls n (.long x), r, σ, []) else none
  | _ => none
def ds_b32 (f : Int32 → Int32 → Int32) (g : Int32 → List Prop) (ls : ds_L) (st : List Value) (σ : ds_S) : ds_O := match st with
  | .int z :: .int x :: r => some (ls, .int (f x z) :: r, σ, g z)
  | _ => none
def ds_b64 (f : Int64 → Int64 → Int64) (g : Int64 → List Prop) (ls : ds_L) (st : List Value) (σ : ds_S) : ds_O := match st with
  | .long z :: .long x :: r => some (ls, .long (f x z) :: r, σ, g z)
  | _ => none
def ds_rd (Y : ds_Y) (f : Nat → Nat → Value) (k : Nat) (ls : ds_L) (st : List Value) (σ : ds_S) : ds_O := match st with
  | .int i :: .ref c :: r => some (ls, f c i.toNatClampNeg :: r, σ, [ds_k Y c k, vp_in i (Y.2.2.1 c)])
  | _ => none
def ds_gf (Y : ds_Y) (ci k : Nat) (ls : ds_L) (st : List Value) (σ : ds_S) : ds_O := match st with
  | .ref c :: r => (match (ds_fc ci)[k]? with
    | some 0 => some (ls, .int (σ.1 c k) :: r, σ, [ds_k Y c ci])
    | some 1 => some (ls, .long (σ.2 c k) :: r, σ, [ds_k Y c ci])
    | some 2 => some (ls, .int (σ.1 c k) :: r, σ, [ds_k Y c ci])
    | some 3 => some (ls, .ref (Y.2.2.2 c k) :: r, σ, [ds_k Y c ci])
    | _ => none)
  | _ => none
def ds_pf (Y : ds_Y) (ci k : Nat) (ls : ds_L) (st : List Value) (σ : ds_S) : ds_O := match st with
  | .int x :: .ref c :: r => (match (ds_fc ci)[k]? with
    | some 0 => some (ls, r, ds_si σ c (upd (σ.1 c) k x), [ds_k Y c ci])
    | some 2 => some (ls, r, ds_si σ c (upd (σ.1 c) k x), [ds_k Y c ci, x = 0 ∨ x = 1])
    | _ => none)
  | .long x :: .ref c :: r => (match (ds_fc ci)[k]? with
    | some 1 => some (ls, r, ds_sl σ c (vp_updL (σ.2 c) k x), [ds_k Y c ci])
    | _ => none)
  | _ => none
/-- one instruction that goes on to the next -/
def ds_step (Y : ds_Y) (i : ds_I) (ls : ds_L) (st : List Value) (σ : ds_S) : ds_O := match i.2.1 with
  | .iconst _ => some (ls, i.2.2.2.2.2.2 :: st, σ, [])
  | .bipush _ => some (ls, i.2.2.2.2.2.2 :: st, σ, [])
  | .sipush _ => some (ls, i.2.2.2.2.2.2 :: st, σ, [])
  | .lconst _ => some (ls, i.2.2.2.2.2.2 :: st, σ, [])
  | .ldc _ => some (ls, i.2.2.2.2.2.2 :: st, σ, [])
  | .ldc2_w _ => some (ls, i.2.2.2.2.2.2 :: st, σ, [])
  | .iload n => ds_ld ls st σ ds_ti n
  | .iload_n n => ds_ld ls st σ ds_ti n
  | .lload n => ds_ld ls st σ ds_tl n
  | .lload_n n => ds_ld ls st σ ds_tl n
  | .aload n => ds_ld ls st σ ds_tr n
  | .aload_n n => ds_ld ls st σ ds_tr n
  | .istore n => ds_sto ls st σ ds_ti n
  | .istore_n n => ds_sto ls st σ ds_ti n
  | .astore n => ds_sto ls st σ ds_tr n
  | .astore_n n => ds_sto ls st σ ds_tr n
  | .lstore n => ds_sto2 ls st σ n
  | .lstore_n n => ds_sto2 ls st σ n
  | .iinc n _ => (match ds_at ls n, i.2.2.2.2.2.2 with
    | some (.int x), .int v => some (ds_put ls n (.int (x + v)), st, σ, [])
    | _, _ => none)
  | .iadd => ds_b32 (fun x z => x + z) (fun _ => []) ls st σ
  | .isub => ds_b32 (fun x z => x - z) (fun _ => []) ls st σ
  | .imul => ds_b32 (fun x z => x * z) (fun _ => []) ls st σ
  | .iand => ds_b32 (fun x z => x &&& z) (fun _ => []) ls st σ
  | .ior => ds_b32 (fun x z => x ||| z) (fun _ => []) ls st σ
  | .ixor => ds_b32 (fun x z => x ^^^ z) (fun _ => []) ls st σ
  | .ishl => ds_b32 (fun x z => x <<< (z &&& 31)) (fun _ => []) ls st σ
  | .ishr => ds_b32 (fun x z => x >>> (z &&& 31)) (fun _ => []) ls st σ
  | .idiv => ds_b32 (fun x z => x / z) (fun z => [¬ z = 0]) ls st σ
  | .irem => ds_b32 (fun x z => x - x / z * z) (fun z => [¬ z = 0]) ls st σ
  | .ladd => ds_b64 (fun x z => x + z) (fun _ => []) ls st σ
  | .lsub => ds_b64 (fun x z => x - z) (fun _ => []) ls st σ
  | .lmul => ds_b64 (fun x z => x * z) (fun _ => []) ls st σ
  | .ldiv => ds_b64 (fun x z => x / z) (fun z => [¬ z = 0]) ls st σ
  | .lrem => ds_b64 (fun x z => x - x / z * z) (fun z => [¬ z = 0]) ls st σ
  | .lcmp => (match st with
    | .long z :: .long x :: r => some (ls, .int (lg_cmp x z) :: r, σ, [])
    | _ => none)
  | .ineg => (match st with
    | .int x :: r => some (ls, .int (-x) :: r, σ, [])
    | _ => none)
  | .lneg => (match st with
    | .long x :: r => some (ls, .long (-x) :: r, σ, [])
    | _ => none)
  | .i2l => (match st with
    | .int x :: r => some (ls, .long x.toInt64 :: r, σ, [])
    | _ => none)
  | .l2i => (match st with
    | .long x :: r => some (ls, .int x.toInt32 :: r, σ, [])
    | _ => none)
  | .dup => (match st with
    | v :: r => if ds_t1 v = true then some (ls, v :: v :: r, σ, []) else none
    | _ => none)
  | .dup2 => (match st with
    | v :: w :: r => if ds_t1 v = true ∧ ds_t1 w = true then some (ls, v :: w :: v :: w :: r, σ, []) else none
    | _ => none)
  | .getfield _ => ds_gf Y i.2.2.2.1 i.2.2.2.2.1 ls st σ
  | .putfield _ => ds_pf Y i.2.2.2.1 i.2.2.2.2.1 ls st σ
  | .iaload => ds_rd Y (fun c j => .int (σ.1 c j)) 10 ls st σ
  | .baload => ds_rd Y (fun c j => .int (σ.1 c j)) 12 ls st σ
  | .laload => ds_rd Y (fun c j => .long (σ.2 c j)) 11 ls st σ
  | .aaload => ds_rd Y (fun c j => .ref (Y.2.2.2 c j)) i.2.2.2.1 ls st σ
  | .arraylength => (match st with
    | .ref c :: r => some (ls, .int (Int32.ofNat (Y.2.2.1 c)) :: r, σ, [ds_k Y c i.2.2.2.1])
    | _ => none)
  | .iastore => (match st with
    | .int x :: .int j :: .ref c :: r => some (ls, r, ds_si σ c (upd (σ.1 c) j.toNatClampNeg x), [ds_k Y c 10, vp_in j (Y.2.2.1 c)])
    | _ => none)
  | .bastore => (match st with
    | .int x :: .int j :: .ref c :: r => some (ls, r, ds_si σ c (upd (σ.1 c) j.toNatClampNeg (vp_nar .boolean x)), [ds_k Y c 12, vp_in j (Y.2.2.1 c)])
    | _ => none)
  | .lastore => (match st with
    | .long x :: .int j :: .ref c :: r => some (ls, r, ds_sl σ c (vp_updL (σ.2 c) j.toNatClampNeg x), [ds_k Y c 11, vp_in j (Y.2.2.1 c)])
    | _ => none)
  | _ => none
/-- what the tables and the bytes must say of it -/
def ds_okx (y : ds_M) (i : ds_I) : Prop := match i.2.1 with
  | .iconst n => i.2.2.1 = 1 ∧ i.2.2.2.2.2.2 = .int (Int32.ofInt n)
  | .bipush n => i.2.2.1 = 2 ∧ i.2.2.2.2.2.2 = .int (Int8.ofInt n).toInt32
  | .sipush n => i.2.2.1 = 3 ∧ i.2.2.2.2.2.2 = .int (Int16.ofInt n).toInt32
  | .lconst n => i.2.2.1 = 1 ∧ i.2.2.2.2.2.2 = .long (Int64.ofNat n)
  | .ldc n => i.2.2.1 = 2 ∧ ∃ v, i.2.2.2.2.2.2 = .int v ∧ Cond.constant y.1.cls n v ∈ ds_T
  | .ldc2_w n => i.2.2.1 = 3 ∧ ∃ v, i.2.2.2.2.2.2 = .long v ∧ Cond.constantLong y.1.cls n v ∈ ds_T
  | .iload _ => i.2.2.1 = 2
  | .lload _ => i.2.2.1 = 2
  | .aload _ => i.2.2.1 = 2
  | .istore _ => i.2.2.1 = 2
  | .lstore _ => i.2.2.1 = 2
  | .astore _ => i.2.2.1 = 2
  | .iinc _ n => i.2.2.1 = 3 ∧ i.2.2.2.2.2.2 = .int (Int32.ofInt n)
  | .getfield idx => i.2.2.1 = 3 ∧ ds_fld y idx i.2.2.2.1 i.2.2.2.2.1
  | .putfield idx => i.2.2.1 = 3 ∧ ds_fld y idx i.2.2.2.1 i.2.2.2.2.1 ∧ ((ds_fc i.2.2.2.1)[i.2.2.2.2.1]? = some 0 → ds_fldP i.2.2.2.1 i.2.2.2.2.1 .int) ∧ ((ds_fc i.2.2.2.1)[i.2.2.2.2.1]? = some 1 → ds_fldP i.2.2.2.1 i.2.2.2.2.1 .long) ∧ ((ds_fc i.2.2.2.1)[i.2.2.2.2.1]? = some 2 → ds_fldP i.2.2.2.1 i.2.2.2.2.1 .boolean)
  | .aaload => i.2.2.1 = 1 ∧ (i.2.2.2.1 = 13 ∨ i.2.2.2.1 = 14)
  | .arraylength => i.2.2.1 = 1 ∧ (i.2.2.2.1 = 10 ∨ i.2.2.2.1 = 11)
  | .goto _ => True
  | .ifCond _ _ => True
  | .if_icmp _ _ => True
  | .invokevirtual _ => True
  | .invokestatic _ => True
  | .tableswitch _ _ _ _ => True
  | _ => i.2.2.1 = 1
def ds_ok (y : ds_M) (i : ds_I) : Prop := decode y.2.1 i.1 = .ok (i.2.1, i.2.2.1) ∧ ds_okx y i
theorem ds_t1_cat {v : Value} (h : ds_t1 v = true) : v.category = 1 := by cases v <;> first | rfl | cases h
theorem ds_ld_some {ls ls' : ds_L} {st st' : List Value} {σ σ' : ds_S} {t : Value → Bool} {n : Nat} {ob : List Prop} (h : ds_ld ls st σ t n = some (ls', st', σ', ob)) : ∃ v, ds_at ls n = some v ∧ t v = true ∧ ls' = ls ∧ st' = v :: st ∧ σ' = σ := by
  unfold ds_ld at h
  cases hv : ds_at ls n with
  | none => rw [hv] at h; cases h
  | some v =>
    rw [hv] at h
    by_cases ht : t v = true
    · simp only [if_pos ht, Option.some.injEq, Prod.mk.injEq] at h
      exact ⟨v, rfl, ht, h.1.symm, h.2.1.symm, h.2.2.1.symm⟩
    · simp only [if_neg ht] at h; cases h
theorem ds_sto_some {ls ls' : ds_L} {st st' : List Value} {σ σ' : ds_S} {t : Value → Bool} {n : Nat} {ob : List Prop} (h : ds_sto ls st σ t n = some (ls', st', σ', ob)) : ∃ v, st = v :: st' ∧ t v = true ∧ n < ls.length ∧ ls' = ds_put ls n v ∧ σ' = σ := by
  unfold ds_sto at h
  cases st with
  | nil => cases h
  | cons v r =>
    by_cases ht : t v = true ∧ n < ls.length
    · simp only [if_pos ht, Option.some.injEq, Prod.mk.injEq] at h
      exact ⟨v, by rw [h.2.1], ht.1, ht.2, h.1.symm, h.2.2.1.symm⟩
    · simp only [if_neg ht] at h; cases h
theorem ds_sto2_some {ls ls' : ds_L} {st st' : List Value} {σ σ' : ds_S} {n : Nat} {ob : List Prop} (h : ds_sto2 ls st σ n = some (ls', st', σ', ob)) : ∃ x, st = .long x :: st' ∧ n + 1 < ls.length ∧ ls' = ds_put2 ls n (.long x) ∧ σ' = σ := by
  unfold ds_sto2 at h
  split at h
  · next x r =>
    by_cases ht : n + 1 < ls.length
    · simp only [if_pos ht, Option.some.injEq, Prod.mk.injEq] at h
      exact ⟨x, by rw [h.2.1], ht, h.1.symm, h.2.2.1.symm⟩
    · simp only [if_neg ht] at h; cases h
  · cases h
theorem ds_b32_some {f : Int32 → Int32 → Int32} {g : Int32 → List Prop} {ls ls' : ds_L} {st st' : List Value} {σ σ' : ds_S} {ob : List Prop} (h : ds_b32 f g ls st σ = some (ls', st', σ', ob)) : ∃ z x r, st = .int z :: .int x :: r ∧ st' = .int (f x z) :: r ∧ ls' = ls ∧ σ' = σ ∧ ob = g z := by
  unfold ds_b32 at h
  split at h
  · next z x r =>
    simp only [Option.some.injEq, Prod.mk.injEq] at h
    exact ⟨z, x, r, rfl, h.2.1.symm, h.1.symm, h.2.2.1.symm, h.2.2.2.symm⟩
  · cases h
theorem ds_b64_some {f : Int64 → Int64 → Int64} {g : Int64 → List Prop} {ls ls' : ds_L} {st st' : List Value} {σ σ' : ds_S} {ob : List Prop} (h : ds_b64 f g ls st σ = some (ls', st', σ', ob)) : ∃ z x r, st = .long z :: .long x :: r ∧ st' = .long (f x z) :: r ∧ ls' = ls ∧ σ' = σ ∧ ob = g z := by
  unfold ds_b64 at h
  split at h
  · next z x r =>
    simp only [Option.some.injEq, Prod.mk.injEq] at h
    exact ⟨z, x, r, rfl, h.2.1.symm, h.1.symm, h.2.2.1.symm, h.2.2.2.symm⟩
  · cases h
theorem ds_rd_some {Y : ds_Y} {f : Nat → Nat → Value} {k : Nat} {ls ls' : ds_L} {st st' : List Value} {σ σ' : ds_S} {ob : List Prop} (h : ds_rd Y f k ls st σ = some (ls', st', σ', ob)) : ∃ i c r, st = .int i :: .ref c :: r ∧ st' = f c i.toNatClampNeg :: r ∧ ls' = ls ∧ σ' = σ ∧ ob = [ds_k Y c k, vp_in i (Y.2.2.1 c)] := by
  unfold ds_rd at h
  split at h
  · next i c r =>
    simp only [Option.some.injEq, Prod.mk.injEq] at h
    exact ⟨i, c, r, rfl, h.2.1.symm, h.1.symm, h.2.2.1.symm, h.2.2.2.symm⟩
  · cases h
theorem ds_ti_e {v : Value} (h : ds_ti v = true) : ∃ x, v = .int x := by cases v <;> first | exact ⟨_, rfl⟩ | cases h
theorem ds_tl_e {v : Value} (h : ds_tl v = true) : ∃ x, v = .long x := by cases v <;> first | exact ⟨_, rfl⟩ | cases h
theorem ds_tr_e {v : Value} (h : ds_tr v = true) : ∃ x, v = .ref x := by cases v <;> first | exact ⟨_, rfl⟩ | cases h
set_option maxHeartbeats 4000000 in
theorem ds_step_ok {y : ds_M} {Y : ds_Y} {i : ds_I} {ls ls' : ds_L} {st st' : List Value} {σ σ' : ds_S} {ob : List Prop} {Q : Option Value → ds_S → Prop} (hok : ds_ok y i) (h : ds_step Y i ls st σ = some (ls', st', σ', ob)) (hob : ds_all ob) (k : ds_X y Y (i.1 + i.2.2.1) ls' st' σ' Q) : ds_X y Y i.1 ls st σ Q := by
  obtain ⟨hd, hx⟩ := hok
  obtain ⟨pc, ins, len, r1, r2, r3, v⟩ := i
  dsimp only at hd hx k ⊢
  unfold ds_step at h
  unfold ds_okx at hx
  dsimp only at h hx
  cases ins
  case iconst n =>
    obtain ⟨rfl, rfl⟩ := hx
    cases h
    exact ds_iconst hd rfl k
  case bipush n =>
    obtain ⟨rfl, rfl⟩ := hx
    cases h
    exact ds_bipush hd rfl k
  case sipush n =>
    obtain ⟨rfl, rfl⟩ := hx
    cases h
    exact ds_sipush hd rfl k
  case lconst n =>
    obtain ⟨rfl, rfl⟩ := hx
    cases h
    exact ds_lconst hd rfl k
  case ldc n =>
    obtain ⟨rfl, w, rfl, hw⟩ := hx
    cases h
    exact ds_ldc hd hw k
  case ldc2_w n =>
    obtain ⟨rfl, w, rfl, hw⟩ := hx
    cases h
    exact ds_ldc2 hd hw k
  case iload n =>
    subst hx
    obtain ⟨w, h1, h2, rfl, rfl, rfl⟩ := ds_ld_some h
    obtain ⟨x, rfl⟩ := ds_ti_e h2
    exact ds_iload hd h1 k
  case iload_n n =>
    subst hx
    obtain ⟨w, h1, h2, rfl, rfl, rfl⟩ := ds_ld_some h
    obtain ⟨x, rfl⟩ := ds_ti_e h2
    exact ds_iload_n hd h1 k
  case lload n =>
    subst hx
    obtain ⟨w, h1, h2, rfl, rfl, rfl⟩ := ds_ld_some h
    obtain ⟨x, rfl⟩ := ds_tl_e h2
    exact ds_lload hd h1 k
  case lload_n n =>
    subst hx
    obtain ⟨w, h1, h2, rfl, rfl, rfl⟩ := ds_ld_some h
    obtain ⟨x, rfl⟩ := ds_tl_e h2
    exact ds_lload_n hd h1 k
  case aload n =>
    subst hx
    obtain ⟨w, h1, h2, rfl, rfl, rfl⟩ := ds_ld_some h
    obtain ⟨x, rfl⟩ := ds_tr_e h2
    exact ds_aload hd h1 k
  case aload_n n =>
    subst hx
    obtain ⟨w, h1, h2, rfl, rfl, rfl⟩ := ds_ld_some h
    obtain ⟨x, rfl⟩ := ds_tr_e h2
    exact ds_aload_n hd h1 k
  case istore n =>
    subst hx
    obtain ⟨w, rfl, h2, h3, rfl, rfl⟩ := ds_sto_some h
    obtain ⟨x, rfl⟩ := ds_ti_e h2
    exact ds_istore hd h3 k
  case istore_n n =>
    subst hx
    obtain ⟨w, rfl, h2, h3, rfl, rfl⟩ := ds_sto_some h
    obtain ⟨x, rfl⟩ := ds_ti_e h2
    exact ds_istore_n hd h3 k
  case astore n =>
    subst hx
    obtain ⟨w, rfl, h2, h3, rfl, rfl⟩ := ds_sto_some h
    obtain ⟨x, rfl⟩ := ds_tr_e h2
    exact ds_astore hd h3 k
  case astore_n n =>
    subst hx
    obtain ⟨w, rfl, h2, h3, rfl, rfl⟩ := ds_sto_some h
    obtain ⟨x, rfl⟩ := ds_tr_e h2
    exact ds_astore_n hd h3 k
  case lstore n =>
    subst hx
    obtain ⟨x, rfl, h3, rfl, rfl⟩ := ds_sto2_some h
    exact ds_lstore hd h3 k
  case lstore_n n =>
    subst hx
    obtain ⟨x, rfl, h3, rfl, rfl⟩ := ds_sto2_some h
    exact ds_lstore_n hd h3 k
  case iinc n z =>
    try dsimp only at h
    obtain ⟨rfl, rfl⟩ := hx
    split at h
    · next x w h1 h2 =>
      cases h2
      cases h
      exact ds_iinc hd rfl h1 k
    · cases h
  case iadd =>
    subst hx
    obtain ⟨z, x, r, rfl, rfl, rfl, rfl, rfl⟩ := ds_b32_some h
    exact ds_iadd hd k
  case isub =>
    subst hx
    obtain ⟨z, x, r, rfl, rfl, rfl, rfl, rfl⟩ := ds_b32_some h
    exact ds_isub hd k
  case imul =>
    subst hx
    obtain ⟨z, x, r, rfl, rfl, rfl, rfl, rfl⟩ := ds_b32_some h
    exact ds_imul hd k
  case iand =>
    subst hx
    obtain ⟨z, x, r, rfl, rfl, rfl, rfl, rfl⟩ := ds_b32_some h
    exact ds_iand hd k
  case ior =>
    subst hx
    obtain ⟨z, x, r, rfl, rfl, rfl, rfl, rfl⟩ := ds_b32_some h
    exact ds_ior hd k
  case ixor =>
    subst hx
    obtain ⟨z, x, r, rfl, rfl, rfl, rfl, rfl⟩ := ds_b32_some h
    exact ds_ixor hd k
  case ishl =>
    subst hx
    obtain ⟨z, x, r, rfl, rfl, rfl, rfl, rfl⟩ := ds_b32_some h
    exact ds_ishl hd k
  case ishr =>
    subst hx
    obtain ⟨z, x, r, rfl, rfl, rfl, rfl, rfl⟩ := ds_b32_some h
    exact ds_ishr hd k
  case idiv =>
    subst hx
    obtain ⟨z, x, r, rfl, rfl, rfl, rfl, rfl⟩ := ds_b32_some h
    exact ds_idiv hd hob.1 k
  case irem =>
    subst hx
    obtain ⟨z, x, r, rfl, rfl, rfl, rfl, rfl⟩ := ds_b32_some h
    exact ds_irem hd hob.1 k
  case ladd =>
    subst hx
    obtain ⟨z, x, r, rfl, rfl, rfl, rfl, rfl⟩ := ds_b64_some h
    exact ds_ladd hd k
  case lsub =>
    subst hx
    obtain ⟨z, x, r, rfl, rfl, rfl, rfl, rfl⟩ := ds_b64_some h
    exact ds_lsub hd k
  case lmul =>
    subst hx
    obtain ⟨z, x, r, rfl, rfl, rfl, rfl, rfl⟩ := ds_b64_some h
    exact ds_lmul hd k
  case ldiv =>
    subst hx
    obtain ⟨z, x, r, rfl, rfl, rfl, rfl, rfl⟩ := ds_b64_some h
    exact ds_ldiv hd hob.1 k
  case lrem =>
    subst hx
    obtain ⟨z, x, r, rfl, rfl, rfl, rfl, rfl⟩ := ds_b64_some h
    exact ds_lrem hd hob.1 k
  case lcmp =>
    try dsimp only at h
    subst hx
    split at h
    · cases h
      exact ds_lcmp hd k
    · cases h
  case ineg =>
    try dsimp only at h
    subst hx
    split at h
    · cases h
      exact ds_ineg hd k
    · cases h
  case lneg =>
    try dsimp only at h
    subst hx
    split at h
    · cases h
      exact ds_lneg hd k
    · cases h
  case i2l =>
    try dsimp only at h
    subst hx
    split at h
    · cases h
      exact ds_i2l hd k
    · cases h
  case l2i =>
    try dsimp only at h
    subst hx
    split at h
    · cases h
      exact ds_l2i hd k
    · cases h
  case dup =>
    try dsimp only at h
    subst hx
    split at h
    · next w r =>
      by_cases hw : ds_t1 w = true
      · rw [if_pos hw] at h; cases h; exact ds_dup hd (ds_t1_cat hw) k
      · rw [if_neg hw] at h; cases h
    · cases h
  case dup2 =>
    try dsimp only at h
    subst hx
    split at h
    · next w u r =>
      by_cases hw : ds_t1 w = true ∧ ds_t1 u = true
      · rw [if_pos hw] at h; cases h; exact ds_dup2 hd (ds_t1_cat hw.1) (ds_t1_cat hw.2) k
      · rw [if_neg hw] at h; cases h
    · cases h
  case getfield n =>
    try dsimp only at h
    obtain ⟨rfl, hw⟩ := hx
    unfold ds_gf at h
    split at h
    · next c r =>
      split at h
      · next hf => cases h; exact ds_getI hd hw hob.1.1 hob.1.2 hf (Or.inl rfl) k
      · next hf => cases h; exact ds_getL hd hw hob.1.1 hob.1.2 hf k
      · next hf => cases h; exact ds_getI hd hw hob.1.1 hob.1.2 hf (Or.inr rfl) k
      · next hf => cases h; exact ds_getR hd hw hob.1.1 hob.1.2 hf k
      · cases h
    · cases h
  case putfield n =>
    try dsimp only at h
    obtain ⟨rfl, hw, p0, p1, p2⟩ := hx
    unfold ds_pf at h
    split at h
    · next x c r =>
      split at h
      · next hf => cases h; exact ds_putI hd hw (p0 hf) hob.1.1 hob.1.2 hf k
      · next hf => cases h; exact ds_putZ hd hw (p2 hf) hob.1.1 hob.1.2 hf hob.2.1 k
      · cases h
    · next x c r =>
      split at h
      · next hf => cases h; exact ds_putL hd hw (p1 hf) hob.1.1 hob.1.2 hf k
      · cases h
    · cases h
  case iaload =>
    subst hx
    obtain ⟨j, c, r, rfl, rfl, rfl, rfl, rfl⟩ := ds_rd_some h
    exact ds_iald hd hob.1.1 hob.1.2 hob.2.1 k
  case baload =>
    subst hx
    obtain ⟨j, c, r, rfl, rfl, rfl, rfl, rfl⟩ := ds_rd_some h
    exact ds_zald hd hob.1.1 hob.1.2 hob.2.1 k
  case laload =>
    subst hx
    obtain ⟨j, c, r, rfl, rfl, rfl, rfl, rfl⟩ := ds_rd_some h
    exact ds_lald hd hob.1.1 hob.1.2 hob.2.1 k
  case aaload =>
    obtain ⟨rfl, hr⟩ := hx
    obtain ⟨j, c, r, rfl, rfl, rfl, rfl, rfl⟩ := ds_rd_some h
    exact ds_aald hd hob.1.1 (by rw [hob.1.2]; exact hr) hob.2.1 k
  case arraylength =>
    try dsimp only at h
    obtain ⟨rfl, hr⟩ := hx
    split at h
    · cases h
      exact ds_alen hd hob.1.1 (by rw [hob.1.2]; exact hr) rfl k
    · cases h
  case iastore =>
    try dsimp only at h
    subst hx
    split at h
    · cases h
      exact ds_iast hd hob.1.1 hob.1.2 hob.2.1 k
    · cases h
  case bastore =>
    try dsimp only at h
    subst hx
    split at h
    · cases h
      exact ds_zast hd hob.1.1 hob.1.2 hob.2.1 k
    · cases h
  case lastore =>
    try dsimp only at h
    subst hx
    split at h
    · cases h
      exact ds_last hd hob.1.1 hob.1.2 hob.2.1 k
    · cases h
  all_goals cases h
end
section
/-- n instructions, one behind the other -/
def ds_run (Y : ds_Y) : Nat → List ds_I → ds_L → List Value → ds_S → ds_O
  | 0, _, ls, st, σ => some (ls, st, σ, [])
  | _ + 1, [], _, _, _ => none
  | n + 1, i :: is, ls, st, σ => match ds_step Y i ls st σ with
    | none => none
    | some (ls1, st1, σ1, ob) => match ds_run Y n is ls1 st1 σ1 with
      | none => none
      | some (ls2, st2, σ2, ob2) => some (ls2, st2, σ2, ob ++ ob2)
def ds_pc : List ds_I → Nat
  | [] => 0
  | i :: _ => i.1
def ds_sq (i : ds_I) : List ds_I → Bool
  | [] => true
  | j :: _ => decide (j.1 = i.1 + i.2.2.1)
def ds_seq : List ds_I → Bool
  | [] => true
  | i :: r => ds_sq i r && ds_seq r
def ds_good (y : ds_M) (is : List ds_I) : Prop := (∀ i ∈ is, ds_ok y i) ∧ ds_seq is = true
theorem ds_good.tail {y : ds_M} {i : ds_I} {is : List ds_I} (h : ds_good y (i :: is)) : ds_good y is := by
  refine ⟨fun j hj => h.1 j (List.mem_cons_of_mem _ hj), ?_⟩
  have h2 := h.2
  rw [ds_seq, Bool.and_eq_true] at h2
  exact h2.2
theorem ds_good.drop {y : ds_M} {is : List ds_I} (h : ds_good y is) (n : Nat) : ds_good y (is.drop n) := by
  induction n generalizing is with
  | zero => exact h
  | succ n ih =>
    cases is with
    | nil => exact h
    | cons i r => exact ih h.tail
theorem ds_go {y : ds_M} {Y : ds_Y} {Q : Option Value → ds_S → Prop} : ∀ (n : Nat) (is : List ds_I) (ls ls2 : ds_L) (st st2 : List Value) (σ σ2 : ds_S) (ob : List Prop), ds_good y is → ds_run Y n is ls st σ = some (ls2, st2, σ2, ob) → (is.drop n).isEmpty = false → ds_all ob → ds_X y Y (ds_pc (is.drop n)) ls2 st2 σ2 Q → ds_X y Y (ds_pc is) ls st σ Q := by
  intro n
  induction n with
  | zero =>
    intro is ls ls2 st st2 σ σ2 ob hg hr he hob k
    simp only [ds_run, Option.some.injEq, Prod.mk.injEq] at hr
    obtain ⟨rfl, rfl, rfl, rfl⟩ := hr
    exact k
  | succ n ih =>
    intro is ls ls2 st st2 σ σ2 ob hg hr he hob k
    cases is with
    | nil => simp [ds_run] at hr
    | cons i r =>
      rw [ds_run] at hr
      cases h1 : ds_step Y i ls st σ with
      | none => rw [h1] at hr; cases hr
      | some q =>
        obtain ⟨ls1, st1, σ1, ob1⟩ := q
        rw [h1] at hr
        dsimp only at hr
        cases h2 : ds_run Y n r ls1 st1 σ1 with
        | none => rw [h2] at hr; cases hr
        | some q =>
          obtain ⟨ls3, st3, σ3, ob3⟩ := q
          rw [h2] at hr
          simp only [Option.some.injEq, Prod.mk.injEq] at hr
          obtain ⟨rfl, rfl, rfl, rfl⟩ := hr
          obtain ⟨hb1, hb2⟩ := ds_all_app hob
          have hX := ih r ls1 ls3 st1 st3 σ1 σ3 ob3 hg.tail h2 he hb2 k
          refine ds_step_ok (hg.1 i List.mem_cons_self) h1 hb1 ?_
          have hseq := hg.2
          cases r with
          | nil =>
            cases n with
            | zero => simp at he
            | succ n => simp [ds_run] at h2
          | cons j t =>
            rw [ds_seq, Bool.and_eq_true] at hseq
            have e : j.1 = i.1 + i.2.2.1 := of_decide_eq_true hseq.1
            rw [← e]
            exact hX
/-- a block of a method's instructions, from its a-th on -/
theorem ds_blk {y : ds_M} {Y : ds_Y} {Q : Option Value → ds_S → Prop} {prog : List ds_I} (hg : ds_good y prog) (a n pc pc2 : Nat) {ls ls2 : ds_L} {st st2 : List Value} {σ σ2 : ds_S} (ob : List Prop) (h1 : ds_pc (prog.drop a) = pc) (h2 : ds_pc ((prog.drop a).drop n) = pc2) (he : ((prog.drop a).drop n).isEmpty = false) (hr : ds_run Y n (prog.drop a) ls st σ = some (ls2, st2, σ2, ob)) (hob : ds_all ob) (k : ds_X y Y pc2 ls2 st2 σ2 Q) : ds_X y Y pc ls st σ Q := by
  subst h1; subst h2
  exact ds_go n (prog.drop a) ls ls2 st st2 σ σ2 ob (hg.drop a) hr he hob k
/-- how the a-th instruction decodes -/
theorem ds_dec {y : ds_M} {prog : List ds_I} (hg : ds_good y prog) (a : Nat) {i : ds_I} (h : prog[a]? = some i) : decode y.2.1 i.1 = .ok (i.2.1, i.2.2.1) := (hg.1 i (List.mem_of_getElem? h)).1
/-! the check of a method's instructions, by a program -/
theorem ds_usT : ∀ (ci : Nat) (q : vw_C), vwCl[ci]? = some q → ∀ w ∈ u_ws q.1 q.2.1 q.2.2, w ∈ ds_T := by
  have good : ∀ (C : String) (T : u_T) (N : Nat), ∀ w ∈ u_ws C T N, goodWord w = true := by
    intro C T N w hw
    obtain ⟨k, -, rfl⟩ := List.mem_map.mp hw
    unfold u_lay
    split <;> rfl
  have key : ∀ (C : String) (T : u_T) (N : Nat), (∀ w ∈ u_ws C T N, w ∈ lw_tbl) → ∀ w ∈ u_ws C T N, w ∈ ds_T := fun C T N h w hw => List.mem_filter.mpr ⟨h w hw, good C T N w hw⟩
  intro ci q h
  match ci, h with
  | 0, h => cases h; exact key _ _ _ inX0
  | 1, h => cases h; exact key _ _ _ inX1
  | 2, h => cases h; exact key _ _ _ inX2
  | 3, h => cases h; exact key _ _ _ inX3
  | 4, h => cases h; exact key _ _ _ inX4
  | 5, h => cases h; exact key _ _ _ inX5
  | 6, h => cases h; exact key _ _ _ inX6
  | 7, h => cases h; exact key _ _ _ inX7
  | 8, h => cases h; exact key _ _ _ inX8
  | 9, h => cases h; exact key _ _ _ inX9
  | ci + 10, h => simp [vwCl] at h
theorem ds_nmT : ∀ (ci : Nat) (q : vw_C), vwCl[ci]? = some q → (∃ ty0 : Nat → FieldType, ∀ k, k < q.2.2 → parseFieldDescriptor (q.2.1 k).2.2.1 = some (ty0 k)) ∧ ∀ a, a < q.2.2 → ∀ b, b < q.2.2 → a ≠ b → (q.2.1 a).2.1 ≠ (q.2.1 b).2.1 := by
  intro ci q h
  match ci, h with
  | 0, h => cases h; exact ⟨⟨_, tyX0_ok⟩, nmX0⟩
  | 1, h => cases h; exact ⟨⟨_, tyX1_ok⟩, nmX1⟩
  | 2, h => cases h; exact ⟨⟨_, tyX2_ok⟩, nmX2⟩
  | 3, h => cases h; exact ⟨⟨_, tyX3_ok⟩, nmX3⟩
  | 4, h => cases h; exact ⟨⟨_, tyX4_ok⟩, nmX4⟩
  | 5, h => cases h; exact ⟨⟨_, tyX5_ok⟩, nmX5⟩
  | 6, h => cases h; exact ⟨⟨_, tyX6_ok⟩, nmX6⟩
  | 7, h => cases h; exact ⟨⟨_, tyX7_ok⟩, nmX7⟩
  | 8, h => cases h; exact ⟨⟨_, tyX8_ok⟩, nmX8⟩
  | 9, h => cases h; exact ⟨⟨_, tyX9_ok⟩, nmX9⟩
  | ci + 10, h => simp [vwCl] at h
def ds_wb (p : Nat) (w : Cond) : Bool := decide (lw_tbl[p]? = some w) && goodWord w
theorem ds_wb_T {p : Nat} {w : Cond} (h : ds_wb p w = true) : w ∈ ds_T := by
  simp only [ds_wb, Bool.and_eq_true, decide_eq_true_eq] at h
  exact ds_T_of h.1 h.2
def ds_fb (own : String) (idx ci k p : Nat) : Bool := match vwCl[ci]? with
  | some q => decide (k < q.2.2) && decide (q.2.2 = (ds_fc ci).length) && ds_wb p (.fieldLink own idx (q.2.1 k).1 (q.2.1 k).2.1 (q.2.1 k).2.2.1)
  | none => false
theorem ds_fb_ok {y : ds_M} {idx ci k p : Nat} (h : ds_fb y.1.cls idx ci k p = true) : ds_fld y idx ci k := by
  unfold ds_fb at h
  split at h
  · next q hq =>
    simp only [Bool.and_eq_true, decide_eq_true_eq] at h
    exact ⟨q, hq, h.1.1, h.1.2, ds_wb_T h.2, ds_usT ci q hq⟩
  · cases h
def ds_pb (ci k : Nat) (ty : FieldType) : Bool := match vwCl[ci]? with
  | some q => !(q.2.1 k).2.2.2 && decide (parseFieldDescriptor (q.2.1 k).2.2.1 = some ty)
  | none => false
theorem ds_pb_ok {ci k : Nat} {ty : FieldType} (h : ds_pb ci k ty = true) : ds_fldP ci k ty := by
  unfold ds_pb at h
  split at h
  · next q hq =>
    simp only [Bool.and_eq_true, decide_eq_true_eq, Bool.not_eq_true'] at h
    exact ⟨q, hq, h.1, h.2, (ds_nmT ci q hq).1, (ds_nmT ci q hq).2⟩
  · cases h
def ds_okb (own : String) (bytes : ByteArray) (i : ds_I) : Bool := decide (decode bytes i.1 = .ok (i.2.1, i.2.2.1)) && (match i.2.1 with
  | .iconst n => decide (i.2.2.1 = 1) && decide (i.2.2.2.2.2.2 = .int (Int32.ofInt n))
  | .bipush n => decide (i.2.2.1 = 2) && decide (i.2.2.2.2.2.2 = .int (Int8.ofInt n).toInt32)
  | .sipush n => decide (i.2.2.1 = 3) && decide (i.2.2.2.2.2.2 = .int (Int16.ofInt n).toInt32)
  | .lconst n => decide (i.2.2.1 = 1) && decide (i.2.2.2.2.2.2 = .long (Int64.ofNat n))
  | .ldc n => decide (i.2.2.1 = 2) && (match i.2.2.2.2.2.2 with
    | .int v => ds_wb i.2.2.2.2.2.1 (.constant own n v)
    | _ => false)
  | .ldc2_w n => decide (i.2.2.1 = 3) && (match i.2.2.2.2.2.2 with
    | .long v => ds_wb i.2.2.2.2.2.1 (.constantLong own n v)
    | _ => false)
  | .iload _ => decide (i.2.2.1 = 2)
  | .lload _ => decide (i.2.2.1 = 2)
  | .aload _ => decide (i.2.2.1 = 2)
  | .istore _ => decide (i.2.2.1 = 2)
  | .lstore _ => decide (i.2.2.1 = 2)
  | .astore _ => decide (i.2.2.1 = 2)
  | .iinc _ n => decide (i.2.2.1 = 3) && decide (i.2.2.2.2.2.2 = .int (Int32.ofInt n))
  | .getfield idx => decide (i.2.2.1 = 3) && ds_fb own idx i.2.2.2.1 i.2.2.2.2.1 i.2.2.2.2.2.1
  | .putfield idx => decide (i.2.2.1 = 3) && ds_fb own idx i.2.2.2.1 i.2.2.2.2.1 i.2.2.2.2.2.1 && (match (ds_fc i.2.2.2.1)[i.2.2.2.2.1]? with
    | some 0 => ds_pb i.2.2.2.1 i.2.2.2.2.1 .int
    | some 1 => ds_pb i.2.2.2.1 i.2.2.2.2.1 .long
    | some 2 => ds_pb i.2.2.2.1 i.2.2.2.2.1 .boolean
    | _ => false)
  | .aaload => decide (i.2.2.1 = 1) && (decide (i.2.2.2.1 = 13) || decide (i.2.2.2.1 = 14))
  | .arraylength => decide (i.2.2.1 = 1) && (decide (i.2.2.2.1 = 10) || decide (i.2.2.2.1 = 11))
  | .goto _ => true
  | .ifCond _ _ => true
  | .if_icmp _ _ => true
  | .invokevirtual _ => true
  | .invokestatic _ => true
  | .tableswitch _ _ _ _ => true
  | _ => decide (i.2.2.1 = 1))
set_option maxHeartbeats 4000000 in
theorem ds_okb_ok {y : ds_M} {i : ds_I} (h : ds_okb y.1.cls y.2.1 i = true) : ds_ok y i := by
  unfold ds_okb at h
  rw [Bool.and_eq_true] at h
  obtain ⟨h1, h⟩ := h
  refine ⟨of_decide_eq_true h1, ?_⟩
  clear h1
  obtain ⟨pc, ins, len, r1, r2, r3, v⟩ := i
  unfold ds_okx
  dsimp only at h ⊢
  cases ins
  case iconst n => simpa using h
  case bipush n => simpa using h
  case sipush n => simpa using h
  case lconst n => simpa using h
  case ldc n =>
    dsimp only at h ⊢
    rw [Bool.and_eq_true] at h
    refine ⟨of_decide_eq_true h.1, ?_⟩
    cases v
    case int v => exact ⟨v, rfl, ds_wb_T h.2⟩
    all_goals cases h.2
  case ldc2_w n =>
    dsimp only at h ⊢
    rw [Bool.and_eq_true] at h
    refine ⟨of_decide_eq_true h.1, ?_⟩
    cases v
    case long v => exact ⟨v, rfl, ds_wb_T h.2⟩
    all_goals cases h.2
  case iinc n z => simpa using h
  case getfield idx =>
    dsimp only at h ⊢
    rw [Bool.and_eq_true] at h
    exact ⟨of_decide_eq_true h.1, ds_fb_ok h.2⟩
  case putfield idx =>
    dsimp only at h ⊢
    rw [Bool.and_eq_true, Bool.and_eq_true] at h
    refine ⟨of_decide_eq_true h.1.1, ds_fb_ok h.1.2, fun e => ?_, fun e => ?_, fun e => ?_⟩
    · have h2 := h.2; rw [e] at h2; exact ds_pb_ok h2
    · have h2 := h.2; rw [e] at h2; exact ds_pb_ok h2
    · have h2 := h.2; rw [e] at h2; exact ds_pb_ok h2
  case aaload => simpa using h
  case arraylength => simpa using h
  all_goals first | trivial | exact of_decide_eq_true h
theorem ds_good_of {y : ds_M} {is : List ds_I} (h : is.all (ds_okb y.1.cls y.2.1) = true) (hs : ds_seq is = true) : ds_good y is := ⟨fun i hi => ds_okb_ok (List.all_eq_true.mp h i hi), hs⟩
theorem ds_all_and {a b : List ds_I} {f : ds_I → Bool} (ha : a.all f = true) (hb : b.all f = true) : (a ++ b).all f = true := by rw [List.all_append, ha, hb]; rfl
end
