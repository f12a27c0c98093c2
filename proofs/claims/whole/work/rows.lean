section
-- ===== PART A: goes FIRST, ahead of the names: the tables' words, and 'selects' of the private methods out of them =====
/-- a private method of a class that the tables say can be made, by its rows of tables_1 -/
def lw_okq (q : MethodName × Nat) : Prop := (q.1.cls ≠ "java/lang/invoke/MethodHandle" ∧ q.1.cls ≠ "java/lang/invoke/VarHandle") ∧ Cond.instantiable q.1.cls q.2 ∈ tables_1 ∧ Cond.privateMethod q.1 ∈ tables_1 ∧ Cond.instanceMethod q.1 ∈ tables_1
theorem lw_p0 : lw_okq (⟨"LeastWants", "isRow", "(I)Z"⟩, 12) := ⟨⟨by decide +kernel, by decide +kernel⟩, List.mem_of_getElem? (i := 18) (by decide +kernel), List.mem_of_getElem? (i := 297) (by decide +kernel), List.mem_of_getElem? (i := 298) (by decide +kernel)⟩
theorem lw_p1 : lw_okq (⟨"LeastWants", "found", "(I)I"⟩, 12) := ⟨⟨by decide +kernel, by decide +kernel⟩, List.mem_of_getElem? (i := 18) (by decide +kernel), List.mem_of_getElem? (i := 302) (by decide +kernel), List.mem_of_getElem? (i := 303) (by decide +kernel)⟩
theorem lw_p2 : lw_okq (⟨"LeastWants", "fine", "(I)I"⟩, 12) := ⟨⟨by decide +kernel, by decide +kernel⟩, List.mem_of_getElem? (i := 18) (by decide +kernel), List.mem_of_getElem? (i := 311) (by decide +kernel), List.mem_of_getElem? (i := 312) (by decide +kernel)⟩
theorem lw_p3 : lw_okq (⟨"LeastWants$Reader", "step", "()V"⟩, 7) := ⟨⟨by decide +kernel, by decide +kernel⟩, List.mem_of_getElem? (i := 108) (by decide +kernel), List.mem_of_getElem? (i := 364) (by decide +kernel), List.mem_of_getElem? (i := 365) (by decide +kernel)⟩
theorem lw_p4 : lw_okq (⟨"LeastWants$Reader", "readsLaw", "(LLeastWants$Town;)Z"⟩, 7) := ⟨⟨by decide +kernel, by decide +kernel⟩, List.mem_of_getElem? (i := 108) (by decide +kernel), List.mem_of_getElem? (i := 374) (by decide +kernel), List.mem_of_getElem? (i := 375) (by decide +kernel)⟩
theorem lw_p5 : lw_okq (⟨"LeastWants$Reader", "passesWord", "(Ljava/lang/String;)Z"⟩, 7) := ⟨⟨by decide +kernel, by decide +kernel⟩, List.mem_of_getElem? (i := 108) (by decide +kernel), List.mem_of_getElem? (i := 379) (by decide +kernel), List.mem_of_getElem? (i := 380) (by decide +kernel)⟩
theorem lw_p6 : lw_okq (⟨"LeastWants$Reader", "isWord", "(Ljava/lang/String;)Z"⟩, 7) := ⟨⟨by decide +kernel, by decide +kernel⟩, List.mem_of_getElem? (i := 108) (by decide +kernel), List.mem_of_getElem? (i := 383) (by decide +kernel), List.mem_of_getElem? (i := 384) (by decide +kernel)⟩
theorem lw_p7 : lw_okq (⟨"LeastWants$Reader", "isWrong", "(I)Z"⟩, 7) := ⟨⟨by decide +kernel, by decide +kernel⟩, List.mem_of_getElem? (i := 108) (by decide +kernel), List.mem_of_getElem? (i := 435) (by decide +kernel), List.mem_of_getElem? (i := 436) (by decide +kernel)⟩
theorem lw_p8 : lw_okq (⟨"LeastWants$Reader", "passesNumber", "(I)Z"⟩, 7) := ⟨⟨by decide +kernel, by decide +kernel⟩, List.mem_of_getElem? (i := 108) (by decide +kernel), List.mem_of_getElem? (i := 439) (by decide +kernel), List.mem_of_getElem? (i := 440) (by decide +kernel)⟩
theorem lw_p9 : lw_okq (⟨"LeastWants$Reader", "numberTold", "()I"⟩, 7) := ⟨⟨by decide +kernel, by decide +kernel⟩, List.mem_of_getElem? (i := 108) (by decide +kernel), List.mem_of_getElem? (i := 443) (by decide +kernel), List.mem_of_getElem? (i := 444) (by decide +kernel)⟩
theorem lw_p10 : lw_okq (⟨"LeastWants$Reader", "passesSign", "()Z"⟩, 7) := ⟨⟨by decide +kernel, by decide +kernel⟩, List.mem_of_getElem? (i := 108) (by decide +kernel), List.mem_of_getElem? (i := 447) (by decide +kernel), List.mem_of_getElem? (i := 448) (by decide +kernel)⟩
theorem lw_p11 : lw_okq (⟨"LeastWants$Reader", "readsPeople", "(LLeastWants$Town;)Z"⟩, 7) := ⟨⟨by decide +kernel, by decide +kernel⟩, List.mem_of_getElem? (i := 108) (by decide +kernel), List.mem_of_getElem? (i := 451) (by decide +kernel), List.mem_of_getElem? (i := 452) (by decide +kernel)⟩
theorem lw_p12 : lw_okq (⟨"LeastWants$Reader", "readsSort", "(LLeastWants$Town;I)Z"⟩, 7) := ⟨⟨by decide +kernel, by decide +kernel⟩, List.mem_of_getElem? (i := 108) (by decide +kernel), List.mem_of_getElem? (i := 456) (by decide +kernel), List.mem_of_getElem? (i := 457) (by decide +kernel)⟩
theorem lw_p13 : lw_okq (⟨"LeastWants$Reader", "sortTold", "()I"⟩, 7) := ⟨⟨by decide +kernel, by decide +kernel⟩, List.mem_of_getElem? (i := 108) (by decide +kernel), List.mem_of_getElem? (i := 460) (by decide +kernel), List.mem_of_getElem? (i := 461) (by decide +kernel)⟩
theorem lw_p14 : lw_okq (⟨"LeastWants$Reader", "readsThings", "(LLeastWants$Town;)Z"⟩, 7) := ⟨⟨by decide +kernel, by decide +kernel⟩, List.mem_of_getElem? (i := 108) (by decide +kernel), List.mem_of_getElem? (i := 469) (by decide +kernel), List.mem_of_getElem? (i := 470) (by decide +kernel)⟩
theorem lw_p15 : lw_okq (⟨"LeastWants", "isThing", "(I)Z"⟩, 12) := ⟨⟨by decide +kernel, by decide +kernel⟩, List.mem_of_getElem? (i := 18) (by decide +kernel), List.mem_of_getElem? (i := 484) (by decide +kernel), List.mem_of_getElem? (i := 485) (by decide +kernel)⟩
def lw_privs_1 : List (MethodName × Nat) := [(⟨"LeastWants", "isRow", "(I)Z"⟩, 12), (⟨"LeastWants", "found", "(I)I"⟩, 12), (⟨"LeastWants", "fine", "(I)I"⟩, 12), (⟨"LeastWants$Reader", "step", "()V"⟩, 7), (⟨"LeastWants$Reader", "readsLaw", "(LLeastWants$Town;)Z"⟩, 7), (⟨"LeastWants$Reader", "passesWord", "(Ljava/lang/String;)Z"⟩, 7), (⟨"LeastWants$Reader", "isWord", "(Ljava/lang/String;)Z"⟩, 7), (⟨"LeastWants$Reader", "isWrong", "(I)Z"⟩, 7), (⟨"LeastWants$Reader", "passesNumber", "(I)Z"⟩, 7), (⟨"LeastWants$Reader", "numberTold", "()I"⟩, 7), (⟨"LeastWants$Reader", "passesSign", "()Z"⟩, 7), (⟨"LeastWants$Reader", "readsPeople", "(LLeastWants$Town;)Z"⟩, 7), (⟨"LeastWants$Reader", "readsSort", "(LLeastWants$Town;I)Z"⟩, 7), (⟨"LeastWants$Reader", "sortTold", "()I"⟩, 7), (⟨"LeastWants$Reader", "readsThings", "(LLeastWants$Town;)Z"⟩, 7), (⟨"LeastWants", "isThing", "(I)Z"⟩, 12)]
theorem lw_r1 : ∀ q ∈ lw_privs_1, lw_okq q := List.forall_mem_cons.mpr ⟨lw_p0, List.forall_mem_cons.mpr ⟨lw_p1, List.forall_mem_cons.mpr ⟨lw_p2, List.forall_mem_cons.mpr ⟨lw_p3, List.forall_mem_cons.mpr ⟨lw_p4, List.forall_mem_cons.mpr ⟨lw_p5, List.forall_mem_cons.mpr ⟨lw_p6, List.forall_mem_cons.mpr ⟨lw_p7, List.forall_mem_cons.mpr ⟨lw_p8, List.forall_mem_cons.mpr ⟨lw_p9, List.forall_mem_cons.mpr ⟨lw_p10, List.forall_mem_cons.mpr ⟨lw_p11, List.forall_mem_cons.mpr ⟨lw_p12, List.forall_mem_cons.mpr ⟨lw_p13, List.forall_mem_cons.mpr ⟨lw_p14, List.forall_mem_cons.mpr ⟨lw_p15, fun _ h => absurd h List.not_mem_nil⟩⟩⟩⟩⟩⟩⟩⟩⟩⟩⟩⟩⟩⟩⟩⟩
theorem lw_p16 : lw_okq (⟨"LeastWants", "hear", "(I)I"⟩, 12) := ⟨⟨by decide +kernel, by decide +kernel⟩, List.mem_of_getElem? (i := 18) (by decide +kernel), List.mem_of_getElem? (i := 494) (by decide +kernel), List.mem_of_getElem? (i := 495) (by decide +kernel)⟩
theorem lw_p17 : lw_okq (⟨"LeastWants", "holdRound", "(II)I"⟩, 12) := ⟨⟨by decide +kernel, by decide +kernel⟩, List.mem_of_getElem? (i := 18) (by decide +kernel), List.mem_of_getElem? (i := 503) (by decide +kernel), List.mem_of_getElem? (i := 504) (by decide +kernel)⟩
theorem lw_p18 : lw_okq (⟨"LeastWants", "isPerson", "(I)Z"⟩, 12) := ⟨⟨by decide +kernel, by decide +kernel⟩, List.mem_of_getElem? (i := 18) (by decide +kernel), List.mem_of_getElem? (i := 583) (by decide +kernel), List.mem_of_getElem? (i := 584) (by decide +kernel)⟩
theorem lw_p19 : lw_okq (⟨"LeastWants$Foretold", "advance", "()V"⟩, 4) := ⟨⟨by decide +kernel, by decide +kernel⟩, List.mem_of_getElem? (i := 204) (by decide +kernel), List.mem_of_getElem? (i := 646) (by decide +kernel), List.mem_of_getElem? (i := 647) (by decide +kernel)⟩
theorem lw_p20 : lw_okq (⟨"LeastWants$Asking", "sizeBody", "()I"⟩, 6) := ⟨⟨by decide +kernel, by decide +kernel⟩, List.mem_of_getElem? (i := 229) (by decide +kernel), List.mem_of_getElem? (i := 722) (by decide +kernel), List.mem_of_getElem? (i := 723) (by decide +kernel)⟩
theorem lw_p21 : lw_okq (⟨"LeastWants$Asking", "markBody", "()I"⟩, 6) := ⟨⟨by decide +kernel, by decide +kernel⟩, List.mem_of_getElem? (i := 229) (by decide +kernel), List.mem_of_getElem? (i := 731) (by decide +kernel), List.mem_of_getElem? (i := 732) (by decide +kernel)⟩
theorem lw_p22 : lw_okq (⟨"LeastWants$Asking", "begin", "(II)I"⟩, 6) := ⟨⟨by decide +kernel, by decide +kernel⟩, List.mem_of_getElem? (i := 229) (by decide +kernel), List.mem_of_getElem? (i := 737) (by decide +kernel), List.mem_of_getElem? (i := 738) (by decide +kernel)⟩
theorem lw_p23 : lw_okq (⟨"LeastWants$Asking", "leave", "(I)V"⟩, 6) := ⟨⟨by decide +kernel, by decide +kernel⟩, List.mem_of_getElem? (i := 229) (by decide +kernel), List.mem_of_getElem? (i := 741) (by decide +kernel), List.mem_of_getElem? (i := 742) (by decide +kernel)⟩
theorem lw_p24 : lw_okq (⟨"LeastWants", "countRows", "()I"⟩, 12) := ⟨⟨by decide +kernel, by decide +kernel⟩, List.mem_of_getElem? (i := 18) (by decide +kernel), List.mem_of_getElem? (i := 753) (by decide +kernel), List.mem_of_getElem? (i := 754) (by decide +kernel)⟩
theorem lw_p25 : lw_okq (⟨"LeastWantsModel", "finding", "(I)I"⟩, 24) := ⟨⟨by decide +kernel, by decide +kernel⟩, List.mem_of_getElem? (i := 765) (by decide +kernel), List.mem_of_getElem? (i := 858) (by decide +kernel), List.mem_of_getElem? (i := 859) (by decide +kernel)⟩
theorem lw_p26 : lw_okq (⟨"LeastWantsModel", "begin", "()V"⟩, 24) := ⟨⟨by decide +kernel, by decide +kernel⟩, List.mem_of_getElem? (i := 765) (by decide +kernel), List.mem_of_getElem? (i := 886) (by decide +kernel), List.mem_of_getElem? (i := 887) (by decide +kernel)⟩
theorem lw_p27 : lw_okq (⟨"LeastWantsModel", "next", "()V"⟩, 24) := ⟨⟨by decide +kernel, by decide +kernel⟩, List.mem_of_getElem? (i := 765) (by decide +kernel), List.mem_of_getElem? (i := 890) (by decide +kernel), List.mem_of_getElem? (i := 891) (by decide +kernel)⟩
theorem lw_p28 : lw_okq (⟨"LeastWantsModel", "byteAt", "(I)I"⟩, 24) := ⟨⟨by decide +kernel, by decide +kernel⟩, List.mem_of_getElem? (i := 765) (by decide +kernel), List.mem_of_getElem? (i := 894) (by decide +kernel), List.mem_of_getElem? (i := 895) (by decide +kernel)⟩
theorem lw_p29 : lw_okq (⟨"LeastWantsModel", "name", "()J"⟩, 24) := ⟨⟨by decide +kernel, by decide +kernel⟩, List.mem_of_getElem? (i := 765) (by decide +kernel), List.mem_of_getElem? (i := 905) (by decide +kernel), List.mem_of_getElem? (i := 906) (by decide +kernel)⟩
theorem lw_p30 : lw_okq (⟨"LeastWantsModel", "must", "(Z)V"⟩, 24) := ⟨⟨by decide +kernel, by decide +kernel⟩, List.mem_of_getElem? (i := 765) (by decide +kernel), List.mem_of_getElem? (i := 910) (by decide +kernel), List.mem_of_getElem? (i := 911) (by decide +kernel)⟩
theorem lw_p31 : lw_okq (⟨"LeastWantsModel", "bad", "(I)V"⟩, 24) := ⟨⟨by decide +kernel, by decide +kernel⟩, List.mem_of_getElem? (i := 765) (by decide +kernel), List.mem_of_getElem? (i := 914) (by decide +kernel), List.mem_of_getElem? (i := 915) (by decide +kernel)⟩
def lw_privs_2 : List (MethodName × Nat) := [(⟨"LeastWants", "hear", "(I)I"⟩, 12), (⟨"LeastWants", "holdRound", "(II)I"⟩, 12), (⟨"LeastWants", "isPerson", "(I)Z"⟩, 12), (⟨"LeastWants$Foretold", "advance", "()V"⟩, 4), (⟨"LeastWants$Asking", "sizeBody", "()I"⟩, 6), (⟨"LeastWants$Asking", "markBody", "()I"⟩, 6), (⟨"LeastWants$Asking", "begin", "(II)I"⟩, 6), (⟨"LeastWants$Asking", "leave", "(I)V"⟩, 6), (⟨"LeastWants", "countRows", "()I"⟩, 12), (⟨"LeastWantsModel", "finding", "(I)I"⟩, 24), (⟨"LeastWantsModel", "begin", "()V"⟩, 24), (⟨"LeastWantsModel", "next", "()V"⟩, 24), (⟨"LeastWantsModel", "byteAt", "(I)I"⟩, 24), (⟨"LeastWantsModel", "name", "()J"⟩, 24), (⟨"LeastWantsModel", "must", "(Z)V"⟩, 24), (⟨"LeastWantsModel", "bad", "(I)V"⟩, 24)]
theorem lw_r2 : ∀ q ∈ lw_privs_2, lw_okq q := List.forall_mem_cons.mpr ⟨lw_p16, List.forall_mem_cons.mpr ⟨lw_p17, List.forall_mem_cons.mpr ⟨lw_p18, List.forall_mem_cons.mpr ⟨lw_p19, List.forall_mem_cons.mpr ⟨lw_p20, List.forall_mem_cons.mpr ⟨lw_p21, List.forall_mem_cons.mpr ⟨lw_p22, List.forall_mem_cons.mpr ⟨lw_p23, List.forall_mem_cons.mpr ⟨lw_p24, List.forall_mem_cons.mpr ⟨lw_p25, List.forall_mem_cons.mpr ⟨lw_p26, List.forall_mem_cons.mpr ⟨lw_p27, List.forall_mem_cons.mpr ⟨lw_p28, List.forall_mem_cons.mpr ⟨lw_p29, List.forall_mem_cons.mpr ⟨lw_p30, List.forall_mem_cons.mpr ⟨lw_p31, fun _ h => absurd h List.not_mem_nil⟩⟩⟩⟩⟩⟩⟩⟩⟩⟩⟩⟩⟩⟩⟩⟩
theorem lw_p32 : lw_okq (⟨"LeastWantsModel", "number", "(II)I"⟩, 24) := ⟨⟨by decide +kernel, by decide +kernel⟩, List.mem_of_getElem? (i := 765) (by decide +kernel), List.mem_of_getElem? (i := 918) (by decide +kernel), List.mem_of_getElem? (i := 919) (by decide +kernel)⟩
theorem lw_p33 : lw_okq (⟨"LeastWantsModel", "figures", "()I"⟩, 24) := ⟨⟨by decide +kernel, by decide +kernel⟩, List.mem_of_getElem? (i := 765) (by decide +kernel), List.mem_of_getElem? (i := 922) (by decide +kernel), List.mem_of_getElem? (i := 923) (by decide +kernel)⟩
theorem lw_p34 : lw_okq (⟨"LeastWantsModel", "mustEnd", "()V"⟩, 24) := ⟨⟨by decide +kernel, by decide +kernel⟩, List.mem_of_getElem? (i := 765) (by decide +kernel), List.mem_of_getElem? (i := 926) (by decide +kernel), List.mem_of_getElem? (i := 927) (by decide +kernel)⟩
theorem lw_p35 : lw_okq (⟨"LeastWantsModel", "readPerson", "()V"⟩, 24) := ⟨⟨by decide +kernel, by decide +kernel⟩, List.mem_of_getElem? (i := 765) (by decide +kernel), List.mem_of_getElem? (i := 931) (by decide +kernel), List.mem_of_getElem? (i := 932) (by decide +kernel)⟩
theorem lw_p36 : lw_okq (⟨"LeastWantsModel", "begins", "(II)V"⟩, 24) := ⟨⟨by decide +kernel, by decide +kernel⟩, List.mem_of_getElem? (i := 765) (by decide +kernel), List.mem_of_getElem? (i := 935) (by decide +kernel), List.mem_of_getElem? (i := 936) (by decide +kernel)⟩
theorem lw_p37 : lw_okq (⟨"LeastWantsModel", "readThing", "()V"⟩, 24) := ⟨⟨by decide +kernel, by decide +kernel⟩, List.mem_of_getElem? (i := 765) (by decide +kernel), List.mem_of_getElem? (i := 948) (by decide +kernel), List.mem_of_getElem? (i := 949) (by decide +kernel)⟩
theorem lw_p38 : lw_okq (⟨"LeastWantsModel", "isThing", "(I)Z"⟩, 24) := ⟨⟨by decide +kernel, by decide +kernel⟩, List.mem_of_getElem? (i := 765) (by decide +kernel), List.mem_of_getElem? (i := 961) (by decide +kernel), List.mem_of_getElem? (i := 962) (by decide +kernel)⟩
theorem lw_p39 : lw_okq (⟨"LeastWantsModel", "of", "(II)I"⟩, 24) := ⟨⟨by decide +kernel, by decide +kernel⟩, List.mem_of_getElem? (i := 765) (by decide +kernel), List.mem_of_getElem? (i := 969) (by decide +kernel), List.mem_of_getElem? (i := 970) (by decide +kernel)⟩
theorem lw_p40 : lw_okq (⟨"LeastWantsModel", "barred", "(I)I"⟩, 24) := ⟨⟨by decide +kernel, by decide +kernel⟩, List.mem_of_getElem? (i := 765) (by decide +kernel), List.mem_of_getElem? (i := 974) (by decide +kernel), List.mem_of_getElem? (i := 975) (by decide +kernel)⟩
theorem lw_p41 : lw_okq (⟨"LeastWantsModel", "goRound", "(II)I"⟩, 24) := ⟨⟨by decide +kernel, by decide +kernel⟩, List.mem_of_getElem? (i := 765) (by decide +kernel), List.mem_of_getElem? (i := 979) (by decide +kernel), List.mem_of_getElem? (i := 980) (by decide +kernel)⟩
theorem lw_p42 : lw_okq (⟨"LeastWantsModel", "keep", "()V"⟩, 24) := ⟨⟨by decide +kernel, by decide +kernel⟩, List.mem_of_getElem? (i := 765) (by decide +kernel), List.mem_of_getElem? (i := 983) (by decide +kernel), List.mem_of_getElem? (i := 984) (by decide +kernel)⟩
theorem lw_p43 : lw_okq (⟨"LeastWantsModel", "likeOnes", "()I"⟩, 24) := ⟨⟨by decide +kernel, by decide +kernel⟩, List.mem_of_getElem? (i := 765) (by decide +kernel), List.mem_of_getElem? (i := 989) (by decide +kernel), List.mem_of_getElem? (i := 990) (by decide +kernel)⟩
theorem lw_p44 : lw_okq (⟨"LeastWantsModel", "leastBut", "(I)I"⟩, 24) := ⟨⟨by decide +kernel, by decide +kernel⟩, List.mem_of_getElem? (i := 765) (by decide +kernel), List.mem_of_getElem? (i := 993) (by decide +kernel), List.mem_of_getElem? (i := 994) (by decide +kernel)⟩
theorem lw_p45 : lw_okq (⟨"LeastWantsModel", "coinBy", "(III)I"⟩, 24) := ⟨⟨by decide +kernel, by decide +kernel⟩, List.mem_of_getElem? (i := 765) (by decide +kernel), List.mem_of_getElem? (i := 997) (by decide +kernel), List.mem_of_getElem? (i := 998) (by decide +kernel)⟩
theorem lw_p46 : lw_okq (⟨"LeastWantsModel", "layOwn", "(I)V"⟩, 24) := ⟨⟨by decide +kernel, by decide +kernel⟩, List.mem_of_getElem? (i := 765) (by decide +kernel), List.mem_of_getElem? (i := 1005) (by decide +kernel), List.mem_of_getElem? (i := 1006) (by decide +kernel)⟩
theorem lw_p47 : lw_okq (⟨"LeastWantsModel", "ownOf", "(II)I"⟩, 24) := ⟨⟨by decide +kernel, by decide +kernel⟩, List.mem_of_getElem? (i := 765) (by decide +kernel), List.mem_of_getElem? (i := 1009) (by decide +kernel), List.mem_of_getElem? (i := 1010) (by decide +kernel)⟩
def lw_privs_3 : List (MethodName × Nat) := [(⟨"LeastWantsModel", "number", "(II)I"⟩, 24), (⟨"LeastWantsModel", "figures", "()I"⟩, 24), (⟨"LeastWantsModel", "mustEnd", "()V"⟩, 24), (⟨"LeastWantsModel", "readPerson", "()V"⟩, 24), (⟨"LeastWantsModel", "begins", "(II)V"⟩, 24), (⟨"LeastWantsModel", "readThing", "()V"⟩, 24), (⟨"LeastWantsModel", "isThing", "(I)Z"⟩, 24), (⟨"LeastWantsModel", "of", "(II)I"⟩, 24), (⟨"LeastWantsModel", "barred", "(I)I"⟩, 24), (⟨"LeastWantsModel", "goRound", "(II)I"⟩, 24), (⟨"LeastWantsModel", "keep", "()V"⟩, 24), (⟨"LeastWantsModel", "likeOnes", "()I"⟩, 24), (⟨"LeastWantsModel", "leastBut", "(I)I"⟩, 24), (⟨"LeastWantsModel", "coinBy", "(III)I"⟩, 24), (⟨"LeastWantsModel", "layOwn", "(I)V"⟩, 24), (⟨"LeastWantsModel", "ownOf", "(II)I"⟩, 24)]
theorem lw_r3 : ∀ q ∈ lw_privs_3, lw_okq q := List.forall_mem_cons.mpr ⟨lw_p32, List.forall_mem_cons.mpr ⟨lw_p33, List.forall_mem_cons.mpr ⟨lw_p34, List.forall_mem_cons.mpr ⟨lw_p35, List.forall_mem_cons.mpr ⟨lw_p36, List.forall_mem_cons.mpr ⟨lw_p37, List.forall_mem_cons.mpr ⟨lw_p38, List.forall_mem_cons.mpr ⟨lw_p39, List.forall_mem_cons.mpr ⟨lw_p40, List.forall_mem_cons.mpr ⟨lw_p41, List.forall_mem_cons.mpr ⟨lw_p42, List.forall_mem_cons.mpr ⟨lw_p43, List.forall_mem_cons.mpr ⟨lw_p44, List.forall_mem_cons.mpr ⟨lw_p45, List.forall_mem_cons.mpr ⟨lw_p46, List.forall_mem_cons.mpr ⟨lw_p47, fun _ h => absurd h List.not_mem_nil⟩⟩⟩⟩⟩⟩⟩⟩⟩⟩⟩⟩⟩⟩⟩⟩
theorem lw_p48 : lw_okq (⟨"LeastWantsModel", "worthOf", "(II)I"⟩, 24) := ⟨⟨by decide +kernel, by decide +kernel⟩, List.mem_of_getElem? (i := 765) (by decide +kernel), List.mem_of_getElem? (i := 1013) (by decide +kernel), List.mem_of_getElem? (i := 1014) (by decide +kernel)⟩
theorem lw_p49 : lw_okq (⟨"LeastWantsModel", "isPerson", "(I)Z"⟩, 24) := ⟨⟨by decide +kernel, by decide +kernel⟩, List.mem_of_getElem? (i := 765) (by decide +kernel), List.mem_of_getElem? (i := 1029) (by decide +kernel), List.mem_of_getElem? (i := 1030) (by decide +kernel)⟩
theorem lw_p50 : lw_okq (⟨"LeastWantsModel", "gainBy", "(III)I"⟩, 24) := ⟨⟨by decide +kernel, by decide +kernel⟩, List.mem_of_getElem? (i := 765) (by decide +kernel), List.mem_of_getElem? (i := 1045) (by decide +kernel), List.mem_of_getElem? (i := 1046) (by decide +kernel)⟩
theorem lw_p51 : lw_okq (⟨"LeastWantsModel", "bestBy", "(III)I"⟩, 24) := ⟨⟨by decide +kernel, by decide +kernel⟩, List.mem_of_getElem? (i := 765) (by decide +kernel), List.mem_of_getElem? (i := 1056) (by decide +kernel), List.mem_of_getElem? (i := 1057) (by decide +kernel)⟩
theorem lw_p52 : lw_okq (⟨"LeastWantsModel", "layRow", "(I)V"⟩, 24) := ⟨⟨by decide +kernel, by decide +kernel⟩, List.mem_of_getElem? (i := 765) (by decide +kernel), List.mem_of_getElem? (i := 1065) (by decide +kernel), List.mem_of_getElem? (i := 1066) (by decide +kernel)⟩
theorem lw_p53 : lw_okq (⟨"LeastWantsModel", "isRest", "(II)Z"⟩, 24) := ⟨⟨by decide +kernel, by decide +kernel⟩, List.mem_of_getElem? (i := 765) (by decide +kernel), List.mem_of_getElem? (i := 1069) (by decide +kernel), List.mem_of_getElem? (i := 1070) (by decide +kernel)⟩
theorem lw_p54 : lw_okq (⟨"LeastWantsModel", "extreme", "(II)I"⟩, 24) := ⟨⟨by decide +kernel, by decide +kernel⟩, List.mem_of_getElem? (i := 765) (by decide +kernel), List.mem_of_getElem? (i := 1081) (by decide +kernel), List.mem_of_getElem? (i := 1082) (by decide +kernel)⟩
theorem lw_p55 : lw_okq (⟨"LeastWantsModel", "isThere", "()Z"⟩, 24) := ⟨⟨by decide +kernel, by decide +kernel⟩, List.mem_of_getElem? (i := 765) (by decide +kernel), List.mem_of_getElem? (i := 1101) (by decide +kernel), List.mem_of_getElem? (i := 1102) (by decide +kernel)⟩
theorem lw_p56 : lw_okq (⟨"LeastWantsModel", "sizeOf", "(I)I"⟩, 24) := ⟨⟨by decide +kernel, by decide +kernel⟩, List.mem_of_getElem? (i := 765) (by decide +kernel), List.mem_of_getElem? (i := 1124) (by decide +kernel), List.mem_of_getElem? (i := 1125) (by decide +kernel)⟩
theorem lw_p57 : lw_okq (⟨"LeastWantsModel", "richSize", "(I)I"⟩, 24) := ⟨⟨by decide +kernel, by decide +kernel⟩, List.mem_of_getElem? (i := 765) (by decide +kernel), List.mem_of_getElem? (i := 1128) (by decide +kernel), List.mem_of_getElem? (i := 1129) (by decide +kernel)⟩
theorem lw_p58 : lw_okq (⟨"LeastWantsModel", "began", "(I)V"⟩, 24) := ⟨⟨by decide +kernel, by decide +kernel⟩, List.mem_of_getElem? (i := 765) (by decide +kernel), List.mem_of_getElem? (i := 1132) (by decide +kernel), List.mem_of_getElem? (i := 1133) (by decide +kernel)⟩
theorem lw_p59 : lw_okq (⟨"LeastWantsModel", "plainSize", "(I)I"⟩, 24) := ⟨⟨by decide +kernel, by decide +kernel⟩, List.mem_of_getElem? (i := 765) (by decide +kernel), List.mem_of_getElem? (i := 1136) (by decide +kernel), List.mem_of_getElem? (i := 1137) (by decide +kernel)⟩
theorem lw_p60 : lw_okq (⟨"LeastWantsModel", "markOf", "(I)I"⟩, 24) := ⟨⟨by decide +kernel, by decide +kernel⟩, List.mem_of_getElem? (i := 765) (by decide +kernel), List.mem_of_getElem? (i := 1140) (by decide +kernel), List.mem_of_getElem? (i := 1141) (by decide +kernel)⟩
theorem lw_p61 : lw_okq (⟨"LeastWantsModel", "thingsOf", "(I)I"⟩, 24) := ⟨⟨by decide +kernel, by decide +kernel⟩, List.mem_of_getElem? (i := 765) (by decide +kernel), List.mem_of_getElem? (i := 1144) (by decide +kernel), List.mem_of_getElem? (i := 1145) (by decide +kernel)⟩
def lw_privs_4 : List (MethodName × Nat) := [(⟨"LeastWantsModel", "worthOf", "(II)I"⟩, 24), (⟨"LeastWantsModel", "isPerson", "(I)Z"⟩, 24), (⟨"LeastWantsModel", "gainBy", "(III)I"⟩, 24), (⟨"LeastWantsModel", "bestBy", "(III)I"⟩, 24), (⟨"LeastWantsModel", "layRow", "(I)V"⟩, 24), (⟨"LeastWantsModel", "isRest", "(II)Z"⟩, 24), (⟨"LeastWantsModel", "extreme", "(II)I"⟩, 24), (⟨"LeastWantsModel", "isThere", "()Z"⟩, 24), (⟨"LeastWantsModel", "sizeOf", "(I)I"⟩, 24), (⟨"LeastWantsModel", "richSize", "(I)I"⟩, 24), (⟨"LeastWantsModel", "began", "(I)V"⟩, 24), (⟨"LeastWantsModel", "plainSize", "(I)I"⟩, 24), (⟨"LeastWantsModel", "markOf", "(I)I"⟩, 24), (⟨"LeastWantsModel", "thingsOf", "(I)I"⟩, 24)]
theorem lw_r4 : ∀ q ∈ lw_privs_4, lw_okq q := List.forall_mem_cons.mpr ⟨lw_p48, List.forall_mem_cons.mpr ⟨lw_p49, List.forall_mem_cons.mpr ⟨lw_p50, List.forall_mem_cons.mpr ⟨lw_p51, List.forall_mem_cons.mpr ⟨lw_p52, List.forall_mem_cons.mpr ⟨lw_p53, List.forall_mem_cons.mpr ⟨lw_p54, List.forall_mem_cons.mpr ⟨lw_p55, List.forall_mem_cons.mpr ⟨lw_p56, List.forall_mem_cons.mpr ⟨lw_p57, List.forall_mem_cons.mpr ⟨lw_p58, List.forall_mem_cons.mpr ⟨lw_p59, List.forall_mem_cons.mpr ⟨lw_p60, List.forall_mem_cons.mpr ⟨lw_p61, fun _ h => absurd h List.not_mem_nil⟩⟩⟩⟩⟩⟩⟩⟩⟩⟩⟩⟩⟩⟩
def lw_privs : List (MethodName × Nat) := lw_privs_1 ++ (lw_privs_2 ++ (lw_privs_3 ++ (lw_privs_4)))
def lw_tbl : List Cond := k2_sels lw_privs ++ tables_1
theorem lw_privs_ok : ∀ q ∈ lw_privs, lw_okq q := by
  show ∀ q ∈ lw_privs_1 ++ (lw_privs_2 ++ (lw_privs_3 ++ (lw_privs_4))), lw_okq q
  exact List.forall_mem_append.mpr ⟨lw_r1, List.forall_mem_append.mpr ⟨lw_r2, List.forall_mem_append.mpr ⟨lw_r3, lw_r4⟩⟩⟩
def RX0 : String := "LeastWants$Acts"
def TX0 : u_T := fun k => match k with
  | 0 => ("LeastWants$Acts", "many", "I", false)
  | 1 => ("LeastWants$Acts", "latest", "I", false)
  | 2 => ("LeastWants$Acts", "things", "[I", true)
  | 3 => ("LeastWants$Acts", "holders", "[I", true)
  | 4 => ("LeastWants$Acts", "worn", "[I", true)
  | _ => ("LeastWants$Acts", "coins", "[I", true)
def tyX0 : Nat → FieldType := fun k => match k with
  | 0 => .int
  | 1 => .int
  | 2 => .array .int
  | 3 => .array .int
  | 4 => .array .int
  | _ => .array .int
abbrev wsX00 : List Cond := u_ws RX0 TX0 6
theorem nmX0 : ∀ a, a < 6 → ∀ b, b < 6 → a ≠ b → (TX0 a).2.1 ≠ (TX0 b).2.1 := by decide +kernel
theorem tyX0_ok : ∀ k, k < 6 → parseFieldDescriptor (TX0 k).2.2.1 = some (tyX0 k) := by decide +kernel
abbrev cX0_init : ByteArray := prog_2_method_1_code
def yX0_init : MethodName := ⟨RX0, "<init>", "()V"⟩
abbrev cX0_keep : ByteArray := prog_2_method_2_code
def yX0_keep : MethodName := ⟨RX0, "keep", "(LLeastWants$Town;I)V"⟩
abbrev cX0_takeBack : ByteArray := prog_2_method_3_code
def yX0_takeBack : MethodName := ⟨RX0, "takeBack", "(LLeastWants$Town;)V"⟩
def RX1 : String := "LeastWants$Asking"
def TX1 : u_T := fun k => match k with
  | 0 => ("LeastWants$Asking", "traced", "I", false)
  | 1 => ("LeastWants$Asking", "trail", "[I", true)
  | 2 => ("LeastWants$Asking", "asked", "I", false)
  | 3 => ("LeastWants$Asking", "askedKind", "I", false)
  | 4 => ("LeastWants$Asking", "askedCoin", "I", false)
  | _ => ("LeastWants$Asking", "askedThings", "I", false)
def tyX1 : Nat → FieldType := fun k => match k with
  | 0 => .int
  | 1 => .array .int
  | 2 => .int
  | 3 => .int
  | 4 => .int
  | _ => .int
abbrev wsX10 : List Cond := u_ws RX1 TX1 6
theorem nmX1 : ∀ a, a < 6 → ∀ b, b < 6 → a ≠ b → (TX1 a).2.1 ≠ (TX1 b).2.1 := by decide +kernel
theorem tyX1_ok : ∀ k, k < 6 → parseFieldDescriptor (TX1 k).2.2.1 = some (tyX1 k) := by decide +kernel
abbrev cX1_init : ByteArray := prog_3_method_1_code
def yX1_init : MethodName := ⟨RX1, "<init>", "()V"⟩
abbrev cX1_isOne : ByteArray := prog_3_method_2_code
def yX1_isOne : MethodName := ⟨RX1, "isOne", "(II)Z"⟩
abbrev cX1_answer : ByteArray := prog_3_method_3_code
def yX1_answer : MethodName := ⟨RX1, "answer", "(LLeastWants$Town;II)I"⟩
abbrev cX1_bodyOf : ByteArray := prog_3_method_4_code
def yX1_bodyOf : MethodName := ⟨RX1, "bodyOf", "(I[I)I"⟩
abbrev cX1_sizeBody : ByteArray := prog_3_method_5_code
def yX1_sizeBody : MethodName := ⟨RX1, "sizeBody", "()I"⟩
abbrev cX1_markBody : ByteArray := prog_3_method_6_code
def yX1_markBody : MethodName := ⟨RX1, "markBody", "()I"⟩
abbrev cX1_begin : ByteArray := prog_3_method_7_code
def yX1_begin : MethodName := ⟨RX1, "begin", "(II)I"⟩
abbrev cX1_leave : ByteArray := prog_3_method_8_code
def yX1_leave : MethodName := ⟨RX1, "leave", "(I)V"⟩
def RX2 : String := "LeastWants$Foretold"
def TX2 : u_T := fun k => match k with
  | 0 => ("LeastWants$Foretold", "manyRests", "I", false)
  | 1 => ("LeastWants$Foretold", "firstRest", "[I", true)
  | 2 => ("LeastWants$Foretold", "trial", "LLeastWants$Sayings;", true)
  | _ => ("LeastWants$Foretold", "prospect", "LLeastWants$Prospect;", true)
def tyX2 : Nat → FieldType := fun k => match k with
  | 0 => .int
  | 1 => .array .int
  | 2 => .object "LeastWants$Sayings"
  | _ => .object "LeastWants$Prospect"
abbrev wsX20 : List Cond := u_ws RX2 TX2 4
theorem nmX2 : ∀ a, a < 4 → ∀ b, b < 4 → a ≠ b → (TX2 a).2.1 ≠ (TX2 b).2.1 := by decide +kernel
theorem tyX2_ok : ∀ k, k < 4 → parseFieldDescriptor (TX2 k).2.2.1 = some (tyX2 k) := by decide +kernel
abbrev cX2_init : ByteArray := prog_4_method_1_code
def yX2_init : MethodName := ⟨RX2, "<init>", "()V"⟩
abbrev cX2_isRest : ByteArray := prog_4_method_2_code
def yX2_isRest : MethodName := ⟨RX2, "isRest", "(LLeastWants$Town;ILLeastWants$Sayings;I)Z"⟩
abbrev cX2_seekRests : ByteArray := prog_4_method_3_code
def yX2_seekRests : MethodName := ⟨RX2, "seekRests", "(LLeastWants$Town;I)V"⟩
abbrev cX2_advance : ByteArray := prog_4_method_4_code
def yX2_advance : MethodName := ⟨RX2, "advance", "()V"⟩
abbrev cX2_takeTurns : ByteArray := prog_4_method_5_code
def yX2_takeTurns : MethodName := ⟨RX2, "takeTurns", "(LLeastWants$Town;ILLeastWants$Sayings;)I"⟩
def RX3 : String := "LeastWants$Prospect"
def TX3 : u_T := fun k => match k with
  | 0 => ("LeastWants$Prospect", "odds", "I", false)
  | 1 => ("LeastWants$Prospect", "lowest", "I", false)
  | 2 => ("LeastWants$Prospect", "below", "I", false)
  | 3 => ("LeastWants$Prospect", "shared", "I", false)
  | _ => ("LeastWants$Prospect", "above", "I", false)
def tyX3 : Nat → FieldType := fun k => match k with
  | 0 => .int
  | 1 => .int
  | 2 => .int
  | 3 => .int
  | _ => .int
abbrev wsX30 : List Cond := u_ws RX3 TX3 5
theorem nmX3 : ∀ a, a < 5 → ∀ b, b < 5 → a ≠ b → (TX3 a).2.1 ≠ (TX3 b).2.1 := by decide +kernel
theorem tyX3_ok : ∀ k, k < 5 → parseFieldDescriptor (TX3 k).2.2.1 = some (tyX3 k) := by decide +kernel
abbrev cX3_init : ByteArray := prog_5_method_1_code
def yX3_init : MethodName := ⟨RX3, "<init>", "()V"⟩
abbrev cX3_look : ByteArray := prog_5_method_2_code
def yX3_look : MethodName := ⟨RX3, "look", "(LLeastWants$Town;ILLeastWants$Sayings;II)V"⟩
abbrev cX3_gainBy : ByteArray := prog_5_method_3_code
def yX3_gainBy : MethodName := ⟨RX3, "gainBy", "(I)I"⟩
abbrev cX3_bestSaying : ByteArray := prog_5_method_4_code
def yX3_bestSaying : MethodName := ⟨RX3, "bestSaying", "()I"⟩
def RX4 : String := "LeastWants$Reader"
def TX4 : u_T := fun k => match k with
  | 0 => ("LeastWants$Reader", "tape", "[I", true)
  | 1 => ("LeastWants$Reader", "fed", "I", false)
  | 2 => ("LeastWants$Reader", "wrong", "I", false)
  | 3 => ("LeastWants$Reader", "at", "I", false)
  | 4 => ("LeastWants$Reader", "behind", "I", false)
  | 5 => ("LeastWants$Reader", "token", "I", false)
  | _ => ("LeastWants$Reader", "number", "I", false)
def tyX4 : Nat → FieldType := fun k => match k with
  | 0 => .array .int
  | 1 => .int
  | 2 => .int
  | 3 => .int
  | 4 => .int
  | 5 => .int
  | _ => .int
abbrev wsX40 : List Cond := u_ws RX4 TX4 7
theorem nmX4 : ∀ a, a < 7 → ∀ b, b < 7 → a ≠ b → (TX4 a).2.1 ≠ (TX4 b).2.1 := by decide +kernel
theorem tyX4_ok : ∀ k, k < 7 → parseFieldDescriptor (TX4 k).2.2.1 = some (tyX4 k) := by decide +kernel
abbrev cX4_init : ByteArray := prog_6_method_1_code
def yX4_init : MethodName := ⟨RX4, "<init>", "()V"⟩
abbrev cX4_hasRoom : ByteArray := prog_6_method_2_code
def yX4_hasRoom : MethodName := ⟨RX4, "hasRoom", "(I)Z"⟩
abbrev cX4_append : ByteArray := prog_6_method_3_code
def yX4_append : MethodName := ⟨RX4, "append", "(JI)V"⟩
abbrev cX4_readsInto : ByteArray := prog_6_method_4_code
def yX4_readsInto : MethodName := ⟨RX4, "readsInto", "(LLeastWants$Town;)Z"⟩
abbrev cX4_readsLaw : ByteArray := prog_6_method_5_code
def yX4_readsLaw : MethodName := ⟨RX4, "readsLaw", "(LLeastWants$Town;)Z"⟩
abbrev cX4_readsPeople : ByteArray := prog_6_method_6_code
def yX4_readsPeople : MethodName := ⟨RX4, "readsPeople", "(LLeastWants$Town;)Z"⟩
abbrev cX4_readsSort : ByteArray := prog_6_method_7_code
def yX4_readsSort : MethodName := ⟨RX4, "readsSort", "(LLeastWants$Town;I)Z"⟩
abbrev cX4_readsThings : ByteArray := prog_6_method_8_code
def yX4_readsThings : MethodName := ⟨RX4, "readsThings", "(LLeastWants$Town;)Z"⟩
abbrev cX4_sortTold : ByteArray := prog_6_method_9_code
def yX4_sortTold : MethodName := ⟨RX4, "sortTold", "()I"⟩
abbrev cX4_passesWord : ByteArray := prog_6_method_10_code
def yX4_passesWord : MethodName := ⟨RX4, "passesWord", "(Ljava/lang/String;)Z"⟩
abbrev cX4_passesSign : ByteArray := prog_6_method_11_code
def yX4_passesSign : MethodName := ⟨RX4, "passesSign", "()Z"⟩
abbrev cX4_passesNumber : ByteArray := prog_6_method_12_code
def yX4_passesNumber : MethodName := ⟨RX4, "passesNumber", "(I)Z"⟩
abbrev cX4_isWrong : ByteArray := prog_6_method_13_code
def yX4_isWrong : MethodName := ⟨RX4, "isWrong", "(I)Z"⟩
abbrev cX4_isWord : ByteArray := prog_6_method_14_code
def yX4_isWord : MethodName := ⟨RX4, "isWord", "(Ljava/lang/String;)Z"⟩
abbrev cX4_numberTold : ByteArray := prog_6_method_15_code
def yX4_numberTold : MethodName := ⟨RX4, "numberTold", "()I"⟩
abbrev cX4_step : ByteArray := prog_6_method_16_code
def yX4_step : MethodName := ⟨RX4, "step", "()V"⟩
abbrev cX4_isLetter : ByteArray := prog_6_method_17_code
def yX4_isLetter : MethodName := ⟨RX4, "isLetter", "(I)Z"⟩
abbrev cX4_isFigure : ByteArray := prog_6_method_18_code
def yX4_isFigure : MethodName := ⟨RX4, "isFigure", "(I)Z"⟩
def RX5 : String := "LeastWants$Row"
def TX5 : u_T := fun k => match k with
  | 0 => ("LeastWants$Row", "items", "[I", true)
  | 1 => ("LeastWants$Row", "missing", "Z", false)
  | 2 => ("LeastWants$Row", "lane", "I", false)
  | _ => ("LeastWants$Row", "length", "I", false)
def tyX5 : Nat → FieldType := fun k => match k with
  | 0 => .array .int
  | 1 => .boolean
  | 2 => .int
  | _ => .int
abbrev wsX50 : List Cond := u_ws RX5 TX5 4
theorem nmX5 : ∀ a, a < 4 → ∀ b, b < 4 → a ≠ b → (TX5 a).2.1 ≠ (TX5 b).2.1 := by decide +kernel
theorem tyX5_ok : ∀ k, k < 4 → parseFieldDescriptor (TX5 k).2.2.1 = some (tyX5 k) := by decide +kernel
abbrev cX5_init : ByteArray := prog_7_method_1_code
def yX5_init : MethodName := ⟨RX5, "<init>", "()V"⟩
abbrev cX5_lay : ByteArray := prog_7_method_2_code
def yX5_lay : MethodName := ⟨RX5, "lay", "(II)V"⟩
abbrev cX5_put : ByteArray := prog_7_method_3_code
def yX5_put : MethodName := ⟨RX5, "put", "(II)I"⟩
abbrev cX5_has : ByteArray := prog_7_method_4_code
def yX5_has : MethodName := ⟨RX5, "has", "(II)Z"⟩
def RX6 : String := "LeastWants$Sayings"
def TX6 : u_T := fun k => match k with
  | 0 => ("LeastWants$Sayings", "people", "I", false)
  | _ => ("LeastWants$Sayings", "said", "[I", true)
def tyX6 : Nat → FieldType := fun k => match k with
  | 0 => .int
  | _ => .array .int
abbrev wsX60 : List Cond := u_ws RX6 TX6 2
theorem nmX6 : ∀ a, a < 2 → ∀ b, b < 2 → a ≠ b → (TX6 a).2.1 ≠ (TX6 b).2.1 := by decide +kernel
theorem tyX6_ok : ∀ k, k < 2 → parseFieldDescriptor (TX6 k).2.2.1 = some (tyX6 k) := by decide +kernel
abbrev cX6_init : ByteArray := prog_8_method_1_code
def yX6_init : MethodName := ⟨RX6, "<init>", "()V"⟩
abbrev cX6_sayTold : ByteArray := prog_8_method_2_code
def yX6_sayTold : MethodName := ⟨RX6, "sayTold", "([II)V"⟩
abbrev cX6_sayOwn : ByteArray := prog_8_method_3_code
def yX6_sayOwn : MethodName := ⟨RX6, "sayOwn", "(LLeastWants$Town;I)V"⟩
abbrev cX6_lowest : ByteArray := prog_8_method_4_code
def yX6_lowest : MethodName := ⟨RX6, "lowest", "(I)I"⟩
abbrev cX6_manyAt : ByteArray := prog_8_method_5_code
def yX6_manyAt : MethodName := ⟨RX6, "manyAt", "(II)I"⟩
abbrev cX6_sayer : ByteArray := prog_8_method_6_code
def yX6_sayer : MethodName := ⟨RX6, "sayer", "(II)I"⟩
abbrev cX6_next : ByteArray := prog_8_method_7_code
def yX6_next : MethodName := ⟨RX6, "next", "(I)I"⟩
def RX7 : String := "LeastWants$Town"
def TX7 : u_T := fun k => match k with
  | 0 => ("LeastWants$Town", "pays", "I", false)
  | 1 => ("LeastWants$Town", "fee", "I", false)
  | 2 => ("LeastWants$Town", "people", "I", false)
  | 3 => ("LeastWants$Town", "things", "I", false)
  | 4 => ("LeastWants$Town", "kinds", "[I", true)
  | 5 => ("LeastWants$Town", "coins", "[I", true)
  | 6 => ("LeastWants$Town", "told", "[I", true)
  | 7 => ("LeastWants$Town", "holders", "[I", true)
  | _ => ("LeastWants$Town", "worn", "[I", true)
def tyX7 : Nat → FieldType := fun k => match k with
  | 0 => .int
  | 1 => .int
  | 2 => .int
  | 3 => .int
  | 4 => .array .int
  | 5 => .array .int
  | 6 => .array .int
  | 7 => .array .int
  | _ => .array .int
abbrev wsX70 : List Cond := u_ws RX7 TX7 9
theorem nmX7 : ∀ a, a < 9 → ∀ b, b < 9 → a ≠ b → (TX7 a).2.1 ≠ (TX7 b).2.1 := by decide +kernel
theorem tyX7_ok : ∀ k, k < 9 → parseFieldDescriptor (TX7 k).2.2.1 = some (tyX7 k) := by decide +kernel
abbrev cX7_init : ByteArray := prog_9_method_1_code
def yX7_init : MethodName := ⟨RX7, "<init>", "()V"⟩
abbrev cX7_becomeEmpty : ByteArray := prog_9_method_2_code
def yX7_becomeEmpty : MethodName := ⟨RX7, "becomeEmpty", "()V"⟩
abbrev cX7_becomeLike : ByteArray := prog_9_method_3_code
def yX7_becomeLike : MethodName := ⟨RX7, "becomeLike", "(LLeastWants$Town;)V"⟩
abbrev cX7_worthOf : ByteArray := prog_9_method_4_code
def yX7_worthOf : MethodName := ⟨RX7, "worthOf", "(II)I"⟩
abbrev cX7_ownSaying : ByteArray := prog_9_method_5_code
def yX7_ownSaying : MethodName := ⟨RX7, "ownSaying", "(II)I"⟩
abbrev cX7_winnerGets : ByteArray := prog_9_method_6_code
def yX7_winnerGets : MethodName := ⟨RX7, "winnerGets", "(II)I"⟩
abbrev cX7_othersGet : ByteArray := prog_9_method_7_code
def yX7_othersGet : MethodName := ⟨RX7, "othersGet", "(I)I"⟩
abbrev cX7_pass : ByteArray := prog_9_method_8_code
def yX7_pass : MethodName := ⟨RX7, "pass", "(III)V"⟩
abbrev cX7_wantsLeast : ByteArray := prog_9_method_9_code
def yX7_wantsLeast : MethodName := ⟨RX7, "wantsLeast", "(I)I"⟩
abbrev cX7_wantsMost : ByteArray := prog_9_method_10_code
def yX7_wantsMost : MethodName := ⟨RX7, "wantsMost", "(I)I"⟩
abbrev cX7_countHeld : ByteArray := prog_9_method_11_code
def yX7_countHeld : MethodName := ⟨RX7, "countHeld", "()I"⟩
abbrev cX7_countHeldBy : ByteArray := prog_9_method_12_code
def yX7_countHeldBy : MethodName := ⟨RX7, "countHeldBy", "(I)I"⟩
def RX8 : String := "LeastWants"
def TX8 : u_T := fun k => match k with
  | 0 => ("LeastWants", "rows", "[LLeastWants$Row;", true)
  | 1 => ("LeastWants", "reader", "LLeastWants$Reader;", true)
  | 2 => ("LeastWants", "images", "[LLeastWants$Town;", true)
  | 3 => ("LeastWants", "acts", "LLeastWants$Acts;", true)
  | 4 => ("LeastWants", "sayings", "LLeastWants$Sayings;", true)
  | 5 => ("LeastWants", "prospect", "LLeastWants$Prospect;", true)
  | 6 => ("LeastWants", "foretold", "LLeastWants$Foretold;", true)
  | 7 => ("LeastWants", "asking", "LLeastWants$Asking;", true)
  | 8 => ("LeastWants", "here", "LLeastWants$Town;", false)
  | 9 => ("LeastWants", "spare", "LLeastWants$Town;", false)
  | 10 => ("LeastWants", "latestFault", "I", false)
  | _ => ("LeastWants", "latestFinding", "I", false)
def tyX8 : Nat → FieldType := fun k => match k with
  | 0 => .array (.object "LeastWants$Row")
  | 1 => .object "LeastWants$Reader"
  | 2 => .array (.object "LeastWants$Town")
  | 3 => .object "LeastWants$Acts"
  | 4 => .object "LeastWants$Sayings"
  | 5 => .object "LeastWants$Prospect"
  | 6 => .object "LeastWants$Foretold"
  | 7 => .object "LeastWants$Asking"
  | 8 => .object "LeastWants$Town"
  | 9 => .object "LeastWants$Town"
  | 10 => .int
  | _ => .int
abbrev wsX80 : List Cond := u_ws RX8 TX8 12
theorem nmX8 : ∀ a, a < 12 → ∀ b, b < 12 → a ≠ b → (TX8 a).2.1 ≠ (TX8 b).2.1 := by decide +kernel
theorem tyX8_ok : ∀ k, k < 12 → parseFieldDescriptor (TX8 k).2.2.1 = some (tyX8 k) := by decide +kernel
abbrev cX8_init : ByteArray := prog_1_method_1_code
def yX8_init : MethodName := ⟨RX8, "<init>", "()V"⟩
abbrev cX8_row : ByteArray := prog_1_method_2_code
def yX8_row : MethodName := ⟨RX8, "row", "(III)I"⟩
abbrev cX8_set : ByteArray := prog_1_method_3_code
def yX8_set : MethodName := ⟨RX8, "set", "(III)I"⟩
abbrev cX8_copy : ByteArray := prog_1_method_4_code
def yX8_copy : MethodName := ⟨RX8, "copy", "(IIIII)I"⟩
abbrev cX8_drop : ByteArray := prog_1_method_5_code
def yX8_drop : MethodName := ⟨RX8, "drop", "(I)I"⟩
abbrev cX8_feed : ByteArray := prog_1_method_6_code
def yX8_feed : MethodName := ⟨RX8, "feed", "(JI)I"⟩
abbrev cX8_town : ByteArray := prog_1_method_7_code
def yX8_town : MethodName := ⟨RX8, "town", "()I"⟩
abbrev cX8_fault : ByteArray := prog_1_method_8_code
def yX8_fault : MethodName := ⟨RX8, "fault", "()I"⟩
abbrev cX8_give : ByteArray := prog_1_method_9_code
def yX8_give : MethodName := ⟨RX8, "give", "(III)I"⟩
abbrev cX8_offer : ByteArray := prog_1_method_10_code
def yX8_offer : MethodName := ⟨RX8, "offer", "(II)I"⟩
abbrev cX8_back : ByteArray := prog_1_method_11_code
def yX8_back : MethodName := ⟨RX8, "back", "(I)I"⟩
abbrev cX8_undo : ByteArray := prog_1_method_12_code
def yX8_undo : MethodName := ⟨RX8, "undo", "()I"⟩
abbrev cX8_coin : ByteArray := prog_1_method_13_code
def yX8_coin : MethodName := ⟨RX8, "coin", "(I)I"⟩
abbrev cX8_thing : ByteArray := prog_1_method_14_code
def yX8_thing : MethodName := ⟨RX8, "thing", "(II)I"⟩
abbrev cX8_worth : ByteArray := prog_1_method_15_code
def yX8_worth : MethodName := ⟨RX8, "worth", "(III)I"⟩
abbrev cX8_gain : ByteArray := prog_1_method_16_code
def yX8_gain : MethodName := ⟨RX8, "gain", "(IIII)I"⟩
abbrev cX8_best : ByteArray := prog_1_method_17_code
def yX8_best : MethodName := ⟨RX8, "best", "(III)I"⟩
abbrev cX8_rests : ByteArray := prog_1_method_18_code
def yX8_rests : MethodName := ⟨RX8, "rests", "(II)I"⟩
abbrev cX8_rounds : ByteArray := prog_1_method_19_code
def yX8_rounds : MethodName := ⟨RX8, "rounds", "(III)I"⟩
abbrev cX8_least : ByteArray := prog_1_method_20_code
def yX8_least : MethodName := ⟨RX8, "least", "(II)I"⟩
abbrev cX8_lost : ByteArray := prog_1_method_21_code
def yX8_lost : MethodName := ⟨RX8, "lost", "(III)I"⟩
abbrev cX8_honest : ByteArray := prog_1_method_22_code
def yX8_honest : MethodName := ⟨RX8, "honest", "(II)I"⟩
abbrev cX8_ore : ByteArray := prog_1_method_23_code
def yX8_ore : MethodName := ⟨RX8, "ore", "(II)I"⟩
abbrev cX8_image : ByteArray := prog_1_method_24_code
def yX8_image : MethodName := ⟨RX8, "image", "(I)I"⟩
abbrev cX8_restore : ByteArray := prog_1_method_25_code
def yX8_restore : MethodName := ⟨RX8, "restore", "(I)I"⟩
abbrev cX8_kind : ByteArray := prog_1_method_26_code
def yX8_kind : MethodName := ⟨RX8, "kind", "(I)I"⟩
abbrev cX8_as : ByteArray := prog_1_method_27_code
def yX8_as : MethodName := ⟨RX8, "as", "(II)I"⟩
abbrev cX8_ask : ByteArray := prog_1_method_28_code
def yX8_ask : MethodName := ⟨RX8, "ask", "(II)I"⟩
abbrev cX8_trace : ByteArray := prog_1_method_29_code
def yX8_trace : MethodName := ⟨RX8, "trace", "(I)I"⟩
abbrev cX8_count : ByteArray := prog_1_method_30_code
def yX8_count : MethodName := ⟨RX8, "count", "(I)I"⟩
abbrev cX8_status : ByteArray := prog_1_method_31_code
def yX8_status : MethodName := ⟨RX8, "status", "()I"⟩
abbrev cX8_isRow : ByteArray := prog_1_method_32_code
def yX8_isRow : MethodName := ⟨RX8, "isRow", "(I)Z"⟩
abbrev cX8_isThing : ByteArray := prog_1_method_33_code
def yX8_isThing : MethodName := ⟨RX8, "isThing", "(I)Z"⟩
abbrev cX8_isPerson : ByteArray := prog_1_method_34_code
def yX8_isPerson : MethodName := ⟨RX8, "isPerson", "(I)Z"⟩
abbrev cX8_isSeed : ByteArray := prog_1_method_35_code
def yX8_isSeed : MethodName := ⟨RX8, "isSeed", "(I)Z"⟩
abbrev cX8_isEither : ByteArray := prog_1_method_36_code
def yX8_isEither : MethodName := ⟨RX8, "isEither", "(I)Z"⟩
abbrev cX8_found : ByteArray := prog_1_method_37_code
def yX8_found : MethodName := ⟨RX8, "found", "(I)I"⟩
abbrev cX8_fine : ByteArray := prog_1_method_38_code
def yX8_fine : MethodName := ⟨RX8, "fine", "(I)I"⟩
abbrev cX8_countRows : ByteArray := prog_1_method_39_code
def yX8_countRows : MethodName := ⟨RX8, "countRows", "()I"⟩
abbrev cX8_hear : ByteArray := prog_1_method_40_code
def yX8_hear : MethodName := ⟨RX8, "hear", "(I)I"⟩
abbrev cX8_holdRound : ByteArray := prog_1_method_41_code
def yX8_holdRound : MethodName := ⟨RX8, "holdRound", "(II)I"⟩
abbrev cX8_ofFraction : ByteArray := prog_1_method_42_code
def yX8_ofFraction : MethodName := ⟨RX8, "ofFraction", "(III)I"⟩
def RX9 : String := "LeastWantsModel"
def TX9 : u_T := fun k => match k with
  | 0 => ("LeastWantsModel", "thrown", "I", false)
  | 1 => ("LeastWantsModel", "status", "I", false)
  | 2 => ("LeastWantsModel", "lane", "[I", true)
  | 3 => ("LeastWantsModel", "many", "[I", true)
  | 4 => ("LeastWantsModel", "item", "[I", true)
  | 5 => ("LeastWantsModel", "town", "[I", true)
  | 6 => ("LeastWantsModel", "fresh", "[I", true)
  | 7 => ("LeastWantsModel", "was", "[I", true)
  | 8 => ("LeastWantsModel", "acts", "I", false)
  | 9 => ("LeastWantsModel", "tape", "[I", true)
  | 10 => ("LeastWantsModel", "taped", "I", false)
  | 11 => ("LeastWantsModel", "latest", "I", false)
  | 12 => ("LeastWantsModel", "length", "I", false)
  | 13 => ("LeastWantsModel", "cursor", "I", false)
  | 14 => ("LeastWantsModel", "token", "I", false)
  | 15 => ("LeastWantsModel", "start", "I", false)
  | 16 => ("LeastWantsModel", "till", "I", false)
  | 17 => ("LeastWantsModel", "fault", "I", false)
  | 18 => ("LeastWantsModel", "faultAt", "I", false)
  | 19 => ("LeastWantsModel", "says", "[I", true)
  | 20 => ("LeastWantsModel", "isKept", "[Z", true)
  | 21 => ("LeastWantsModel", "kept", "[I", true)
  | 22 => ("LeastWantsModel", "trace", "[I", true)
  | _ => ("LeastWantsModel", "traced", "I", false)
def tyX9 : Nat → FieldType := fun k => match k with
  | 0 => .int
  | 1 => .int
  | 2 => .array .int
  | 3 => .array .int
  | 4 => .array .int
  | 5 => .array .int
  | 6 => .array .int
  | 7 => .array .int
  | 8 => .int
  | 9 => .array .int
  | 10 => .int
  | 11 => .int
  | 12 => .int
  | 13 => .int
  | 14 => .int
  | 15 => .int
  | 16 => .int
  | 17 => .int
  | 18 => .int
  | 19 => .array .int
  | 20 => .array .boolean
  | 21 => .array .int
  | 22 => .array .int
  | _ => .int
abbrev wsX90 : List Cond := u_ws RX9 TX9 24
theorem nmX9 : ∀ a, a < 24 → ∀ b, b < 24 → a ≠ b → (TX9 a).2.1 ≠ (TX9 b).2.1 := by decide +kernel
theorem tyX9_ok : ∀ k, k < 24 → parseFieldDescriptor (TX9 k).2.2.1 = some (tyX9 k) := by decide +kernel
abbrev cX9_init : ByteArray := prog_11_method_1_code
def yX9_init : MethodName := ⟨RX9, "<init>", "()V"⟩
abbrev cX9_in : ByteArray := prog_11_method_3_code
def yX9_in : MethodName := ⟨RX9, "in", "(JJJ)Z"⟩
abbrev cX9_finding : ByteArray := prog_11_method_4_code
def yX9_finding : MethodName := ⟨RX9, "finding", "(I)I"⟩
abbrev cX9_isRow : ByteArray := prog_11_method_5_code
def yX9_isRow : MethodName := ⟨RX9, "isRow", "(I)Z"⟩
abbrev cX9_row : ByteArray := prog_11_method_6_code
def yX9_row : MethodName := ⟨RX9, "row", "(III)I"⟩
abbrev cX9_set : ByteArray := prog_11_method_7_code
def yX9_set : MethodName := ⟨RX9, "set", "(III)I"⟩
abbrev cX9_copy : ByteArray := prog_11_method_8_code
def yX9_copy : MethodName := ⟨RX9, "copy", "(IIIII)I"⟩
abbrev cX9_drop : ByteArray := prog_11_method_9_code
def yX9_drop : MethodName := ⟨RX9, "drop", "(I)I"⟩
abbrev cX9_feed : ByteArray := prog_11_method_10_code
def yX9_feed : MethodName := ⟨RX9, "feed", "(JI)I"⟩
abbrev cX9_byteAt : ByteArray := prog_11_method_11_code
def yX9_byteAt : MethodName := ⟨RX9, "byteAt", "(I)I"⟩
abbrev cX9_isLetter : ByteArray := prog_11_method_12_code
def yX9_isLetter : MethodName := ⟨RX9, "isLetter", "(I)Z"⟩
abbrev cX9_isFigure : ByteArray := prog_11_method_13_code
def yX9_isFigure : MethodName := ⟨RX9, "isFigure", "(I)Z"⟩
abbrev cX9_next : ByteArray := prog_11_method_14_code
def yX9_next : MethodName := ⟨RX9, "next", "()V"⟩
abbrev cX9_begin : ByteArray := prog_11_method_15_code
def yX9_begin : MethodName := ⟨RX9, "begin", "()V"⟩
abbrev cX9_bad : ByteArray := prog_11_method_16_code
def yX9_bad : MethodName := ⟨RX9, "bad", "(I)V"⟩
abbrev cX9_must : ByteArray := prog_11_method_17_code
def yX9_must : MethodName := ⟨RX9, "must", "(Z)V"⟩
abbrev cX9_name : ByteArray := prog_11_method_18_code
def yX9_name : MethodName := ⟨RX9, "name", "()J"⟩
abbrev cX9_figures : ByteArray := prog_11_method_19_code
def yX9_figures : MethodName := ⟨RX9, "figures", "()I"⟩
abbrev cX9_number : ByteArray := prog_11_method_20_code
def yX9_number : MethodName := ⟨RX9, "number", "(II)I"⟩
abbrev cX9_kindBy : ByteArray := prog_11_method_21_code
def yX9_kindBy : MethodName := ⟨RX9, "kindBy", "(J)I"⟩
abbrev cX9_mustEnd : ByteArray := prog_11_method_22_code
def yX9_mustEnd : MethodName := ⟨RX9, "mustEnd", "()V"⟩
abbrev cX9_begins : ByteArray := prog_11_method_23_code
def yX9_begins : MethodName := ⟨RX9, "begins", "(II)V"⟩
abbrev cX9_readPerson : ByteArray := prog_11_method_24_code
def yX9_readPerson : MethodName := ⟨RX9, "readPerson", "()V"⟩
abbrev cX9_readThing : ByteArray := prog_11_method_25_code
def yX9_readThing : MethodName := ⟨RX9, "readThing", "()V"⟩
abbrev cX9_town : ByteArray := prog_11_method_26_code
def yX9_town : MethodName := ⟨RX9, "town", "()I"⟩
abbrev cX9_fault : ByteArray := prog_11_method_27_code
def yX9_fault : MethodName := ⟨RX9, "fault", "()I"⟩
abbrev cX9_isThere : ByteArray := prog_11_method_28_code
def yX9_isThere : MethodName := ⟨RX9, "isThere", "()Z"⟩
abbrev cX9_isPerson : ByteArray := prog_11_method_29_code
def yX9_isPerson : MethodName := ⟨RX9, "isPerson", "(I)Z"⟩
abbrev cX9_isThing : ByteArray := prog_11_method_30_code
def yX9_isThing : MethodName := ⟨RX9, "isThing", "(I)Z"⟩
abbrev cX9_isSeed : ByteArray := prog_11_method_31_code
def yX9_isSeed : MethodName := ⟨RX9, "isSeed", "(I)Z"⟩
abbrev cX9_of : ByteArray := prog_11_method_32_code
def yX9_of : MethodName := ⟨RX9, "of", "(II)I"⟩
abbrev cX9_worthOf : ByteArray := prog_11_method_33_code
def yX9_worthOf : MethodName := ⟨RX9, "worthOf", "(II)I"⟩
abbrev cX9_ownOf : ByteArray := prog_11_method_34_code
def yX9_ownOf : MethodName := ⟨RX9, "ownOf", "(II)I"⟩
abbrev cX9_layOwn : ByteArray := prog_11_method_35_code
def yX9_layOwn : MethodName := ⟨RX9, "layOwn", "(I)V"⟩
abbrev cX9_barred : ByteArray := prog_11_method_36_code
def yX9_barred : MethodName := ⟨RX9, "barred", "(I)I"⟩
abbrev cX9_leastBut : ByteArray := prog_11_method_37_code
def yX9_leastBut : MethodName := ⟨RX9, "leastBut", "(I)I"⟩
abbrev cX9_likeOnes : ByteArray := prog_11_method_38_code
def yX9_likeOnes : MethodName := ⟨RX9, "likeOnes", "()I"⟩
abbrev cX9_coinBy : ByteArray := prog_11_method_39_code
def yX9_coinBy : MethodName := ⟨RX9, "coinBy", "(III)I"⟩
abbrev cX9_gainBy : ByteArray := prog_11_method_40_code
def yX9_gainBy : MethodName := ⟨RX9, "gainBy", "(III)I"⟩
abbrev cX9_bestBy : ByteArray := prog_11_method_41_code
def yX9_bestBy : MethodName := ⟨RX9, "bestBy", "(III)I"⟩
abbrev cX9_isRest : ByteArray := prog_11_method_42_code
def yX9_isRest : MethodName := ⟨RX9, "isRest", "(II)Z"⟩
abbrev cX9_keep : ByteArray := prog_11_method_43_code
def yX9_keep : MethodName := ⟨RX9, "keep", "()V"⟩
abbrev cX9_goRound : ByteArray := prog_11_method_44_code
def yX9_goRound : MethodName := ⟨RX9, "goRound", "(II)I"⟩
abbrev cX9_give : ByteArray := prog_11_method_45_code
def yX9_give : MethodName := ⟨RX9, "give", "(III)I"⟩
abbrev cX9_offer : ByteArray := prog_11_method_46_code
def yX9_offer : MethodName := ⟨RX9, "offer", "(II)I"⟩
abbrev cX9_back : ByteArray := prog_11_method_47_code
def yX9_back : MethodName := ⟨RX9, "back", "(I)I"⟩
abbrev cX9_undo : ByteArray := prog_11_method_48_code
def yX9_undo : MethodName := ⟨RX9, "undo", "()I"⟩
abbrev cX9_coin : ByteArray := prog_11_method_49_code
def yX9_coin : MethodName := ⟨RX9, "coin", "(I)I"⟩
abbrev cX9_thing : ByteArray := prog_11_method_50_code
def yX9_thing : MethodName := ⟨RX9, "thing", "(II)I"⟩
abbrev cX9_worth : ByteArray := prog_11_method_51_code
def yX9_worth : MethodName := ⟨RX9, "worth", "(III)I"⟩
abbrev cX9_told : ByteArray := prog_11_method_52_code
def yX9_told : MethodName := ⟨RX9, "told", "(II)I"⟩
abbrev cX9_gain : ByteArray := prog_11_method_53_code
def yX9_gain : MethodName := ⟨RX9, "gain", "(IIII)I"⟩
abbrev cX9_best : ByteArray := prog_11_method_54_code
def yX9_best : MethodName := ⟨RX9, "best", "(III)I"⟩
abbrev cX9_layRow : ByteArray := prog_11_method_55_code
def yX9_layRow : MethodName := ⟨RX9, "layRow", "(I)V"⟩
abbrev cX9_rests : ByteArray := prog_11_method_56_code
def yX9_rests : MethodName := ⟨RX9, "rests", "(II)I"⟩
abbrev cX9_rounds : ByteArray := prog_11_method_57_code
def yX9_rounds : MethodName := ⟨RX9, "rounds", "(III)I"⟩
abbrev cX9_extreme : ByteArray := prog_11_method_58_code
def yX9_extreme : MethodName := ⟨RX9, "extreme", "(II)I"⟩
abbrev cX9_least : ByteArray := prog_11_method_59_code
def yX9_least : MethodName := ⟨RX9, "least", "(II)I"⟩
abbrev cX9_lost : ByteArray := prog_11_method_60_code
def yX9_lost : MethodName := ⟨RX9, "lost", "(III)I"⟩
abbrev cX9_honest : ByteArray := prog_11_method_61_code
def yX9_honest : MethodName := ⟨RX9, "honest", "(II)I"⟩
abbrev cX9_ore : ByteArray := prog_11_method_62_code
def yX9_ore : MethodName := ⟨RX9, "ore", "(II)I"⟩
abbrev cX9_image : ByteArray := prog_11_method_63_code
def yX9_image : MethodName := ⟨RX9, "image", "(I)I"⟩
abbrev cX9_restore : ByteArray := prog_11_method_64_code
def yX9_restore : MethodName := ⟨RX9, "restore", "(I)I"⟩
abbrev cX9_isOf : ByteArray := prog_11_method_65_code
def yX9_isOf : MethodName := ⟨RX9, "isOf", "(II)Z"⟩
abbrev cX9_kind : ByteArray := prog_11_method_66_code
def yX9_kind : MethodName := ⟨RX9, "kind", "(I)I"⟩
abbrev cX9_as : ByteArray := prog_11_method_67_code
def yX9_as : MethodName := ⟨RX9, "as", "(II)I"⟩
abbrev cX9_began : ByteArray := prog_11_method_68_code
def yX9_began : MethodName := ⟨RX9, "began", "(I)V"⟩
abbrev cX9_plainSize : ByteArray := prog_11_method_69_code
def yX9_plainSize : MethodName := ⟨RX9, "plainSize", "(I)I"⟩
abbrev cX9_richSize : ByteArray := prog_11_method_70_code
def yX9_richSize : MethodName := ⟨RX9, "richSize", "(I)I"⟩
abbrev cX9_thingsOf : ByteArray := prog_11_method_71_code
def yX9_thingsOf : MethodName := ⟨RX9, "thingsOf", "(I)I"⟩
abbrev cX9_markOf : ByteArray := prog_11_method_72_code
def yX9_markOf : MethodName := ⟨RX9, "markOf", "(I)I"⟩
abbrev cX9_sizeOf : ByteArray := prog_11_method_73_code
def yX9_sizeOf : MethodName := ⟨RX9, "sizeOf", "(I)I"⟩
abbrev cX9_ask : ByteArray := prog_11_method_74_code
def yX9_ask : MethodName := ⟨RX9, "ask", "(II)I"⟩
abbrev cX9_trace : ByteArray := prog_11_method_75_code
def yX9_trace : MethodName := ⟨RX9, "trace", "(I)I"⟩
abbrev cX9_count : ByteArray := prog_11_method_76_code
def yX9_count : MethodName := ⟨RX9, "count", "(I)I"⟩
abbrev cX9_status : ByteArray := prog_11_method_77_code
def yX9_status : MethodName := ⟨RX9, "status", "()I"⟩
def RJ9 : String := "java/lang/Math"
def TJ9 : u_T := fun k => match k with
  | _ => ("", "", "", false)
def tyJ9 : Nat → FieldType := fun k => match k with
  | _ => .int
abbrev wsJ90 : List Cond := u_ws RJ9 TJ9 0
theorem nmJ9 : ∀ a, a < 0 → ∀ b, b < 0 → a ≠ b → (TJ9 a).2.1 ≠ (TJ9 b).2.1 := by decide +kernel
theorem tyJ9_ok : ∀ k, k < 0 → parseFieldDescriptor (TJ9 k).2.2.1 = some (tyJ9 k) := by decide +kernel
abbrev cJ9_max_7cf53 : ByteArray := prog_12_method_65_code
def yJ9_max_7cf53 : MethodName := ⟨RJ9, "max", "(II)I"⟩
abbrev cJ9_min_7cf53 : ByteArray := prog_12_method_69_code
def yJ9_min_7cf53 : MethodName := ⟨RJ9, "min", "(II)I"⟩
def RJ0 : String := "java/lang/String"
def TJ0 : u_T := fun k => match k with
  | _ => ("", "", "", false)
def tyJ0 : Nat → FieldType := fun k => match k with
  | _ => .int
abbrev wsJ00 : List Cond := u_ws RJ0 TJ0 0
theorem nmJ0 : ∀ a, a < 0 → ∀ b, b < 0 → a ≠ b → (TJ0 a).2.1 ≠ (TJ0 b).2.1 := by decide +kernel
theorem tyJ0_ok : ∀ k, k < 0 → parseFieldDescriptor (TJ0 k).2.2.1 = some (tyJ0 k) := by decide +kernel
abbrev cJ0_length_8abf5 : ByteArray := prog_13_method_54_code
def yJ0_length_8abf5 : MethodName := ⟨RJ0, "length", "()I"⟩
abbrev cJ0_charAt_5068e : ByteArray := prog_13_method_56_code
def yJ0_charAt_5068e : MethodName := ⟨RJ0, "charAt", "(I)C"⟩
abbrev cJ0_coder_7d493 : ByteArray := prog_13_method_152_code
def yJ0_coder_7d493 : MethodName := ⟨RJ0, "coder", "()B"⟩
abbrev cJ0_isLatin1_aae02 : ByteArray := prog_13_method_154_code
def yJ0_isLatin1_aae02 : MethodName := ⟨RJ0, "isLatin1", "()Z"⟩
abbrev cJ0_checkIndex_df160 : ByteArray := prog_13_method_155_code
def yJ0_checkIndex_df160 : MethodName := ⟨RJ0, "checkIndex", "(II)V"⟩
def RJ1 : String := "java/lang/StringLatin1"
def TJ1 : u_T := fun k => match k with
  | _ => ("", "", "", false)
def tyJ1 : Nat → FieldType := fun k => match k with
  | _ => .int
abbrev wsJ10 : List Cond := u_ws RJ1 TJ1 0
theorem nmJ1 : ∀ a, a < 0 → ∀ b, b < 0 → a ≠ b → (TJ1 a).2.1 ≠ (TJ1 b).2.1 := by decide +kernel
theorem tyJ1_ok : ∀ k, k < 0 → parseFieldDescriptor (TJ1 k).2.2.1 = some (tyJ1 k) := by decide +kernel
abbrev cJ1_charAt_3b067 : ByteArray := prog_14_method_2_code
def yJ1_charAt_3b067 : MethodName := ⟨RJ1, "charAt", "([BI)C"⟩
def RJ2 : String := "java/lang/StringUTF16"
def TJ2 : u_T := fun k => match k with
  | _ => ("", "", "", false)
def tyJ2 : Nat → FieldType := fun k => match k with
  | _ => .int
abbrev wsJ20 : List Cond := u_ws RJ2 TJ2 0
theorem nmJ2 : ∀ a, a < 0 → ∀ b, b < 0 → a ≠ b → (TJ2 a).2.1 ≠ (TJ2 b).2.1 := by decide +kernel
theorem tyJ2_ok : ∀ k, k < 0 → parseFieldDescriptor (TJ2 k).2.2.1 = some (tyJ2 k) := by decide +kernel
abbrev cJ2_getChar_3b067 : ByteArray := prog_15_method_5_code
def yJ2_getChar_3b067 : MethodName := ⟨RJ2, "getChar", "([BI)C"⟩
abbrev cJ2_length_9d52b : ByteArray := prog_15_method_6_code
def yJ2_length_9d52b : MethodName := ⟨RJ2, "length", "([B)I"⟩
abbrev cJ2_charAt_3b067 : ByteArray := prog_15_method_83_code
def yJ2_charAt_3b067 : MethodName := ⟨RJ2, "charAt", "([BI)C"⟩
abbrev cJ2_checkIndex_2214a : ByteArray := prog_15_method_91_code
def yJ2_checkIndex_2214a : MethodName := ⟨RJ2, "checkIndex", "(I[B)V"⟩
def RJ10 : String := "java/lang/System"
def TJ10 : u_T := fun k => match k with
  | _ => ("", "", "", false)
def tyJ10 : Nat → FieldType := fun k => match k with
  | _ => .int
abbrev wsJ100 : List Cond := u_ws RJ10 TJ10 0
theorem nmJ10 : ∀ a, a < 0 → ∀ b, b < 0 → a ≠ b → (TJ10 a).2.1 ≠ (TJ10 b).2.1 := by decide +kernel
theorem tyJ10_ok : ∀ k, k < 0 → parseFieldDescriptor (TJ10 k).2.2.1 = some (tyJ10 k) := by decide +kernel
def RJ3 : String := "jdk/internal/util/Preconditions"
def TJ3 : u_T := fun k => match k with
  | _ => ("", "", "", false)
def tyJ3 : Nat → FieldType := fun k => match k with
  | _ => .int
abbrev wsJ30 : List Cond := u_ws RJ3 TJ3 0
theorem nmJ3 : ∀ a, a < 0 → ∀ b, b < 0 → a ≠ b → (TJ3 a).2.1 ≠ (TJ3 b).2.1 := by decide +kernel
theorem tyJ3_ok : ∀ k, k < 0 → parseFieldDescriptor (TJ3 k).2.2.1 = some (tyJ3 k) := by decide +kernel
abbrev cJ3_checkIndex_8e157 : ByteArray := prog_17_method_11_code
def yJ3_checkIndex_8e157 : MethodName := ⟨RJ3, "checkIndex", "(IILjava/util/function/BiFunction;)I"⟩
def RL : String := "LeastWantsLaw"
abbrev cL_law : ByteArray := code
def yL_law : MethodName := ⟨RL, "law", "([I)Z"⟩
abbrev vwCl : List vw_C := [(RX0, TX0, 6), (RX1, TX1, 6), (RX2, TX2, 4), (RX3, TX3, 5), (RX4, TX4, 7), (RX5, TX5, 4), (RX6, TX6, 2), (RX7, TX7, 9), (RX8, TX8, 12), (RX9, TX9, 24)]
end
section
/-! the good words of the tables -/
def gWs : List Cond := lw_tbl.filter goodWord
theorem gWs_good : ∀ w ∈ gWs, goodWord w = true := fun w h => (List.mem_filter.mp h).2
theorem gWs_tbl : ∀ w ∈ gWs, w ∈ lw_tbl := fun w h => (List.mem_filter.mp h).1
theorem gWs_i {w : Cond} (i : Nat) (h : lw_tbl[i]? = some w) (g : goodWord w = true) : w ∈ gWs := List.mem_filter.mpr ⟨List.mem_of_getElem? h, g⟩
theorem gWs_in (ws : List Cond) (ps : List Nat) (h : ws = ps.filterMap (fun i => lw_tbl[i]?)) (g : ws.all goodWord = true) : ∀ w ∈ ws, w ∈ gWs := by
  intro w hw
  have g1 := List.all_eq_true.mp g w hw
  rw [h] at hw
  obtain ⟨i, -, hi⟩ := List.mem_filterMap.mp hw
  exact gWs_i i hi g1
theorem inX0 : ∀ w ∈ u_ws RX0 TX0 6, w ∈ gWs := gWs_in _ [213, 215, 217, 219, 221, 223] (by decide +kernel) (by decide +kernel)
theorem inX1 : ∀ w ∈ u_ws RX1 TX1 6, w ∈ gWs := gWs_in _ [304, 306, 308, 310, 312, 314] (by decide +kernel) (by decide +kernel)
theorem inX2 : ∀ w ∈ u_ws RX2 TX2 4, w ∈ gWs := gWs_in _ [281, 283, 285, 287] (by decide +kernel) (by decide +kernel)
theorem inX3 : ∀ w ∈ u_ws RX3 TX3 5, w ∈ gWs := gWs_in _ [254, 256, 258, 260, 262] (by decide +kernel) (by decide +kernel)
theorem inX4 : ∀ w ∈ u_ws RX4 TX4 7, w ∈ gWs := gWs_in _ [185, 187, 189, 191, 193, 195, 197] (by decide +kernel) (by decide +kernel)
theorem inX5 : ∀ w ∈ u_ws RX5 TX5 4, w ∈ gWs := gWs_in _ [102, 104, 106, 108] (by decide +kernel) (by decide +kernel)
theorem inX6 : ∀ w ∈ u_ws RX6 TX6 2, w ∈ gWs := gWs_in _ [237, 239] (by decide +kernel) (by decide +kernel)
theorem inX7 : ∀ w ∈ u_ws RX7 TX7 9, w ∈ gWs := gWs_in _ [150, 152, 154, 156, 158, 160, 162, 164, 166] (by decide +kernel) (by decide +kernel)
theorem inX8 : ∀ w ∈ u_ws RX8 TX8 12, w ∈ gWs := gWs_in _ [329, 331, 333, 335, 337, 339, 341, 343, 345, 347, 349, 351] (by decide +kernel) (by decide +kernel)
theorem inX9 : ∀ w ∈ u_ws RX9 TX9 24, w ∈ gWs := gWs_in _ [856, 858, 860, 862, 864, 866, 868, 870, 872, 874, 876, 878, 880, 882, 884, 886, 888, 890, 892, 894, 896, 898, 900, 902] (by decide +kernel) (by decide +kernel)
theorem wi_L : Cond.initialized RL ∈ gWs := gWs_i 62 (by decide +kernel) (by decide +kernel)
theorem wi_X8 : Cond.initialized RX8 ∈ gWs := gWs_i 63 (by decide +kernel) (by decide +kernel)
theorem wi_X5 : Cond.initialized RX5 ∈ gWs := gWs_i 64 (by decide +kernel) (by decide +kernel)
theorem wi_X7 : Cond.initialized RX7 ∈ gWs := gWs_i 65 (by decide +kernel) (by decide +kernel)
theorem wi_X4 : Cond.initialized RX4 ∈ gWs := gWs_i 66 (by decide +kernel) (by decide +kernel)
theorem wi_X0 : Cond.initialized RX0 ∈ gWs := gWs_i 67 (by decide +kernel) (by decide +kernel)
theorem wi_X6 : Cond.initialized RX6 ∈ gWs := gWs_i 68 (by decide +kernel) (by decide +kernel)
theorem wi_X3 : Cond.initialized RX3 ∈ gWs := gWs_i 69 (by decide +kernel) (by decide +kernel)
theorem wi_X2 : Cond.initialized RX2 ∈ gWs := gWs_i 70 (by decide +kernel) (by decide +kernel)
theorem wi_X1 : Cond.initialized RX1 ∈ gWs := gWs_i 71 (by decide +kernel) (by decide +kernel)
theorem wi_X9 : Cond.initialized RX9 ∈ gWs := gWs_i 72 (by decide +kernel) (by decide +kernel)
theorem wi_J10 : Cond.initialized RJ10 ∈ gWs := gWs_i 73 (by decide +kernel) (by decide +kernel)
theorem wi_J0 : Cond.initialized RJ0 ∈ gWs := gWs_i 74 (by decide +kernel) (by decide +kernel)
theorem wi_J1 : Cond.initialized RJ1 ∈ gWs := gWs_i 75 (by decide +kernel) (by decide +kernel)
theorem wi_J3 : Cond.initialized RJ3 ∈ gWs := gWs_i 76 (by decide +kernel) (by decide +kernel)
theorem wi_J2 : Cond.initialized RJ2 ∈ gWs := gWs_i 77 (by decide +kernel) (by decide +kernel)
theorem wi_J9 : Cond.initialized RJ9 ∈ gWs := gWs_i 78 (by decide +kernel) (by decide +kernel)
theorem wq_L_7 : Cond.classLink RL 7 RX8 ∈ gWs := gWs_i 79 (by decide +kernel) (by decide +kernel)
theorem wn_X8 : Cond.instantiable RX8 12 ∈ gWs := gWs_i 80 (by decide +kernel) (by decide +kernel)
theorem wl_L_9 : Cond.methodLink RL 9 yX8_init ∈ gWs := gWs_i 81 (by decide +kernel) (by decide +kernel)
theorem wl_X8_1 : Cond.methodLink RX8 1 objectInit ∈ gWs := gWs_i 84 (by decide +kernel) (by decide +kernel)
theorem wq_X8_9 : Cond.classLink RX8 9 RX5 ∈ gWs := gWs_i 87 (by decide +kernel) (by decide +kernel)
theorem wn_X5 : Cond.instantiable RX5 4 ∈ gWs := gWs_i 89 (by decide +kernel) (by decide +kernel)
theorem wl_X5_1 : Cond.methodLink RX5 1 objectInit ∈ gWs := gWs_i 93 (by decide +kernel) (by decide +kernel)
theorem wf_X5_9 : Cond.fieldLink RX5 9 "LeastWants$Row" "items" "[I" ∈ gWs := gWs_i 94 (by decide +kernel) (by decide +kernel)
theorem wf_X8_107 : Cond.fieldLink RX8 107 "LeastWants$Row" "items" "[I" ∈ gWs := gWs_i 95 (by decide +kernel) (by decide +kernel)
theorem wf_X5_13 : Cond.fieldLink RX5 13 "LeastWants$Row" "missing" "Z" ∈ gWs := gWs_i 96 (by decide +kernel) (by decide +kernel)
theorem wf_X8_88 : Cond.fieldLink RX8 88 "LeastWants$Row" "missing" "Z" ∈ gWs := gWs_i 97 (by decide +kernel) (by decide +kernel)
theorem wf_X5_17 : Cond.fieldLink RX5 17 "LeastWants$Row" "lane" "I" ∈ gWs := gWs_i 98 (by decide +kernel) (by decide +kernel)
theorem wf_X8_100 : Cond.fieldLink RX8 100 "LeastWants$Row" "lane" "I" ∈ gWs := gWs_i 99 (by decide +kernel) (by decide +kernel)
theorem wf_X5_21 : Cond.fieldLink RX5 21 "LeastWants$Row" "length" "I" ∈ gWs := gWs_i 100 (by decide +kernel) (by decide +kernel)
theorem wf_X8_92 : Cond.fieldLink RX8 92 "LeastWants$Row" "length" "I" ∈ gWs := gWs_i 101 (by decide +kernel) (by decide +kernel)
theorem wq_X8_16 : Cond.classLink RX8 16 RX7 ∈ gWs := gWs_i 112 (by decide +kernel) (by decide +kernel)
theorem wn_X7 : Cond.instantiable RX7 9 ∈ gWs := gWs_i 114 (by decide +kernel) (by decide +kernel)
theorem wl_X7_3 : Cond.methodLink RX7 3 objectInit ∈ gWs := gWs_i 118 (by decide +kernel) (by decide +kernel)
theorem wf_X7_27 : Cond.fieldLink RX7 27 "LeastWants$Town" "pays" "I" ∈ gWs := gWs_i 119 (by decide +kernel) (by decide +kernel)
theorem wf_X2_54 : Cond.fieldLink RX2 54 "LeastWants$Town" "pays" "I" ∈ gWs := gWs_i 120 (by decide +kernel) (by decide +kernel)
theorem wf_X4_62 : Cond.fieldLink RX4 62 "LeastWants$Town" "pays" "I" ∈ gWs := gWs_i 121 (by decide +kernel) (by decide +kernel)
theorem wf_X8_194 : Cond.fieldLink RX8 194 "LeastWants$Town" "pays" "I" ∈ gWs := gWs_i 122 (by decide +kernel) (by decide +kernel)
theorem wf_X7_31 : Cond.fieldLink RX7 31 "LeastWants$Town" "fee" "I" ∈ gWs := gWs_i 123 (by decide +kernel) (by decide +kernel)
theorem wf_X4_65 : Cond.fieldLink RX4 65 "LeastWants$Town" "fee" "I" ∈ gWs := gWs_i 124 (by decide +kernel) (by decide +kernel)
theorem wf_X8_275 : Cond.fieldLink RX8 275 "LeastWants$Town" "fee" "I" ∈ gWs := gWs_i 125 (by decide +kernel) (by decide +kernel)
theorem wf_X2_31 : Cond.fieldLink RX2 31 "LeastWants$Town" "people" "I" ∈ gWs := gWs_i 126 (by decide +kernel) (by decide +kernel)
theorem wf_X7_34 : Cond.fieldLink RX7 34 "LeastWants$Town" "people" "I" ∈ gWs := gWs_i 127 (by decide +kernel) (by decide +kernel)
theorem wf_X6_25 : Cond.fieldLink RX6 25 "LeastWants$Town" "people" "I" ∈ gWs := gWs_i 128 (by decide +kernel) (by decide +kernel)
theorem wf_X4_81 : Cond.fieldLink RX4 81 "LeastWants$Town" "people" "I" ∈ gWs := gWs_i 129 (by decide +kernel) (by decide +kernel)
theorem wf_X8_145 : Cond.fieldLink RX8 145 "LeastWants$Town" "people" "I" ∈ gWs := gWs_i 130 (by decide +kernel) (by decide +kernel)
theorem wf_X7_37 : Cond.fieldLink RX7 37 "LeastWants$Town" "things" "I" ∈ gWs := gWs_i 131 (by decide +kernel) (by decide +kernel)
theorem wf_X4_96 : Cond.fieldLink RX4 96 "LeastWants$Town" "things" "I" ∈ gWs := gWs_i 132 (by decide +kernel) (by decide +kernel)
theorem wf_X8_269 : Cond.fieldLink RX8 269 "LeastWants$Town" "things" "I" ∈ gWs := gWs_i 133 (by decide +kernel) (by decide +kernel)
theorem wf_X7_11 : Cond.fieldLink RX7 11 "LeastWants$Town" "kinds" "[I" ∈ gWs := gWs_i 134 (by decide +kernel) (by decide +kernel)
theorem wf_X1_23 : Cond.fieldLink RX1 23 "LeastWants$Town" "kinds" "[I" ∈ gWs := gWs_i 135 (by decide +kernel) (by decide +kernel)
theorem wf_X4_88 : Cond.fieldLink RX4 88 "LeastWants$Town" "kinds" "[I" ∈ gWs := gWs_i 136 (by decide +kernel) (by decide +kernel)
theorem wf_X8_250 : Cond.fieldLink RX8 250 "LeastWants$Town" "kinds" "[I" ∈ gWs := gWs_i 137 (by decide +kernel) (by decide +kernel)
theorem wf_X7_15 : Cond.fieldLink RX7 15 "LeastWants$Town" "coins" "[I" ∈ gWs := gWs_i 138 (by decide +kernel) (by decide +kernel)
theorem wf_X0_39 : Cond.fieldLink RX0 39 "LeastWants$Town" "coins" "[I" ∈ gWs := gWs_i 139 (by decide +kernel) (by decide +kernel)
theorem wf_X1_31 : Cond.fieldLink RX1 31 "LeastWants$Town" "coins" "[I" ∈ gWs := gWs_i 140 (by decide +kernel) (by decide +kernel)
theorem wf_X8_182 : Cond.fieldLink RX8 182 "LeastWants$Town" "coins" "[I" ∈ gWs := gWs_i 141 (by decide +kernel) (by decide +kernel)
theorem wf_X7_18 : Cond.fieldLink RX7 18 "LeastWants$Town" "told" "[I" ∈ gWs := gWs_i 142 (by decide +kernel) (by decide +kernel)
theorem wf_X4_93 : Cond.fieldLink RX4 93 "LeastWants$Town" "told" "[I" ∈ gWs := gWs_i 143 (by decide +kernel) (by decide +kernel)
theorem wf_X7_21 : Cond.fieldLink RX7 21 "LeastWants$Town" "holders" "[I" ∈ gWs := gWs_i 144 (by decide +kernel) (by decide +kernel)
theorem wf_X0_37 : Cond.fieldLink RX0 37 "LeastWants$Town" "holders" "[I" ∈ gWs := gWs_i 145 (by decide +kernel) (by decide +kernel)
theorem wf_X8_154 : Cond.fieldLink RX8 154 "LeastWants$Town" "holders" "[I" ∈ gWs := gWs_i 146 (by decide +kernel) (by decide +kernel)
theorem wf_X7_24 : Cond.fieldLink RX7 24 "LeastWants$Town" "worn" "[I" ∈ gWs := gWs_i 147 (by decide +kernel) (by decide +kernel)
theorem wf_X0_38 : Cond.fieldLink RX0 38 "LeastWants$Town" "worn" "[I" ∈ gWs := gWs_i 148 (by decide +kernel) (by decide +kernel)
theorem wf_X8_172 : Cond.fieldLink RX8 172 "LeastWants$Town" "worn" "[I" ∈ gWs := gWs_i 149 (by decide +kernel) (by decide +kernel)
theorem wq_X8_23 : Cond.classLink RX8 23 RX4 ∈ gWs := gWs_i 169 (by decide +kernel) (by decide +kernel)
theorem wn_X4 : Cond.instantiable RX4 7 ∈ gWs := gWs_i 170 (by decide +kernel) (by decide +kernel)
theorem wl_X4_3 : Cond.methodLink RX4 3 objectInit ∈ gWs := gWs_i 174 (by decide +kernel) (by decide +kernel)
theorem wf_X4_11 : Cond.fieldLink RX4 11 "LeastWants$Reader" "tape" "[I" ∈ gWs := gWs_i 175 (by decide +kernel) (by decide +kernel)
theorem wf_X4_15 : Cond.fieldLink RX4 15 "LeastWants$Reader" "fed" "I" ∈ gWs := gWs_i 176 (by decide +kernel) (by decide +kernel)
theorem wf_X8_125 : Cond.fieldLink RX8 125 "LeastWants$Reader" "fed" "I" ∈ gWs := gWs_i 177 (by decide +kernel) (by decide +kernel)
theorem wf_X4_24 : Cond.fieldLink RX4 24 "LeastWants$Reader" "wrong" "I" ∈ gWs := gWs_i 178 (by decide +kernel) (by decide +kernel)
theorem wf_X8_132 : Cond.fieldLink RX8 132 "LeastWants$Reader" "wrong" "I" ∈ gWs := gWs_i 179 (by decide +kernel) (by decide +kernel)
theorem wf_X8_139 : Cond.fieldLink RX8 139 "LeastWants$Reader" "at" "I" ∈ gWs := gWs_i 180 (by decide +kernel) (by decide +kernel)
theorem wf_X4_112 : Cond.fieldLink RX4 112 "LeastWants$Reader" "at" "I" ∈ gWs := gWs_i 181 (by decide +kernel) (by decide +kernel)
theorem wf_X4_27 : Cond.fieldLink RX4 27 "LeastWants$Reader" "behind" "I" ∈ gWs := gWs_i 182 (by decide +kernel) (by decide +kernel)
theorem wf_X4_43 : Cond.fieldLink RX4 43 "LeastWants$Reader" "token" "I" ∈ gWs := gWs_i 183 (by decide +kernel) (by decide +kernel)
theorem wf_X4_59 : Cond.fieldLink RX4 59 "LeastWants$Reader" "number" "I" ∈ gWs := gWs_i 184 (by decide +kernel) (by decide +kernel)
theorem wq_X8_30 : Cond.classLink RX8 30 RX0 ∈ gWs := gWs_i 200 (by decide +kernel) (by decide +kernel)
theorem wn_X0 : Cond.instantiable RX0 6 ∈ gWs := gWs_i 201 (by decide +kernel) (by decide +kernel)
theorem wl_X0_1 : Cond.methodLink RX0 1 objectInit ∈ gWs := gWs_i 205 (by decide +kernel) (by decide +kernel)
theorem wf_X0_28 : Cond.fieldLink RX0 28 "LeastWants$Acts" "many" "I" ∈ gWs := gWs_i 206 (by decide +kernel) (by decide +kernel)
theorem wf_X8_142 : Cond.fieldLink RX8 142 "LeastWants$Acts" "many" "I" ∈ gWs := gWs_i 207 (by decide +kernel) (by decide +kernel)
theorem wf_X0_24 : Cond.fieldLink RX0 24 "LeastWants$Acts" "latest" "I" ∈ gWs := gWs_i 208 (by decide +kernel) (by decide +kernel)
theorem wf_X0_9 : Cond.fieldLink RX0 9 "LeastWants$Acts" "things" "[I" ∈ gWs := gWs_i 209 (by decide +kernel) (by decide +kernel)
theorem wf_X0_13 : Cond.fieldLink RX0 13 "LeastWants$Acts" "holders" "[I" ∈ gWs := gWs_i 210 (by decide +kernel) (by decide +kernel)
theorem wf_X0_16 : Cond.fieldLink RX0 16 "LeastWants$Acts" "worn" "[I" ∈ gWs := gWs_i 211 (by decide +kernel) (by decide +kernel)
theorem wf_X0_21 : Cond.fieldLink RX0 21 "LeastWants$Acts" "coins" "[I" ∈ gWs := gWs_i 212 (by decide +kernel) (by decide +kernel)
theorem wq_X8_37 : Cond.classLink RX8 37 RX6 ∈ gWs := gWs_i 226 (by decide +kernel) (by decide +kernel)
theorem wn_X6 : Cond.instantiable RX6 2 ∈ gWs := gWs_i 227 (by decide +kernel) (by decide +kernel)
theorem wl_X6_1 : Cond.methodLink RX6 1 objectInit ∈ gWs := gWs_i 231 (by decide +kernel) (by decide +kernel)
theorem wf_X6_15 : Cond.fieldLink RX6 15 "LeastWants$Sayings" "people" "I" ∈ gWs := gWs_i 232 (by decide +kernel) (by decide +kernel)
theorem wf_X2_53 : Cond.fieldLink RX2 53 "LeastWants$Sayings" "people" "I" ∈ gWs := gWs_i 233 (by decide +kernel) (by decide +kernel)
theorem wf_X6_9 : Cond.fieldLink RX6 9 "LeastWants$Sayings" "said" "[I" ∈ gWs := gWs_i 234 (by decide +kernel) (by decide +kernel)
theorem wf_X2_39 : Cond.fieldLink RX2 39 "LeastWants$Sayings" "said" "[I" ∈ gWs := gWs_i 235 (by decide +kernel) (by decide +kernel)
theorem wf_X8_201 : Cond.fieldLink RX8 201 "LeastWants$Sayings" "said" "[I" ∈ gWs := gWs_i 236 (by decide +kernel) (by decide +kernel)
theorem wq_X8_44 : Cond.classLink RX8 44 RX3 ∈ gWs := gWs_i 242 (by decide +kernel) (by decide +kernel)
theorem wn_X3 : Cond.instantiable RX3 5 ∈ gWs := gWs_i 243 (by decide +kernel) (by decide +kernel)
theorem wl_X3_1 : Cond.methodLink RX3 1 objectInit ∈ gWs := gWs_i 247 (by decide +kernel) (by decide +kernel)
theorem wf_X3_22 : Cond.fieldLink RX3 22 "LeastWants$Prospect" "odds" "I" ∈ gWs := gWs_i 248 (by decide +kernel) (by decide +kernel)
theorem wf_X8_207 : Cond.fieldLink RX8 207 "LeastWants$Prospect" "odds" "I" ∈ gWs := gWs_i 249 (by decide +kernel) (by decide +kernel)
theorem wf_X3_13 : Cond.fieldLink RX3 13 "LeastWants$Prospect" "lowest" "I" ∈ gWs := gWs_i 250 (by decide +kernel) (by decide +kernel)
theorem wf_X3_39 : Cond.fieldLink RX3 39 "LeastWants$Prospect" "below" "I" ∈ gWs := gWs_i 251 (by decide +kernel) (by decide +kernel)
theorem wf_X3_42 : Cond.fieldLink RX3 42 "LeastWants$Prospect" "shared" "I" ∈ gWs := gWs_i 252 (by decide +kernel) (by decide +kernel)
theorem wf_X3_45 : Cond.fieldLink RX3 45 "LeastWants$Prospect" "above" "I" ∈ gWs := gWs_i 253 (by decide +kernel) (by decide +kernel)
theorem wq_X8_51 : Cond.classLink RX8 51 RX2 ∈ gWs := gWs_i 265 (by decide +kernel) (by decide +kernel)
theorem wn_X2 : Cond.instantiable RX2 4 ∈ gWs := gWs_i 266 (by decide +kernel) (by decide +kernel)
theorem wl_X2_3 : Cond.methodLink RX2 3 objectInit ∈ gWs := gWs_i 270 (by decide +kernel) (by decide +kernel)
theorem wq_X2_17 : Cond.classLink RX2 17 RX6 ∈ gWs := gWs_i 271 (by decide +kernel) (by decide +kernel)
theorem wq_X2_24 : Cond.classLink RX2 24 RX3 ∈ gWs := gWs_i 273 (by decide +kernel) (by decide +kernel)
theorem wf_X2_50 : Cond.fieldLink RX2 50 "LeastWants$Foretold" "manyRests" "I" ∈ gWs := gWs_i 275 (by decide +kernel) (by decide +kernel)
theorem wf_X8_221 : Cond.fieldLink RX8 221 "LeastWants$Foretold" "manyRests" "I" ∈ gWs := gWs_i 276 (by decide +kernel) (by decide +kernel)
theorem wf_X2_11 : Cond.fieldLink RX2 11 "LeastWants$Foretold" "firstRest" "[I" ∈ gWs := gWs_i 277 (by decide +kernel) (by decide +kernel)
theorem wf_X8_224 : Cond.fieldLink RX8 224 "LeastWants$Foretold" "firstRest" "[I" ∈ gWs := gWs_i 278 (by decide +kernel) (by decide +kernel)
theorem wf_X2_20 : Cond.fieldLink RX2 20 "LeastWants$Foretold" "trial" "LLeastWants$Sayings;" ∈ gWs := gWs_i 279 (by decide +kernel) (by decide +kernel)
theorem wf_X2_27 : Cond.fieldLink RX2 27 "LeastWants$Foretold" "prospect" "LLeastWants$Prospect;" ∈ gWs := gWs_i 280 (by decide +kernel) (by decide +kernel)
theorem wq_X8_58 : Cond.classLink RX8 58 RX1 ∈ gWs := gWs_i 290 (by decide +kernel) (by decide +kernel)
theorem wn_X1 : Cond.instantiable RX1 6 ∈ gWs := gWs_i 291 (by decide +kernel) (by decide +kernel)
theorem wl_X1_1 : Cond.methodLink RX1 1 objectInit ∈ gWs := gWs_i 295 (by decide +kernel) (by decide +kernel)
theorem wf_X1_16 : Cond.fieldLink RX1 16 "LeastWants$Asking" "traced" "I" ∈ gWs := gWs_i 296 (by decide +kernel) (by decide +kernel)
theorem wf_X8_260 : Cond.fieldLink RX8 260 "LeastWants$Asking" "traced" "I" ∈ gWs := gWs_i 297 (by decide +kernel) (by decide +kernel)
theorem wf_X1_9 : Cond.fieldLink RX1 9 "LeastWants$Asking" "trail" "[I" ∈ gWs := gWs_i 298 (by decide +kernel) (by decide +kernel)
theorem wf_X8_263 : Cond.fieldLink RX8 263 "LeastWants$Asking" "trail" "[I" ∈ gWs := gWs_i 299 (by decide +kernel) (by decide +kernel)
theorem wf_X1_20 : Cond.fieldLink RX1 20 "LeastWants$Asking" "asked" "I" ∈ gWs := gWs_i 300 (by decide +kernel) (by decide +kernel)
theorem wf_X1_28 : Cond.fieldLink RX1 28 "LeastWants$Asking" "askedKind" "I" ∈ gWs := gWs_i 301 (by decide +kernel) (by decide +kernel)
theorem wf_X1_34 : Cond.fieldLink RX1 34 "LeastWants$Asking" "askedCoin" "I" ∈ gWs := gWs_i 302 (by decide +kernel) (by decide +kernel)
theorem wf_X1_41 : Cond.fieldLink RX1 41 "LeastWants$Asking" "askedThings" "I" ∈ gWs := gWs_i 303 (by decide +kernel) (by decide +kernel)
theorem wf_X8_11 : Cond.fieldLink RX8 11 "LeastWants" "rows" "[LLeastWants$Row;" ∈ gWs := gWs_i 317 (by decide +kernel) (by decide +kernel)
theorem wf_X8_26 : Cond.fieldLink RX8 26 "LeastWants" "reader" "LLeastWants$Reader;" ∈ gWs := gWs_i 318 (by decide +kernel) (by decide +kernel)
theorem wf_X8_18 : Cond.fieldLink RX8 18 "LeastWants" "images" "[LLeastWants$Town;" ∈ gWs := gWs_i 319 (by decide +kernel) (by decide +kernel)
theorem wf_X8_33 : Cond.fieldLink RX8 33 "LeastWants" "acts" "LLeastWants$Acts;" ∈ gWs := gWs_i 320 (by decide +kernel) (by decide +kernel)
theorem wf_X8_40 : Cond.fieldLink RX8 40 "LeastWants" "sayings" "LLeastWants$Sayings;" ∈ gWs := gWs_i 321 (by decide +kernel) (by decide +kernel)
theorem wf_X8_47 : Cond.fieldLink RX8 47 "LeastWants" "prospect" "LLeastWants$Prospect;" ∈ gWs := gWs_i 322 (by decide +kernel) (by decide +kernel)
theorem wf_X8_54 : Cond.fieldLink RX8 54 "LeastWants" "foretold" "LLeastWants$Foretold;" ∈ gWs := gWs_i 323 (by decide +kernel) (by decide +kernel)
theorem wf_X8_61 : Cond.fieldLink RX8 61 "LeastWants" "asking" "LLeastWants$Asking;" ∈ gWs := gWs_i 324 (by decide +kernel) (by decide +kernel)
theorem wf_X8_65 : Cond.fieldLink RX8 65 "LeastWants" "here" "LLeastWants$Town;" ∈ gWs := gWs_i 325 (by decide +kernel) (by decide +kernel)
theorem wf_X8_69 : Cond.fieldLink RX8 69 "LeastWants" "spare" "LLeastWants$Town;" ∈ gWs := gWs_i 326 (by decide +kernel) (by decide +kernel)
theorem wf_X8_135 : Cond.fieldLink RX8 135 "LeastWants" "latestFault" "I" ∈ gWs := gWs_i 327 (by decide +kernel) (by decide +kernel)
theorem wf_X8_278 : Cond.fieldLink RX8 278 "LeastWants" "latestFinding" "I" ∈ gWs := gWs_i 328 (by decide +kernel) (by decide +kernel)
theorem wl_L_13 : Cond.methodLink RL 13 yX8_row ∈ gWs := gWs_i 354 (by decide +kernel) (by decide +kernel)
theorem wl_X8_72 : Cond.methodLink RX8 72 yX8_isRow ∈ gWs := gWs_i 358 (by decide +kernel) (by decide +kernel)
theorem wk_X8_76 : Cond.constant RX8 76 (-1000001) ∈ gWs := gWs_i 362 (by decide +kernel) (by decide +kernel)
theorem wl_X8_77 : Cond.methodLink RX8 77 yX8_found ∈ gWs := gWs_i 363 (by decide +kernel) (by decide +kernel)
theorem wk_X8_282 : Cond.constant RX8 282 (-1000010) ∈ gWs := gWs_i 367 (by decide +kernel) (by decide +kernel)
theorem wl_X8_81 : Cond.methodLink RX8 81 yX5_lay ∈ gWs := gWs_i 368 (by decide +kernel) (by decide +kernel)
theorem wl_X8_85 : Cond.methodLink RX8 85 yX8_fine ∈ gWs := gWs_i 372 (by decide +kernel) (by decide +kernel)
theorem wl_L_18 : Cond.methodLink RL 18 yX8_set ∈ gWs := gWs_i 376 (by decide +kernel) (by decide +kernel)
theorem wl_X8_96 : Cond.methodLink RX8 96 yX5_put ∈ gWs := gWs_i 380 (by decide +kernel) (by decide +kernel)
theorem wl_L_22 : Cond.methodLink RL 22 yX8_copy ∈ gWs := gWs_i 384 (by decide +kernel) (by decide +kernel)
theorem wl_X8_103 : Cond.methodLink RX8 103 yX5_has ∈ gWs := gWs_i 388 (by decide +kernel) (by decide +kernel)
theorem wl_X8_111 : Cond.methodLink RX8 111 arraycopyName ∈ gWs := gWs_i 392 (by decide +kernel) (by decide +kernel)
theorem wl_L_27 : Cond.methodLink RL 27 yX8_drop ∈ gWs := gWs_i 395 (by decide +kernel) (by decide +kernel)
theorem wl_L_34 : Cond.methodLink RL 34 yX8_feed ∈ gWs := gWs_i 399 (by decide +kernel) (by decide +kernel)
theorem wl_X8_117 : Cond.methodLink RX8 117 yX4_hasRoom ∈ gWs := gWs_i 403 (by decide +kernel) (by decide +kernel)
theorem wk_X8_120 : Cond.constant RX8 120 (-1000003) ∈ gWs := gWs_i 407 (by decide +kernel) (by decide +kernel)
theorem wl_X8_121 : Cond.methodLink RX8 121 yX4_append ∈ gWs := gWs_i 408 (by decide +kernel) (by decide +kernel)
theorem wl_L_39 : Cond.methodLink RL 39 yX8_town ∈ gWs := gWs_i 412 (by decide +kernel) (by decide +kernel)
theorem wl_X8_128 : Cond.methodLink RX8 128 yX4_readsInto ∈ gWs := gWs_i 416 (by decide +kernel) (by decide +kernel)
theorem wl_X4_19 : Cond.methodLink RX4 19 yX7_becomeEmpty ∈ gWs := gWs_i 420 (by decide +kernel) (by decide +kernel)
theorem wk_X7_40 : Cond.constant RX7 40 (-1000000) ∈ gWs := gWs_i 424 (by decide +kernel) (by decide +kernel)
theorem wl_X4_30 : Cond.methodLink RX4 30 yX4_step ∈ gWs := gWs_i 425 (by decide +kernel) (by decide +kernel)
theorem wl_X4_124 : Cond.methodLink RX4 124 yX4_isLetter ∈ gWs := gWs_i 429 (by decide +kernel) (by decide +kernel)
theorem wl_X4_127 : Cond.methodLink RX4 127 yX4_isFigure ∈ gWs := gWs_i 432 (by decide +kernel) (by decide +kernel)
theorem wl_X4_33 : Cond.methodLink RX4 33 yX4_readsLaw ∈ gWs := gWs_i 435 (by decide +kernel) (by decide +kernel)
theorem wl_X4_52 : Cond.methodLink RX4 52 yX4_passesWord ∈ gWs := gWs_i 440 (by decide +kernel) (by decide +kernel)
theorem wl_X4_74 : Cond.methodLink RX4 74 yX4_isWord ∈ gWs := gWs_i 444 (by decide +kernel) (by decide +kernel)
theorem wl_X4_115 : Cond.methodLink RX4 115 yJ0_length_8abf5 ∈ gWs := gWs_i 448 (by decide +kernel) (by decide +kernel)
theorem wl_J0_335 : Cond.methodLink RJ0 335 yJ0_coder_7d493 ∈ gWs := gWs_i 452 (by decide +kernel) (by decide +kernel)
theorem wf_J0_38 : Cond.fieldLink RJ0 38 "java/lang/String" "COMPACT_STRINGS" "Z" ∈ gWs := gWs_i 456 (by decide +kernel) (by decide +kernel)
theorem wl_X4_120 : Cond.methodLink RX4 120 yJ0_charAt_5068e ∈ gWs := gWs_i 458 (by decide +kernel) (by decide +kernel)
theorem wl_J0_492 : Cond.methodLink RJ0 492 yJ0_isLatin1_aae02 ∈ gWs := gWs_i 462 (by decide +kernel) (by decide +kernel)
theorem wl_J0_495 : Cond.methodLink RJ0 495 yJ1_charAt_3b067 ∈ gWs := gWs_i 466 (by decide +kernel) (by decide +kernel)
theorem wl_J1_9 : Cond.methodLink RJ1 9 yJ0_checkIndex_df160 ∈ gWs := gWs_i 469 (by decide +kernel) (by decide +kernel)
theorem wf_J0_1053 : Cond.fieldLink RJ0 1053 "jdk/internal/util/Preconditions" "SIOOBE_FORMATTER" "Ljava/util/function/BiFunction;" ∈ gWs := gWs_i 472 (by decide +kernel) (by decide +kernel)
theorem wl_J0_1059 : Cond.methodLink RJ0 1059 yJ3_checkIndex_8e157 ∈ gWs := gWs_i 474 (by decide +kernel) (by decide +kernel)
theorem wl_J0_498 : Cond.methodLink RJ0 498 yJ2_charAt_3b067 ∈ gWs := gWs_i 477 (by decide +kernel) (by decide +kernel)
theorem wl_J2_67 : Cond.methodLink RJ2 67 yJ2_checkIndex_2214a ∈ gWs := gWs_i 480 (by decide +kernel) (by decide +kernel)
theorem wl_J2_48 : Cond.methodLink RJ2 48 yJ2_length_9d52b ∈ gWs := gWs_i 483 (by decide +kernel) (by decide +kernel)
theorem wl_J2_414 : Cond.methodLink RJ2 414 yJ0_checkIndex_df160 ∈ gWs := gWs_i 486 (by decide +kernel) (by decide +kernel)
theorem wl_J2_71 : Cond.methodLink RJ2 71 yJ2_getChar_3b067 ∈ gWs := gWs_i 487 (by decide +kernel) (by decide +kernel)
theorem wf_J2_44 : Cond.fieldLink RJ2 44 "java/lang/StringUTF16" "$assertionsDisabled" "Z" ∈ gWs := gWs_i 490 (by decide +kernel) (by decide +kernel)
theorem wf_J2_59 : Cond.fieldLink RJ2 59 "java/lang/StringUTF16" "HI_BYTE_SHIFT" "I" ∈ gWs := gWs_i 492 (by decide +kernel) (by decide +kernel)
theorem wf_J2_63 : Cond.fieldLink RJ2 63 "java/lang/StringUTF16" "LO_BYTE_SHIFT" "I" ∈ gWs := gWs_i 494 (by decide +kernel) (by decide +kernel)
theorem wl_X4_46 : Cond.methodLink RX4 46 yX4_isWrong ∈ gWs := gWs_i 496 (by decide +kernel) (by decide +kernel)
theorem wl_X4_56 : Cond.methodLink RX4 56 yX4_passesNumber ∈ gWs := gWs_i 500 (by decide +kernel) (by decide +kernel)
theorem wl_X4_109 : Cond.methodLink RX4 109 yX4_numberTold ∈ gWs := gWs_i 504 (by decide +kernel) (by decide +kernel)
theorem wl_X4_68 : Cond.methodLink RX4 68 yX4_passesSign ∈ gWs := gWs_i 508 (by decide +kernel) (by decide +kernel)
theorem wl_X4_37 : Cond.methodLink RX4 37 yX4_readsPeople ∈ gWs := gWs_i 512 (by decide +kernel) (by decide +kernel)
theorem wl_X4_77 : Cond.methodLink RX4 77 yX4_readsSort ∈ gWs := gWs_i 517 (by decide +kernel) (by decide +kernel)
theorem wl_X4_84 : Cond.methodLink RX4 84 yX4_sortTold ∈ gWs := gWs_i 521 (by decide +kernel) (by decide +kernel)
theorem wl_X4_40 : Cond.methodLink RX4 40 yX4_readsThings ∈ gWs := gWs_i 530 (by decide +kernel) (by decide +kernel)
theorem wk_X8_138 : Cond.constant RX8 138 (-1000100) ∈ gWs := gWs_i 535 (by decide +kernel) (by decide +kernel)
theorem wl_L_44 : Cond.methodLink RL 44 yX8_fault ∈ gWs := gWs_i 537 (by decide +kernel) (by decide +kernel)
theorem wl_L_48 : Cond.methodLink RL 48 yX8_give ∈ gWs := gWs_i 541 (by decide +kernel) (by decide +kernel)
theorem wl_X8_148 : Cond.methodLink RX8 148 yX8_isThing ∈ gWs := gWs_i 545 (by decide +kernel) (by decide +kernel)
theorem wl_X8_151 : Cond.methodLink RX8 151 yX8_isSeed ∈ gWs := gWs_i 549 (by decide +kernel) (by decide +kernel)
theorem wk_X8_281 : Cond.constant RX8 281 (999999) ∈ gWs := gWs_i 552 (by decide +kernel) (by decide +kernel)
theorem wk_X8_157 : Cond.constant RX8 157 (-1000000) ∈ gWs := gWs_i 553 (by decide +kernel) (by decide +kernel)
theorem wk_X8_158 : Cond.constant RX8 158 (-1000002) ∈ gWs := gWs_i 554 (by decide +kernel) (by decide +kernel)
theorem wl_X8_159 : Cond.methodLink RX8 159 yX8_hear ∈ gWs := gWs_i 555 (by decide +kernel) (by decide +kernel)
theorem wl_X8_283 : Cond.methodLink RX8 283 yX6_sayTold ∈ gWs := gWs_i 559 (by decide +kernel) (by decide +kernel)
theorem wl_X6_19 : Cond.methodLink RX6 19 arraycopyName ∈ gWs := gWs_i 563 (by decide +kernel) (by decide +kernel)
theorem wl_X8_162 : Cond.methodLink RX8 162 yX8_holdRound ∈ gWs := gWs_i 564 (by decide +kernel) (by decide +kernel)
theorem wl_X8_237 : Cond.methodLink RX8 237 yX6_lowest ∈ gWs := gWs_i 568 (by decide +kernel) (by decide +kernel)
theorem wk_X8_287 : Cond.constantLong RX8 287 (16807) ∈ gWs := gWs_i 572 (by decide +kernel) (by decide +kernel)
theorem wk_X8_289 : Cond.constantLong RX8 289 (2147483647) ∈ gWs := gWs_i 573 (by decide +kernel) (by decide +kernel)
theorem wl_X8_240 : Cond.methodLink RX8 240 yX6_manyAt ∈ gWs := gWs_i 574 (by decide +kernel) (by decide +kernel)
theorem wl_X8_291 : Cond.methodLink RX8 291 yJ9_max_7cf53 ∈ gWs := gWs_i 578 (by decide +kernel) (by decide +kernel)
theorem wl_X8_296 : Cond.methodLink RX8 296 yX6_sayer ∈ gWs := gWs_i 581 (by decide +kernel) (by decide +kernel)
theorem wl_X8_169 : Cond.methodLink RX8 169 yX0_keep ∈ gWs := gWs_i 585 (by decide +kernel) (by decide +kernel)
theorem wl_X0_31 : Cond.methodLink RX0 31 yJ9_min_7cf53 ∈ gWs := gWs_i 589 (by decide +kernel) (by decide +kernel)
theorem wl_X0_40 : Cond.methodLink RX0 40 arraycopyName ∈ gWs := gWs_i 592 (by decide +kernel) (by decide +kernel)
theorem wl_X8_299 : Cond.methodLink RX8 299 yX6_next ∈ gWs := gWs_i 593 (by decide +kernel) (by decide +kernel)
theorem wl_X6_30 : Cond.methodLink RX6 30 yX6_lowest ∈ gWs := gWs_i 597 (by decide +kernel) (by decide +kernel)
theorem wl_X8_302 : Cond.methodLink RX8 302 yX7_pass ∈ gWs := gWs_i 598 (by decide +kernel) (by decide +kernel)
theorem wl_X7_61 : Cond.methodLink RX7 61 yX7_winnerGets ∈ gWs := gWs_i 602 (by decide +kernel) (by decide +kernel)
theorem wl_X7_64 : Cond.methodLink RX7 64 yX7_othersGet ∈ gWs := gWs_i 606 (by decide +kernel) (by decide +kernel)
theorem wl_L_52 : Cond.methodLink RL 52 yX8_offer ∈ gWs := gWs_i 610 (by decide +kernel) (by decide +kernel)
theorem wl_X8_165 : Cond.methodLink RX8 165 yX6_sayOwn ∈ gWs := gWs_i 614 (by decide +kernel) (by decide +kernel)
theorem wl_X6_26 : Cond.methodLink RX6 26 yX7_ownSaying ∈ gWs := gWs_i 618 (by decide +kernel) (by decide +kernel)
theorem wl_X7_49 : Cond.methodLink RX7 49 yX7_worthOf ∈ gWs := gWs_i 622 (by decide +kernel) (by decide +kernel)
theorem wl_X7_53 : Cond.methodLink RX7 53 yJ9_min_7cf53 ∈ gWs := gWs_i 626 (by decide +kernel) (by decide +kernel)
theorem wl_X7_58 : Cond.methodLink RX7 58 yJ9_max_7cf53 ∈ gWs := gWs_i 627 (by decide +kernel) (by decide +kernel)
theorem wl_L_57 : Cond.methodLink RL 57 yX8_back ∈ gWs := gWs_i 628 (by decide +kernel) (by decide +kernel)
theorem wl_L_61 : Cond.methodLink RL 61 yX8_undo ∈ gWs := gWs_i 632 (by decide +kernel) (by decide +kernel)
theorem wl_X8_175 : Cond.methodLink RX8 175 yX0_takeBack ∈ gWs := gWs_i 636 (by decide +kernel) (by decide +kernel)
theorem wl_L_65 : Cond.methodLink RL 65 yX8_coin ∈ gWs := gWs_i 640 (by decide +kernel) (by decide +kernel)
theorem wl_X8_179 : Cond.methodLink RX8 179 yX8_isPerson ∈ gWs := gWs_i 644 (by decide +kernel) (by decide +kernel)
theorem wl_L_69 : Cond.methodLink RL 69 yX8_thing ∈ gWs := gWs_i 648 (by decide +kernel) (by decide +kernel)
theorem wl_X8_185 : Cond.methodLink RX8 185 yX8_isEither ∈ gWs := gWs_i 652 (by decide +kernel) (by decide +kernel)
theorem wl_L_73 : Cond.methodLink RL 73 yX8_worth ∈ gWs := gWs_i 655 (by decide +kernel) (by decide +kernel)
theorem wl_X8_188 : Cond.methodLink RX8 188 yX7_worthOf ∈ gWs := gWs_i 659 (by decide +kernel) (by decide +kernel)
theorem wl_X8_191 : Cond.methodLink RX8 191 yX7_ownSaying ∈ gWs := gWs_i 660 (by decide +kernel) (by decide +kernel)
theorem wl_L_77 : Cond.methodLink RL 77 yX8_gain ∈ gWs := gWs_i 661 (by decide +kernel) (by decide +kernel)
theorem wl_X8_197 : Cond.methodLink RX8 197 yX3_look ∈ gWs := gWs_i 665 (by decide +kernel) (by decide +kernel)
theorem wl_X3_7 : Cond.methodLink RX3 7 yX6_lowest ∈ gWs := gWs_i 669 (by decide +kernel) (by decide +kernel)
theorem wl_X3_18 : Cond.methodLink RX3 18 yX6_manyAt ∈ gWs := gWs_i 670 (by decide +kernel) (by decide +kernel)
theorem wl_X3_25 : Cond.methodLink RX3 25 yX7_worthOf ∈ gWs := gWs_i 671 (by decide +kernel) (by decide +kernel)
theorem wl_X3_30 : Cond.methodLink RX3 30 yX6_next ∈ gWs := gWs_i 672 (by decide +kernel) (by decide +kernel)
theorem wl_X3_33 : Cond.methodLink RX3 33 yX7_winnerGets ∈ gWs := gWs_i 673 (by decide +kernel) (by decide +kernel)
theorem wl_X3_36 : Cond.methodLink RX3 36 yX7_othersGet ∈ gWs := gWs_i 674 (by decide +kernel) (by decide +kernel)
theorem wl_X8_204 : Cond.methodLink RX8 204 yX3_gainBy ∈ gWs := gWs_i 675 (by decide +kernel) (by decide +kernel)
theorem wl_X8_210 : Cond.methodLink RX8 210 yX8_ofFraction ∈ gWs := gWs_i 679 (by decide +kernel) (by decide +kernel)
theorem wl_L_82 : Cond.methodLink RL 82 yX8_best ∈ gWs := gWs_i 682 (by decide +kernel) (by decide +kernel)
theorem wl_X8_214 : Cond.methodLink RX8 214 yX3_bestSaying ∈ gWs := gWs_i 686 (by decide +kernel) (by decide +kernel)
theorem wl_X3_48 : Cond.methodLink RX3 48 yX3_gainBy ∈ gWs := gWs_i 690 (by decide +kernel) (by decide +kernel)
theorem wl_L_86 : Cond.methodLink RL 86 yX8_rests ∈ gWs := gWs_i 691 (by decide +kernel) (by decide +kernel)
theorem wl_X8_218 : Cond.methodLink RX8 218 yX2_seekRests ∈ gWs := gWs_i 695 (by decide +kernel) (by decide +kernel)
theorem wl_X2_57 : Cond.methodLink RX2 57 yX2_isRest ∈ gWs := gWs_i 699 (by decide +kernel) (by decide +kernel)
theorem wl_X2_35 : Cond.methodLink RX2 35 yX3_look ∈ gWs := gWs_i 703 (by decide +kernel) (by decide +kernel)
theorem wl_X2_42 : Cond.methodLink RX2 42 yX3_gainBy ∈ gWs := gWs_i 704 (by decide +kernel) (by decide +kernel)
theorem wl_X2_46 : Cond.methodLink RX2 46 yX3_bestSaying ∈ gWs := gWs_i 705 (by decide +kernel) (by decide +kernel)
theorem wl_X2_61 : Cond.methodLink RX2 61 arraycopyName ∈ gWs := gWs_i 706 (by decide +kernel) (by decide +kernel)
theorem wl_X2_67 : Cond.methodLink RX2 67 yX2_advance ∈ gWs := gWs_i 707 (by decide +kernel) (by decide +kernel)
theorem wl_L_90 : Cond.methodLink RL 90 yX8_rounds ∈ gWs := gWs_i 711 (by decide +kernel) (by decide +kernel)
theorem wl_X8_227 : Cond.methodLink RX8 227 yX2_takeTurns ∈ gWs := gWs_i 715 (by decide +kernel) (by decide +kernel)
theorem wk_X2_70 : Cond.constant RX2 70 (-1000000) ∈ gWs := gWs_i 719 (by decide +kernel) (by decide +kernel)
theorem wl_L_94 : Cond.methodLink RL 94 yX8_least ∈ gWs := gWs_i 720 (by decide +kernel) (by decide +kernel)
theorem wl_X8_231 : Cond.methodLink RX8 231 yX7_wantsLeast ∈ gWs := gWs_i 724 (by decide +kernel) (by decide +kernel)
theorem wl_X8_234 : Cond.methodLink RX8 234 yX7_wantsMost ∈ gWs := gWs_i 728 (by decide +kernel) (by decide +kernel)
theorem wl_L_98 : Cond.methodLink RL 98 yX8_lost ∈ gWs := gWs_i 732 (by decide +kernel) (by decide +kernel)
theorem wl_L_102 : Cond.methodLink RL 102 yX8_honest ∈ gWs := gWs_i 736 (by decide +kernel) (by decide +kernel)
theorem wl_X8_243 : Cond.methodLink RX8 243 yX2_isRest ∈ gWs := gWs_i 740 (by decide +kernel) (by decide +kernel)
theorem wl_L_106 : Cond.methodLink RL 106 yX8_ore ∈ gWs := gWs_i 741 (by decide +kernel) (by decide +kernel)
theorem wl_L_110 : Cond.methodLink RL 110 yX8_image ∈ gWs := gWs_i 745 (by decide +kernel) (by decide +kernel)
theorem wl_X8_247 : Cond.methodLink RX8 247 yX7_becomeLike ∈ gWs := gWs_i 749 (by decide +kernel) (by decide +kernel)
theorem wl_X7_41 : Cond.methodLink RX7 41 arraycopyName ∈ gWs := gWs_i 753 (by decide +kernel) (by decide +kernel)
theorem wl_L_114 : Cond.methodLink RL 114 yX8_restore ∈ gWs := gWs_i 754 (by decide +kernel) (by decide +kernel)
theorem wl_L_118 : Cond.methodLink RL 118 yX8_kind ∈ gWs := gWs_i 758 (by decide +kernel) (by decide +kernel)
theorem wl_L_122 : Cond.methodLink RL 122 yX8_as ∈ gWs := gWs_i 762 (by decide +kernel) (by decide +kernel)
theorem wl_X8_253 : Cond.methodLink RX8 253 yX1_isOne ∈ gWs := gWs_i 766 (by decide +kernel) (by decide +kernel)
theorem wf_X1_13 : Cond.fieldLink RX1 13 "LeastWants$Asking" "NEAREST" "[I" ∈ gWs := gWs_i 769 (by decide +kernel) (by decide +kernel)
theorem wl_L_126 : Cond.methodLink RL 126 yX8_ask ∈ gWs := gWs_i 771 (by decide +kernel) (by decide +kernel)
theorem wl_X8_256 : Cond.methodLink RX8 256 yX1_answer ∈ gWs := gWs_i 775 (by decide +kernel) (by decide +kernel)
theorem wl_X1_37 : Cond.methodLink RX1 37 yX7_countHeldBy ∈ gWs := gWs_i 779 (by decide +kernel) (by decide +kernel)
theorem wl_X1_44 : Cond.methodLink RX1 44 yX1_sizeBody ∈ gWs := gWs_i 783 (by decide +kernel) (by decide +kernel)
theorem wf_X1_55 : Cond.fieldLink RX1 55 "LeastWants$Asking" "SIZE_BODIES" "[I" ∈ gWs := gWs_i 787 (by decide +kernel) (by decide +kernel)
theorem wl_X1_58 : Cond.methodLink RX1 58 yX1_bodyOf ∈ gWs := gWs_i 789 (by decide +kernel) (by decide +kernel)
theorem wl_X1_48 : Cond.methodLink RX1 48 yX1_markBody ∈ gWs := gWs_i 792 (by decide +kernel) (by decide +kernel)
theorem wf_X1_62 : Cond.fieldLink RX1 62 "LeastWants$Asking" "MARK_BODIES" "[I" ∈ gWs := gWs_i 796 (by decide +kernel) (by decide +kernel)
theorem wl_X1_51 : Cond.methodLink RX1 51 yX1_begin ∈ gWs := gWs_i 798 (by decide +kernel) (by decide +kernel)
theorem wl_X1_65 : Cond.methodLink RX1 65 yX1_leave ∈ gWs := gWs_i 802 (by decide +kernel) (by decide +kernel)
theorem wl_L_130 : Cond.methodLink RL 130 yX8_trace ∈ gWs := gWs_i 806 (by decide +kernel) (by decide +kernel)
theorem wl_L_134 : Cond.methodLink RL 134 yX8_count ∈ gWs := gWs_i 810 (by decide +kernel) (by decide +kernel)
theorem wl_X8_266 : Cond.methodLink RX8 266 yX8_countRows ∈ gWs := gWs_i 814 (by decide +kernel) (by decide +kernel)
theorem wl_X8_272 : Cond.methodLink RX8 272 yX7_countHeld ∈ gWs := gWs_i 818 (by decide +kernel) (by decide +kernel)
theorem wl_L_138 : Cond.methodLink RL 138 yX8_status ∈ gWs := gWs_i 822 (by decide +kernel) (by decide +kernel)
theorem wq_L_10 : Cond.classLink RL 10 RX9 ∈ gWs := gWs_i 826 (by decide +kernel) (by decide +kernel)
theorem wn_X9 : Cond.instantiable RX9 24 ∈ gWs := gWs_i 827 (by decide +kernel) (by decide +kernel)
theorem wl_L_12 : Cond.methodLink RL 12 yX9_init ∈ gWs := gWs_i 828 (by decide +kernel) (by decide +kernel)
theorem wl_X9_1 : Cond.methodLink RX9 1 objectInit ∈ gWs := gWs_i 831 (by decide +kernel) (by decide +kernel)
theorem wf_X9_44 : Cond.fieldLink RX9 44 "LeastWantsModel" "thrown" "I" ∈ gWs := gWs_i 832 (by decide +kernel) (by decide +kernel)
theorem wf_X9_48 : Cond.fieldLink RX9 48 "LeastWantsModel" "status" "I" ∈ gWs := gWs_i 833 (by decide +kernel) (by decide +kernel)
theorem wf_X9_7 : Cond.fieldLink RX9 7 "LeastWantsModel" "lane" "[I" ∈ gWs := gWs_i 834 (by decide +kernel) (by decide +kernel)
theorem wf_X9_13 : Cond.fieldLink RX9 13 "LeastWantsModel" "many" "[I" ∈ gWs := gWs_i 835 (by decide +kernel) (by decide +kernel)
theorem wf_X9_16 : Cond.fieldLink RX9 16 "LeastWantsModel" "item" "[I" ∈ gWs := gWs_i 836 (by decide +kernel) (by decide +kernel)
theorem wf_X9_19 : Cond.fieldLink RX9 19 "LeastWantsModel" "town" "[I" ∈ gWs := gWs_i 837 (by decide +kernel) (by decide +kernel)
theorem wf_X9_22 : Cond.fieldLink RX9 22 "LeastWantsModel" "fresh" "[I" ∈ gWs := gWs_i 838 (by decide +kernel) (by decide +kernel)
theorem wf_X9_25 : Cond.fieldLink RX9 25 "LeastWantsModel" "was" "[I" ∈ gWs := gWs_i 839 (by decide +kernel) (by decide +kernel)
theorem wf_X9_171 : Cond.fieldLink RX9 171 "LeastWantsModel" "acts" "I" ∈ gWs := gWs_i 840 (by decide +kernel) (by decide +kernel)
theorem wf_X9_28 : Cond.fieldLink RX9 28 "LeastWantsModel" "tape" "[I" ∈ gWs := gWs_i 841 (by decide +kernel) (by decide +kernel)
theorem wf_X9_71 : Cond.fieldLink RX9 71 "LeastWantsModel" "taped" "I" ∈ gWs := gWs_i 842 (by decide +kernel) (by decide +kernel)
theorem wf_X9_167 : Cond.fieldLink RX9 167 "LeastWantsModel" "latest" "I" ∈ gWs := gWs_i 843 (by decide +kernel) (by decide +kernel)
theorem wf_X9_77 : Cond.fieldLink RX9 77 "LeastWantsModel" "length" "I" ∈ gWs := gWs_i 844 (by decide +kernel) (by decide +kernel)
theorem wf_X9_81 : Cond.fieldLink RX9 81 "LeastWantsModel" "cursor" "I" ∈ gWs := gWs_i 845 (by decide +kernel) (by decide +kernel)
theorem wf_X9_90 : Cond.fieldLink RX9 90 "LeastWantsModel" "token" "I" ∈ gWs := gWs_i 846 (by decide +kernel) (by decide +kernel)
theorem wf_X9_87 : Cond.fieldLink RX9 87 "LeastWantsModel" "start" "I" ∈ gWs := gWs_i 847 (by decide +kernel) (by decide +kernel)
theorem wf_X9_99 : Cond.fieldLink RX9 99 "LeastWantsModel" "till" "I" ∈ gWs := gWs_i 848 (by decide +kernel) (by decide +kernel)
theorem wf_X9_102 : Cond.fieldLink RX9 102 "LeastWantsModel" "fault" "I" ∈ gWs := gWs_i 849 (by decide +kernel) (by decide +kernel)
theorem wf_X9_108 : Cond.fieldLink RX9 108 "LeastWantsModel" "faultAt" "I" ∈ gWs := gWs_i 850 (by decide +kernel) (by decide +kernel)
theorem wf_X9_31 : Cond.fieldLink RX9 31 "LeastWantsModel" "says" "[I" ∈ gWs := gWs_i 851 (by decide +kernel) (by decide +kernel)
theorem wf_X9_34 : Cond.fieldLink RX9 34 "LeastWantsModel" "isKept" "[Z" ∈ gWs := gWs_i 852 (by decide +kernel) (by decide +kernel)
theorem wf_X9_38 : Cond.fieldLink RX9 38 "LeastWantsModel" "kept" "[I" ∈ gWs := gWs_i 853 (by decide +kernel) (by decide +kernel)
theorem wf_X9_41 : Cond.fieldLink RX9 41 "LeastWantsModel" "trace" "[I" ∈ gWs := gWs_i 854 (by decide +kernel) (by decide +kernel)
theorem wf_X9_251 : Cond.fieldLink RX9 251 "LeastWantsModel" "traced" "I" ∈ gWs := gWs_i 855 (by decide +kernel) (by decide +kernel)
theorem wl_L_17 : Cond.methodLink RL 17 yX9_row ∈ gWs := gWs_i 906 (by decide +kernel) (by decide +kernel)
theorem wl_X9_58 : Cond.methodLink RX9 58 yX9_isRow ∈ gWs := gWs_i 910 (by decide +kernel) (by decide +kernel)
theorem wk_X9_52 : Cond.constantLong RX9 52 (7) ∈ gWs := gWs_i 913 (by decide +kernel) (by decide +kernel)
theorem wl_X9_54 : Cond.methodLink RX9 54 yX9_in ∈ gWs := gWs_i 914 (by decide +kernel) (by decide +kernel)
theorem wk_X9_62 : Cond.constantLong RX9 62 (2) ∈ gWs := gWs_i 917 (by decide +kernel) (by decide +kernel)
theorem wk_X9_64 : Cond.constant RX9 64 (-1000001) ∈ gWs := gWs_i 918 (by decide +kernel) (by decide +kernel)
theorem wl_X9_65 : Cond.methodLink RX9 65 yX9_finding ∈ gWs := gWs_i 919 (by decide +kernel) (by decide +kernel)
theorem wk_X9_51 : Cond.constant RX9 51 (-1000010) ∈ gWs := gWs_i 923 (by decide +kernel) (by decide +kernel)
theorem wl_L_21 : Cond.methodLink RL 21 yX9_set ∈ gWs := gWs_i 924 (by decide +kernel) (by decide +kernel)
theorem wl_L_26 : Cond.methodLink RL 26 yX9_copy ∈ gWs := gWs_i 928 (by decide +kernel) (by decide +kernel)
theorem wl_L_31 : Cond.methodLink RL 31 yX9_drop ∈ gWs := gWs_i 932 (by decide +kernel) (by decide +kernel)
theorem wl_L_38 : Cond.methodLink RL 38 yX9_feed ∈ gWs := gWs_i 936 (by decide +kernel) (by decide +kernel)
theorem wk_X9_69 : Cond.constantLong RX9 69 (8) ∈ gWs := gWs_i 940 (by decide +kernel) (by decide +kernel)
theorem wk_X9_74 : Cond.constant RX9 74 (-1000003) ∈ gWs := gWs_i 941 (by decide +kernel) (by decide +kernel)
theorem wk_X9_75 : Cond.constantLong RX9 75 (255) ∈ gWs := gWs_i 942 (by decide +kernel) (by decide +kernel)
theorem wl_L_43 : Cond.methodLink RL 43 yX9_town ∈ gWs := gWs_i 943 (by decide +kernel) (by decide +kernel)
theorem wl_X9_152 : Cond.methodLink RX9 152 yX9_begin ∈ gWs := gWs_i 947 (by decide +kernel) (by decide +kernel)
theorem wl_X9_105 : Cond.methodLink RX9 105 yX9_next ∈ gWs := gWs_i 951 (by decide +kernel) (by decide +kernel)
theorem wl_X9_84 : Cond.methodLink RX9 84 yX9_byteAt ∈ gWs := gWs_i 955 (by decide +kernel) (by decide +kernel)
theorem wk_X9_80 : Cond.constant RX9 80 (-1000000) ∈ gWs := gWs_i 959 (by decide +kernel) (by decide +kernel)
theorem wl_X9_93 : Cond.methodLink RX9 93 yX9_isLetter ∈ gWs := gWs_i 960 (by decide +kernel) (by decide +kernel)
theorem wl_X9_96 : Cond.methodLink RX9 96 yX9_isFigure ∈ gWs := gWs_i 963 (by decide +kernel) (by decide +kernel)
theorem wl_X9_137 : Cond.methodLink RX9 137 yX9_name ∈ gWs := gWs_i 966 (by decide +kernel) (by decide +kernel)
theorem wk_X9_155 : Cond.constantLong RX9 155 (7102839) ∈ gWs := gWs_i 970 (by decide +kernel) (by decide +kernel)
theorem wl_X9_119 : Cond.methodLink RX9 119 yX9_must ∈ gWs := gWs_i 971 (by decide +kernel) (by decide +kernel)
theorem wl_X9_111 : Cond.methodLink RX9 111 yX9_bad ∈ gWs := gWs_i 975 (by decide +kernel) (by decide +kernel)
theorem wl_X9_148 : Cond.methodLink RX9 148 yX9_number ∈ gWs := gWs_i 979 (by decide +kernel) (by decide +kernel)
theorem wl_X9_115 : Cond.methodLink RX9 115 yX9_figures ∈ gWs := gWs_i 983 (by decide +kernel) (by decide +kernel)
theorem wl_X9_145 : Cond.methodLink RX9 145 yX9_mustEnd ∈ gWs := gWs_i 987 (by decide +kernel) (by decide +kernel)
theorem wk_X9_157 : Cond.constantLong RX9 157 (123581014175598) ∈ gWs := gWs_i 991 (by decide +kernel) (by decide +kernel)
theorem wl_X9_159 : Cond.methodLink RX9 159 yX9_readPerson ∈ gWs := gWs_i 992 (by decide +kernel) (by decide +kernel)
theorem wl_X9_133 : Cond.methodLink RX9 133 yX9_begins ∈ gWs := gWs_i 996 (by decide +kernel) (by decide +kernel)
theorem wl_X9_141 : Cond.methodLink RX9 141 yX9_kindBy ∈ gWs := gWs_i 1000 (by decide +kernel) (by decide +kernel)
theorem wk_X9_123 : Cond.constantLong RX9 123 (1953658213) ∈ gWs := gWs_i 1003 (by decide +kernel) (by decide +kernel)
theorem wk_X9_125 : Cond.constantLong RX9 125 (7564409) ∈ gWs := gWs_i 1004 (by decide +kernel) (by decide +kernel)
theorem wk_X9_127 : Cond.constantLong RX9 127 (7563385) ∈ gWs := gWs_i 1005 (by decide +kernel) (by decide +kernel)
theorem wk_X9_129 : Cond.constantLong RX9 129 (1919509352) ∈ gWs := gWs_i 1006 (by decide +kernel) (by decide +kernel)
theorem wk_X9_131 : Cond.constantLong RX9 131 (512869298039) ∈ gWs := gWs_i 1007 (by decide +kernel) (by decide +kernel)
theorem wk_X9_162 : Cond.constantLong RX9 162 (499967946343) ∈ gWs := gWs_i 1008 (by decide +kernel) (by decide +kernel)
theorem wl_X9_164 : Cond.methodLink RX9 164 yX9_readThing ∈ gWs := gWs_i 1009 (by decide +kernel) (by decide +kernel)
theorem wk_X9_170 : Cond.constant RX9 170 (-1000100) ∈ gWs := gWs_i 1013 (by decide +kernel) (by decide +kernel)
theorem wl_L_47 : Cond.methodLink RL 47 yX9_fault ∈ gWs := gWs_i 1014 (by decide +kernel) (by decide +kernel)
theorem wl_L_51 : Cond.methodLink RL 51 yX9_give ∈ gWs := gWs_i 1018 (by decide +kernel) (by decide +kernel)
theorem wl_X9_210 : Cond.methodLink RX9 210 yX9_isThing ∈ gWs := gWs_i 1022 (by decide +kernel) (by decide +kernel)
theorem wl_X9_213 : Cond.methodLink RX9 213 yX9_isSeed ∈ gWs := gWs_i 1026 (by decide +kernel) (by decide +kernel)
theorem wk_X9_174 : Cond.constantLong RX9 174 (999999) ∈ gWs := gWs_i 1029 (by decide +kernel) (by decide +kernel)
theorem wl_X9_176 : Cond.methodLink RX9 176 yX9_of ∈ gWs := gWs_i 1030 (by decide +kernel) (by decide +kernel)
theorem wk_X9_216 : Cond.constant RX9 216 (-1000002) ∈ gWs := gWs_i 1034 (by decide +kernel) (by decide +kernel)
theorem wl_X9_217 : Cond.methodLink RX9 217 yX9_barred ∈ gWs := gWs_i 1035 (by decide +kernel) (by decide +kernel)
theorem wk_X9_185 : Cond.constantLong RX9 185 (5) ∈ gWs := gWs_i 1039 (by decide +kernel) (by decide +kernel)
theorem wl_X9_220 : Cond.methodLink RX9 220 yX9_goRound ∈ gWs := gWs_i 1040 (by decide +kernel) (by decide +kernel)
theorem wl_X9_203 : Cond.methodLink RX9 203 yX9_keep ∈ gWs := gWs_i 1044 (by decide +kernel) (by decide +kernel)
theorem wk_X9_206 : Cond.constantLong RX9 206 (16807) ∈ gWs := gWs_i 1048 (by decide +kernel) (by decide +kernel)
theorem wk_X9_208 : Cond.constantLong RX9 208 (2147483647) ∈ gWs := gWs_i 1049 (by decide +kernel) (by decide +kernel)
theorem wl_X9_194 : Cond.methodLink RX9 194 yX9_likeOnes ∈ gWs := gWs_i 1050 (by decide +kernel) (by decide +kernel)
theorem wl_X9_187 : Cond.methodLink RX9 187 yX9_leastBut ∈ gWs := gWs_i 1054 (by decide +kernel) (by decide +kernel)
theorem wl_X9_190 : Cond.methodLink RX9 190 yX9_coinBy ∈ gWs := gWs_i 1058 (by decide +kernel) (by decide +kernel)
theorem wl_L_56 : Cond.methodLink RL 56 yX9_offer ∈ gWs := gWs_i 1062 (by decide +kernel) (by decide +kernel)
theorem wl_X9_223 : Cond.methodLink RX9 223 yX9_layOwn ∈ gWs := gWs_i 1066 (by decide +kernel) (by decide +kernel)
theorem wl_X9_182 : Cond.methodLink RX9 182 yX9_ownOf ∈ gWs := gWs_i 1070 (by decide +kernel) (by decide +kernel)
theorem wl_X9_179 : Cond.methodLink RX9 179 yX9_worthOf ∈ gWs := gWs_i 1074 (by decide +kernel) (by decide +kernel)
theorem wl_L_60 : Cond.methodLink RL 60 yX9_back ∈ gWs := gWs_i 1078 (by decide +kernel) (by decide +kernel)
theorem wl_L_64 : Cond.methodLink RL 64 yX9_undo ∈ gWs := gWs_i 1082 (by decide +kernel) (by decide +kernel)
theorem wl_L_68 : Cond.methodLink RL 68 yX9_coin ∈ gWs := gWs_i 1086 (by decide +kernel) (by decide +kernel)
theorem wl_X9_226 : Cond.methodLink RX9 226 yX9_isPerson ∈ gWs := gWs_i 1090 (by decide +kernel) (by decide +kernel)
theorem wl_L_72 : Cond.methodLink RL 72 yX9_thing ∈ gWs := gWs_i 1094 (by decide +kernel) (by decide +kernel)
theorem wl_L_76 : Cond.methodLink RL 76 yX9_worth ∈ gWs := gWs_i 1098 (by decide +kernel) (by decide +kernel)
theorem wl_L_81 : Cond.methodLink RL 81 yX9_gain ∈ gWs := gWs_i 1102 (by decide +kernel) (by decide +kernel)
theorem wl_X9_197 : Cond.methodLink RX9 197 yX9_gainBy ∈ gWs := gWs_i 1106 (by decide +kernel) (by decide +kernel)
theorem wl_X9_229 : Cond.methodLink RX9 229 yX9_told ∈ gWs := gWs_i 1110 (by decide +kernel) (by decide +kernel)
theorem wl_L_85 : Cond.methodLink RL 85 yX9_best ∈ gWs := gWs_i 1113 (by decide +kernel) (by decide +kernel)
theorem wl_X9_200 : Cond.methodLink RX9 200 yX9_bestBy ∈ gWs := gWs_i 1117 (by decide +kernel) (by decide +kernel)
theorem wl_L_89 : Cond.methodLink RL 89 yX9_rests ∈ gWs := gWs_i 1121 (by decide +kernel) (by decide +kernel)
theorem wk_X9_232 : Cond.constantLong RX9 232 (-1) ∈ gWs := gWs_i 1125 (by decide +kernel) (by decide +kernel)
theorem wl_X9_234 : Cond.methodLink RX9 234 yX9_layRow ∈ gWs := gWs_i 1126 (by decide +kernel) (by decide +kernel)
theorem wl_X9_237 : Cond.methodLink RX9 237 yX9_isRest ∈ gWs := gWs_i 1130 (by decide +kernel) (by decide +kernel)
theorem wl_L_93 : Cond.methodLink RL 93 yX9_rounds ∈ gWs := gWs_i 1134 (by decide +kernel) (by decide +kernel)
theorem wl_L_97 : Cond.methodLink RL 97 yX9_least ∈ gWs := gWs_i 1138 (by decide +kernel) (by decide +kernel)
theorem wl_X9_241 : Cond.methodLink RX9 241 yX9_extreme ∈ gWs := gWs_i 1142 (by decide +kernel) (by decide +kernel)
theorem wl_L_101 : Cond.methodLink RL 101 yX9_lost ∈ gWs := gWs_i 1146 (by decide +kernel) (by decide +kernel)
theorem wl_L_105 : Cond.methodLink RL 105 yX9_honest ∈ gWs := gWs_i 1150 (by decide +kernel) (by decide +kernel)
theorem wl_L_109 : Cond.methodLink RL 109 yX9_ore ∈ gWs := gWs_i 1154 (by decide +kernel) (by decide +kernel)
theorem wl_L_113 : Cond.methodLink RL 113 yX9_image ∈ gWs := gWs_i 1158 (by decide +kernel) (by decide +kernel)
theorem wl_X9_244 : Cond.methodLink RX9 244 yX9_isThere ∈ gWs := gWs_i 1162 (by decide +kernel) (by decide +kernel)
theorem wl_L_117 : Cond.methodLink RL 117 yX9_restore ∈ gWs := gWs_i 1166 (by decide +kernel) (by decide +kernel)
theorem wl_L_121 : Cond.methodLink RL 121 yX9_kind ∈ gWs := gWs_i 1170 (by decide +kernel) (by decide +kernel)
theorem wl_L_125 : Cond.methodLink RL 125 yX9_as ∈ gWs := gWs_i 1174 (by decide +kernel) (by decide +kernel)
theorem wl_X9_248 : Cond.methodLink RX9 248 yX9_isOf ∈ gWs := gWs_i 1178 (by decide +kernel) (by decide +kernel)
theorem wl_L_129 : Cond.methodLink RL 129 yX9_ask ∈ gWs := gWs_i 1181 (by decide +kernel) (by decide +kernel)
theorem wl_X9_269 : Cond.methodLink RX9 269 yX9_sizeOf ∈ gWs := gWs_i 1185 (by decide +kernel) (by decide +kernel)
theorem wl_X9_260 : Cond.methodLink RX9 260 yX9_richSize ∈ gWs := gWs_i 1189 (by decide +kernel) (by decide +kernel)
theorem wl_X9_254 : Cond.methodLink RX9 254 yX9_began ∈ gWs := gWs_i 1193 (by decide +kernel) (by decide +kernel)
theorem wl_X9_257 : Cond.methodLink RX9 257 yX9_plainSize ∈ gWs := gWs_i 1197 (by decide +kernel) (by decide +kernel)
theorem wl_X9_266 : Cond.methodLink RX9 266 yX9_markOf ∈ gWs := gWs_i 1201 (by decide +kernel) (by decide +kernel)
theorem wl_X9_263 : Cond.methodLink RX9 263 yX9_thingsOf ∈ gWs := gWs_i 1205 (by decide +kernel) (by decide +kernel)
theorem wl_L_133 : Cond.methodLink RL 133 yX9_trace ∈ gWs := gWs_i 1209 (by decide +kernel) (by decide +kernel)
theorem wl_L_137 : Cond.methodLink RL 137 yX9_count ∈ gWs := gWs_i 1213 (by decide +kernel) (by decide +kernel)
theorem wl_L_141 : Cond.methodLink RL 141 yX9_status ∈ gWs := gWs_i 1217 (by decide +kernel) (by decide +kernel)
theorem wk_L_32 : Cond.constantLong RL 32 (4294967295) ∈ gWs := gWs_i 1221 (by decide +kernel) (by decide +kernel)
theorem wf_J0_9 : Cond.fieldLink RJ0 9 "java/lang/String" "value" "[B" ∈ gWs := gWs_i 1222 (by decide +kernel) (by decide +kernel)
theorem wf_J0_15 : Cond.fieldLink RJ0 15 "java/lang/String" "coder" "B" ∈ gWs := gWs_i 1223 (by decide +kernel) (by decide +kernel)
theorem w_native_arraycopy : Cond.native arraycopyName ∈ gWs := gWs_i 394 (by decide +kernel) (by decide +kernel)
theorem w_static_arraycopy : Cond.static arraycopyName ∈ gWs := gWs_i 393 (by decide +kernel) (by decide +kernel)
theorem w_inst_objectInit : Cond.instanceMethod objectInit ∈ gWs := gWs_i 85 (by decide +kernel) (by decide +kernel)
theorem w_code_objectInit : Cond.code objectInit ⟨#[0xb1]⟩ 1 none ∈ gWs := gWs_i 86 (by decide +kernel) (by decide +kernel)
theorem wn_X8_15 : Cond.methodLinkNest RX8 15 yX5_init RX8 ∈ lw_tbl := List.mem_of_getElem? (i := 90) (by decide +kernel)
theorem wn_X8_22 : Cond.methodLinkNest RX8 22 yX7_init RX8 ∈ lw_tbl := List.mem_of_getElem? (i := 115) (by decide +kernel)
theorem wn_X8_25 : Cond.methodLinkNest RX8 25 yX4_init RX8 ∈ lw_tbl := List.mem_of_getElem? (i := 171) (by decide +kernel)
theorem wn_X8_32 : Cond.methodLinkNest RX8 32 yX0_init RX8 ∈ lw_tbl := List.mem_of_getElem? (i := 202) (by decide +kernel)
theorem wn_X8_39 : Cond.methodLinkNest RX8 39 yX6_init RX8 ∈ lw_tbl := List.mem_of_getElem? (i := 228) (by decide +kernel)
theorem wn_X8_46 : Cond.methodLinkNest RX8 46 yX3_init RX8 ∈ lw_tbl := List.mem_of_getElem? (i := 244) (by decide +kernel)
theorem wn_X8_53 : Cond.methodLinkNest RX8 53 yX2_init RX8 ∈ lw_tbl := List.mem_of_getElem? (i := 267) (by decide +kernel)
theorem wn_X2_19 : Cond.methodLinkNest RX2 19 yX6_init RX8 ∈ lw_tbl := List.mem_of_getElem? (i := 272) (by decide +kernel)
theorem wn_X2_26 : Cond.methodLinkNest RX2 26 yX3_init RX8 ∈ lw_tbl := List.mem_of_getElem? (i := 274) (by decide +kernel)
theorem wn_X8_60 : Cond.methodLinkNest RX8 60 yX1_init RX8 ∈ lw_tbl := List.mem_of_getElem? (i := 292) (by decide +kernel)
/-- what the tables say of a method that is called by its object, or of a static one -/
def MWv (y : MethodName) (bytes : ByteArray) (maxL : Nat) (ret : Option FieldType) (C : String) (n : Nat) : Prop := (y.cls = C ∧ y.cls ≠ "java/lang/invoke/MethodHandle" ∧ y.cls ≠ "java/lang/invoke/VarHandle" ∧ (parseMethodDescriptor y.desc).map (fun d => d.parameters.length) = some n) ∧ Cond.instanceMethod y ∈ gWs ∧ Cond.selects C y y ∈ gWs ∧ Cond.initialized C ∈ gWs ∧ Cond.code y bytes maxL ret ∈ gWs
def MWs (y : MethodName) (bytes : ByteArray) (maxL : Nat) (ret : Option FieldType) (n : Nat) : Prop := (y.cls ≠ "java/lang/invoke/MethodHandle" ∧ y.cls ≠ "java/lang/invoke/VarHandle" ∧ (parseMethodDescriptor y.desc).map (fun d => d.parameters.length) = some n) ∧ Cond.static y ∈ gWs ∧ Cond.initialized y.cls ∈ gWs ∧ Cond.code y bytes maxL ret ∈ gWs
theorem mw_X0_keep : MWv yX0_keep cX0_keep 3 none RX0 2 := ⟨by decide +kernel, gWs_i 586 (by decide +kernel) (by decide +kernel), gWs_i 587 (by decide +kernel) (by decide +kernel), gWs_i 67 (by decide +kernel) (by decide +kernel), gWs_i 588 (by decide +kernel) (by decide +kernel)⟩
theorem mw_X0_takeBack : MWv yX0_takeBack cX0_takeBack 3 none RX0 1 := ⟨by decide +kernel, gWs_i 637 (by decide +kernel) (by decide +kernel), gWs_i 638 (by decide +kernel) (by decide +kernel), gWs_i 67 (by decide +kernel) (by decide +kernel), gWs_i 639 (by decide +kernel) (by decide +kernel)⟩
theorem mw_X1_isOne : MWs yX1_isOne cX1_isOne 4 (some .boolean) 2 := ⟨by decide +kernel, gWs_i 767 (by decide +kernel) (by decide +kernel), gWs_i 71 (by decide +kernel) (by decide +kernel), gWs_i 768 (by decide +kernel) (by decide +kernel)⟩
theorem mw_X1_answer : MWv yX1_answer cX1_answer 4 (some .int) RX1 3 := ⟨by decide +kernel, gWs_i 776 (by decide +kernel) (by decide +kernel), gWs_i 777 (by decide +kernel) (by decide +kernel), gWs_i 71 (by decide +kernel) (by decide +kernel), gWs_i 778 (by decide +kernel) (by decide +kernel)⟩
theorem mw_X1_bodyOf : MWs yX1_bodyOf cX1_bodyOf 4 (some .int) 2 := ⟨by decide +kernel, gWs_i 790 (by decide +kernel) (by decide +kernel), gWs_i 71 (by decide +kernel) (by decide +kernel), gWs_i 791 (by decide +kernel) (by decide +kernel)⟩
theorem mw_X1_sizeBody : MWv yX1_sizeBody cX1_sizeBody 1 (some .int) RX1 0 := ⟨by decide +kernel, gWs_i 785 (by decide +kernel) (by decide +kernel), gWs_i 20 (by decide +kernel) (by decide +kernel), gWs_i 71 (by decide +kernel) (by decide +kernel), gWs_i 786 (by decide +kernel) (by decide +kernel)⟩
theorem mw_X1_markBody : MWv yX1_markBody cX1_markBody 1 (some .int) RX1 0 := ⟨by decide +kernel, gWs_i 794 (by decide +kernel) (by decide +kernel), gWs_i 21 (by decide +kernel) (by decide +kernel), gWs_i 71 (by decide +kernel) (by decide +kernel), gWs_i 795 (by decide +kernel) (by decide +kernel)⟩
theorem mw_X1_begin : MWv yX1_begin cX1_begin 4 (some .int) RX1 2 := ⟨by decide +kernel, gWs_i 800 (by decide +kernel) (by decide +kernel), gWs_i 22 (by decide +kernel) (by decide +kernel), gWs_i 71 (by decide +kernel) (by decide +kernel), gWs_i 801 (by decide +kernel) (by decide +kernel)⟩
theorem mw_X1_leave : MWv yX1_leave cX1_leave 2 none RX1 1 := ⟨by decide +kernel, gWs_i 804 (by decide +kernel) (by decide +kernel), gWs_i 23 (by decide +kernel) (by decide +kernel), gWs_i 71 (by decide +kernel) (by decide +kernel), gWs_i 805 (by decide +kernel) (by decide +kernel)⟩
theorem mw_X2_isRest : MWv yX2_isRest cX2_isRest 6 (some .boolean) RX2 4 := ⟨by decide +kernel, gWs_i 700 (by decide +kernel) (by decide +kernel), gWs_i 701 (by decide +kernel) (by decide +kernel), gWs_i 70 (by decide +kernel) (by decide +kernel), gWs_i 702 (by decide +kernel) (by decide +kernel)⟩
theorem mw_X2_seekRests : MWv yX2_seekRests cX2_seekRests 5 none RX2 2 := ⟨by decide +kernel, gWs_i 696 (by decide +kernel) (by decide +kernel), gWs_i 697 (by decide +kernel) (by decide +kernel), gWs_i 70 (by decide +kernel) (by decide +kernel), gWs_i 698 (by decide +kernel) (by decide +kernel)⟩
theorem mw_X2_advance : MWv yX2_advance cX2_advance 2 none RX2 0 := ⟨by decide +kernel, gWs_i 709 (by decide +kernel) (by decide +kernel), gWs_i 19 (by decide +kernel) (by decide +kernel), gWs_i 70 (by decide +kernel) (by decide +kernel), gWs_i 710 (by decide +kernel) (by decide +kernel)⟩
theorem mw_X2_takeTurns : MWv yX2_takeTurns cX2_takeTurns 8 (some .int) RX2 3 := ⟨by decide +kernel, gWs_i 716 (by decide +kernel) (by decide +kernel), gWs_i 717 (by decide +kernel) (by decide +kernel), gWs_i 70 (by decide +kernel) (by decide +kernel), gWs_i 718 (by decide +kernel) (by decide +kernel)⟩
theorem mw_X3_look : MWv yX3_look cX3_look 8 none RX3 5 := ⟨by decide +kernel, gWs_i 666 (by decide +kernel) (by decide +kernel), gWs_i 667 (by decide +kernel) (by decide +kernel), gWs_i 69 (by decide +kernel) (by decide +kernel), gWs_i 668 (by decide +kernel) (by decide +kernel)⟩
theorem mw_X3_gainBy : MWv yX3_gainBy cX3_gainBy 2 (some .int) RX3 1 := ⟨by decide +kernel, gWs_i 676 (by decide +kernel) (by decide +kernel), gWs_i 677 (by decide +kernel) (by decide +kernel), gWs_i 69 (by decide +kernel) (by decide +kernel), gWs_i 678 (by decide +kernel) (by decide +kernel)⟩
theorem mw_X3_bestSaying : MWv yX3_bestSaying cX3_bestSaying 3 (some .int) RX3 0 := ⟨by decide +kernel, gWs_i 687 (by decide +kernel) (by decide +kernel), gWs_i 688 (by decide +kernel) (by decide +kernel), gWs_i 69 (by decide +kernel) (by decide +kernel), gWs_i 689 (by decide +kernel) (by decide +kernel)⟩
theorem mw_X4_hasRoom : MWv yX4_hasRoom cX4_hasRoom 2 (some .boolean) RX4 1 := ⟨by decide +kernel, gWs_i 404 (by decide +kernel) (by decide +kernel), gWs_i 405 (by decide +kernel) (by decide +kernel), gWs_i 66 (by decide +kernel) (by decide +kernel), gWs_i 406 (by decide +kernel) (by decide +kernel)⟩
theorem mw_X4_append : MWv yX4_append cX4_append 5 none RX4 2 := ⟨by decide +kernel, gWs_i 409 (by decide +kernel) (by decide +kernel), gWs_i 410 (by decide +kernel) (by decide +kernel), gWs_i 66 (by decide +kernel) (by decide +kernel), gWs_i 411 (by decide +kernel) (by decide +kernel)⟩
theorem mw_X4_readsInto : MWv yX4_readsInto cX4_readsInto 2 (some .boolean) RX4 1 := ⟨by decide +kernel, gWs_i 417 (by decide +kernel) (by decide +kernel), gWs_i 418 (by decide +kernel) (by decide +kernel), gWs_i 66 (by decide +kernel) (by decide +kernel), gWs_i 419 (by decide +kernel) (by decide +kernel)⟩
theorem mw_X4_readsLaw : MWv yX4_readsLaw cX4_readsLaw 2 (some .boolean) RX4 1 := ⟨by decide +kernel, gWs_i 437 (by decide +kernel) (by decide +kernel), gWs_i 4 (by decide +kernel) (by decide +kernel), gWs_i 66 (by decide +kernel) (by decide +kernel), gWs_i 438 (by decide +kernel) (by decide +kernel)⟩
theorem mw_X4_readsPeople : MWv yX4_readsPeople cX4_readsPeople 3 (some .boolean) RX4 1 := ⟨by decide +kernel, gWs_i 514 (by decide +kernel) (by decide +kernel), gWs_i 11 (by decide +kernel) (by decide +kernel), gWs_i 66 (by decide +kernel) (by decide +kernel), gWs_i 515 (by decide +kernel) (by decide +kernel)⟩
theorem mw_X4_readsSort : MWv yX4_readsSort cX4_readsSort 4 (some .boolean) RX4 2 := ⟨by decide +kernel, gWs_i 519 (by decide +kernel) (by decide +kernel), gWs_i 12 (by decide +kernel) (by decide +kernel), gWs_i 66 (by decide +kernel) (by decide +kernel), gWs_i 520 (by decide +kernel) (by decide +kernel)⟩
theorem mw_X4_readsThings : MWv yX4_readsThings cX4_readsThings 4 (some .boolean) RX4 1 := ⟨by decide +kernel, gWs_i 532 (by decide +kernel) (by decide +kernel), gWs_i 14 (by decide +kernel) (by decide +kernel), gWs_i 66 (by decide +kernel) (by decide +kernel), gWs_i 533 (by decide +kernel) (by decide +kernel)⟩
theorem mw_X4_sortTold : MWv yX4_sortTold cX4_sortTold 1 (some .int) RX4 0 := ⟨by decide +kernel, gWs_i 523 (by decide +kernel) (by decide +kernel), gWs_i 13 (by decide +kernel) (by decide +kernel), gWs_i 66 (by decide +kernel) (by decide +kernel), gWs_i 524 (by decide +kernel) (by decide +kernel)⟩
theorem mw_X4_passesWord : MWv yX4_passesWord cX4_passesWord 2 (some .boolean) RX4 1 := ⟨by decide +kernel, gWs_i 442 (by decide +kernel) (by decide +kernel), gWs_i 5 (by decide +kernel) (by decide +kernel), gWs_i 66 (by decide +kernel) (by decide +kernel), gWs_i 443 (by decide +kernel) (by decide +kernel)⟩
theorem mw_X4_passesSign : MWv yX4_passesSign cX4_passesSign 1 (some .boolean) RX4 0 := ⟨by decide +kernel, gWs_i 510 (by decide +kernel) (by decide +kernel), gWs_i 10 (by decide +kernel) (by decide +kernel), gWs_i 66 (by decide +kernel) (by decide +kernel), gWs_i 511 (by decide +kernel) (by decide +kernel)⟩
theorem mw_X4_passesNumber : MWv yX4_passesNumber cX4_passesNumber 2 (some .boolean) RX4 1 := ⟨by decide +kernel, gWs_i 502 (by decide +kernel) (by decide +kernel), gWs_i 8 (by decide +kernel) (by decide +kernel), gWs_i 66 (by decide +kernel) (by decide +kernel), gWs_i 503 (by decide +kernel) (by decide +kernel)⟩
theorem mw_X4_isWrong : MWv yX4_isWrong cX4_isWrong 2 (some .boolean) RX4 1 := ⟨by decide +kernel, gWs_i 498 (by decide +kernel) (by decide +kernel), gWs_i 7 (by decide +kernel) (by decide +kernel), gWs_i 66 (by decide +kernel) (by decide +kernel), gWs_i 499 (by decide +kernel) (by decide +kernel)⟩
theorem mw_X4_isWord : MWv yX4_isWord cX4_isWord 3 (some .boolean) RX4 1 := ⟨by decide +kernel, gWs_i 446 (by decide +kernel) (by decide +kernel), gWs_i 6 (by decide +kernel) (by decide +kernel), gWs_i 66 (by decide +kernel) (by decide +kernel), gWs_i 447 (by decide +kernel) (by decide +kernel)⟩
theorem mw_X4_numberTold : MWv yX4_numberTold cX4_numberTold 3 (some .int) RX4 0 := ⟨by decide +kernel, gWs_i 506 (by decide +kernel) (by decide +kernel), gWs_i 9 (by decide +kernel) (by decide +kernel), gWs_i 66 (by decide +kernel) (by decide +kernel), gWs_i 507 (by decide +kernel) (by decide +kernel)⟩
theorem mw_X4_step : MWv yX4_step cX4_step 1 none RX4 0 := ⟨by decide +kernel, gWs_i 427 (by decide +kernel) (by decide +kernel), gWs_i 3 (by decide +kernel) (by decide +kernel), gWs_i 66 (by decide +kernel) (by decide +kernel), gWs_i 428 (by decide +kernel) (by decide +kernel)⟩
theorem mw_X4_isLetter : MWs yX4_isLetter cX4_isLetter 1 (some .boolean) 1 := ⟨by decide +kernel, gWs_i 430 (by decide +kernel) (by decide +kernel), gWs_i 66 (by decide +kernel) (by decide +kernel), gWs_i 431 (by decide +kernel) (by decide +kernel)⟩
theorem mw_X4_isFigure : MWs yX4_isFigure cX4_isFigure 1 (some .boolean) 1 := ⟨by decide +kernel, gWs_i 433 (by decide +kernel) (by decide +kernel), gWs_i 66 (by decide +kernel) (by decide +kernel), gWs_i 434 (by decide +kernel) (by decide +kernel)⟩
theorem mw_X5_lay : MWv yX5_lay cX5_lay 4 none RX5 2 := ⟨by decide +kernel, gWs_i 369 (by decide +kernel) (by decide +kernel), gWs_i 370 (by decide +kernel) (by decide +kernel), gWs_i 64 (by decide +kernel) (by decide +kernel), gWs_i 371 (by decide +kernel) (by decide +kernel)⟩
theorem mw_X5_put : MWv yX5_put cX5_put 4 (some .int) RX5 2 := ⟨by decide +kernel, gWs_i 381 (by decide +kernel) (by decide +kernel), gWs_i 382 (by decide +kernel) (by decide +kernel), gWs_i 64 (by decide +kernel) (by decide +kernel), gWs_i 383 (by decide +kernel) (by decide +kernel)⟩
theorem mw_X5_has : MWv yX5_has cX5_has 3 (some .boolean) RX5 2 := ⟨by decide +kernel, gWs_i 389 (by decide +kernel) (by decide +kernel), gWs_i 390 (by decide +kernel) (by decide +kernel), gWs_i 64 (by decide +kernel) (by decide +kernel), gWs_i 391 (by decide +kernel) (by decide +kernel)⟩
theorem mw_X6_sayTold : MWv yX6_sayTold cX6_sayTold 3 none RX6 2 := ⟨by decide +kernel, gWs_i 560 (by decide +kernel) (by decide +kernel), gWs_i 561 (by decide +kernel) (by decide +kernel), gWs_i 68 (by decide +kernel) (by decide +kernel), gWs_i 562 (by decide +kernel) (by decide +kernel)⟩
theorem mw_X6_sayOwn : MWv yX6_sayOwn cX6_sayOwn 4 none RX6 2 := ⟨by decide +kernel, gWs_i 615 (by decide +kernel) (by decide +kernel), gWs_i 616 (by decide +kernel) (by decide +kernel), gWs_i 68 (by decide +kernel) (by decide +kernel), gWs_i 617 (by decide +kernel) (by decide +kernel)⟩
theorem mw_X6_lowest : MWv yX6_lowest cX6_lowest 4 (some .int) RX6 1 := ⟨by decide +kernel, gWs_i 569 (by decide +kernel) (by decide +kernel), gWs_i 570 (by decide +kernel) (by decide +kernel), gWs_i 68 (by decide +kernel) (by decide +kernel), gWs_i 571 (by decide +kernel) (by decide +kernel)⟩
theorem mw_X6_manyAt : MWv yX6_manyAt cX6_manyAt 5 (some .int) RX6 2 := ⟨by decide +kernel, gWs_i 575 (by decide +kernel) (by decide +kernel), gWs_i 576 (by decide +kernel) (by decide +kernel), gWs_i 68 (by decide +kernel) (by decide +kernel), gWs_i 577 (by decide +kernel) (by decide +kernel)⟩
theorem mw_X6_sayer : MWv yX6_sayer cX6_sayer 5 (some .int) RX6 2 := ⟨by decide +kernel, gWs_i 582 (by decide +kernel) (by decide +kernel), gWs_i 583 (by decide +kernel) (by decide +kernel), gWs_i 68 (by decide +kernel) (by decide +kernel), gWs_i 584 (by decide +kernel) (by decide +kernel)⟩
theorem mw_X6_next : MWv yX6_next cX6_next 2 (some .int) RX6 1 := ⟨by decide +kernel, gWs_i 594 (by decide +kernel) (by decide +kernel), gWs_i 595 (by decide +kernel) (by decide +kernel), gWs_i 68 (by decide +kernel) (by decide +kernel), gWs_i 596 (by decide +kernel) (by decide +kernel)⟩
theorem mw_X7_becomeEmpty : MWv yX7_becomeEmpty cX7_becomeEmpty 2 none RX7 0 := ⟨by decide +kernel, gWs_i 421 (by decide +kernel) (by decide +kernel), gWs_i 422 (by decide +kernel) (by decide +kernel), gWs_i 65 (by decide +kernel) (by decide +kernel), gWs_i 423 (by decide +kernel) (by decide +kernel)⟩
theorem mw_X7_becomeLike : MWv yX7_becomeLike cX7_becomeLike 2 none RX7 1 := ⟨by decide +kernel, gWs_i 750 (by decide +kernel) (by decide +kernel), gWs_i 751 (by decide +kernel) (by decide +kernel), gWs_i 65 (by decide +kernel) (by decide +kernel), gWs_i 752 (by decide +kernel) (by decide +kernel)⟩
theorem mw_X7_worthOf : MWv yX7_worthOf cX7_worthOf 3 (some .int) RX7 2 := ⟨by decide +kernel, gWs_i 623 (by decide +kernel) (by decide +kernel), gWs_i 624 (by decide +kernel) (by decide +kernel), gWs_i 65 (by decide +kernel) (by decide +kernel), gWs_i 625 (by decide +kernel) (by decide +kernel)⟩
theorem mw_X7_ownSaying : MWv yX7_ownSaying cX7_ownSaying 4 (some .int) RX7 2 := ⟨by decide +kernel, gWs_i 619 (by decide +kernel) (by decide +kernel), gWs_i 620 (by decide +kernel) (by decide +kernel), gWs_i 65 (by decide +kernel) (by decide +kernel), gWs_i 621 (by decide +kernel) (by decide +kernel)⟩
theorem mw_X7_winnerGets : MWv yX7_winnerGets cX7_winnerGets 3 (some .int) RX7 2 := ⟨by decide +kernel, gWs_i 603 (by decide +kernel) (by decide +kernel), gWs_i 604 (by decide +kernel) (by decide +kernel), gWs_i 65 (by decide +kernel) (by decide +kernel), gWs_i 605 (by decide +kernel) (by decide +kernel)⟩
theorem mw_X7_othersGet : MWv yX7_othersGet cX7_othersGet 2 (some .int) RX7 1 := ⟨by decide +kernel, gWs_i 607 (by decide +kernel) (by decide +kernel), gWs_i 608 (by decide +kernel) (by decide +kernel), gWs_i 65 (by decide +kernel) (by decide +kernel), gWs_i 609 (by decide +kernel) (by decide +kernel)⟩
theorem mw_X7_pass : MWv yX7_pass cX7_pass 5 none RX7 3 := ⟨by decide +kernel, gWs_i 599 (by decide +kernel) (by decide +kernel), gWs_i 600 (by decide +kernel) (by decide +kernel), gWs_i 65 (by decide +kernel) (by decide +kernel), gWs_i 601 (by decide +kernel) (by decide +kernel)⟩
theorem mw_X7_wantsLeast : MWv yX7_wantsLeast cX7_wantsLeast 4 (some .int) RX7 1 := ⟨by decide +kernel, gWs_i 725 (by decide +kernel) (by decide +kernel), gWs_i 726 (by decide +kernel) (by decide +kernel), gWs_i 65 (by decide +kernel) (by decide +kernel), gWs_i 727 (by decide +kernel) (by decide +kernel)⟩
theorem mw_X7_wantsMost : MWv yX7_wantsMost cX7_wantsMost 4 (some .int) RX7 1 := ⟨by decide +kernel, gWs_i 729 (by decide +kernel) (by decide +kernel), gWs_i 730 (by decide +kernel) (by decide +kernel), gWs_i 65 (by decide +kernel) (by decide +kernel), gWs_i 731 (by decide +kernel) (by decide +kernel)⟩
theorem mw_X7_countHeld : MWv yX7_countHeld cX7_countHeld 3 (some .int) RX7 0 := ⟨by decide +kernel, gWs_i 819 (by decide +kernel) (by decide +kernel), gWs_i 820 (by decide +kernel) (by decide +kernel), gWs_i 65 (by decide +kernel) (by decide +kernel), gWs_i 821 (by decide +kernel) (by decide +kernel)⟩
theorem mw_X7_countHeldBy : MWv yX7_countHeldBy cX7_countHeldBy 4 (some .int) RX7 1 := ⟨by decide +kernel, gWs_i 780 (by decide +kernel) (by decide +kernel), gWs_i 781 (by decide +kernel) (by decide +kernel), gWs_i 65 (by decide +kernel) (by decide +kernel), gWs_i 782 (by decide +kernel) (by decide +kernel)⟩
theorem mw_X8_row : MWv yX8_row cX8_row 4 (some .int) RX8 3 := ⟨by decide +kernel, gWs_i 355 (by decide +kernel) (by decide +kernel), gWs_i 356 (by decide +kernel) (by decide +kernel), gWs_i 63 (by decide +kernel) (by decide +kernel), gWs_i 357 (by decide +kernel) (by decide +kernel)⟩
theorem mw_X8_set : MWv yX8_set cX8_set 5 (some .int) RX8 3 := ⟨by decide +kernel, gWs_i 377 (by decide +kernel) (by decide +kernel), gWs_i 378 (by decide +kernel) (by decide +kernel), gWs_i 63 (by decide +kernel) (by decide +kernel), gWs_i 379 (by decide +kernel) (by decide +kernel)⟩
theorem mw_X8_copy : MWv yX8_copy cX8_copy 8 (some .int) RX8 5 := ⟨by decide +kernel, gWs_i 385 (by decide +kernel) (by decide +kernel), gWs_i 386 (by decide +kernel) (by decide +kernel), gWs_i 63 (by decide +kernel) (by decide +kernel), gWs_i 387 (by decide +kernel) (by decide +kernel)⟩
theorem mw_X8_drop : MWv yX8_drop cX8_drop 3 (some .int) RX8 1 := ⟨by decide +kernel, gWs_i 396 (by decide +kernel) (by decide +kernel), gWs_i 397 (by decide +kernel) (by decide +kernel), gWs_i 63 (by decide +kernel) (by decide +kernel), gWs_i 398 (by decide +kernel) (by decide +kernel)⟩
theorem mw_X8_feed : MWv yX8_feed cX8_feed 4 (some .int) RX8 2 := ⟨by decide +kernel, gWs_i 400 (by decide +kernel) (by decide +kernel), gWs_i 401 (by decide +kernel) (by decide +kernel), gWs_i 63 (by decide +kernel) (by decide +kernel), gWs_i 402 (by decide +kernel) (by decide +kernel)⟩
theorem mw_X8_town : MWv yX8_town cX8_town 3 (some .int) RX8 0 := ⟨by decide +kernel, gWs_i 413 (by decide +kernel) (by decide +kernel), gWs_i 414 (by decide +kernel) (by decide +kernel), gWs_i 63 (by decide +kernel) (by decide +kernel), gWs_i 415 (by decide +kernel) (by decide +kernel)⟩
theorem mw_X8_fault : MWv yX8_fault cX8_fault 1 (some .int) RX8 0 := ⟨by decide +kernel, gWs_i 538 (by decide +kernel) (by decide +kernel), gWs_i 539 (by decide +kernel) (by decide +kernel), gWs_i 63 (by decide +kernel) (by decide +kernel), gWs_i 540 (by decide +kernel) (by decide +kernel)⟩
theorem mw_X8_give : MWv yX8_give cX8_give 5 (some .int) RX8 3 := ⟨by decide +kernel, gWs_i 542 (by decide +kernel) (by decide +kernel), gWs_i 543 (by decide +kernel) (by decide +kernel), gWs_i 63 (by decide +kernel) (by decide +kernel), gWs_i 544 (by decide +kernel) (by decide +kernel)⟩
theorem mw_X8_offer : MWv yX8_offer cX8_offer 3 (some .int) RX8 2 := ⟨by decide +kernel, gWs_i 611 (by decide +kernel) (by decide +kernel), gWs_i 612 (by decide +kernel) (by decide +kernel), gWs_i 63 (by decide +kernel) (by decide +kernel), gWs_i 613 (by decide +kernel) (by decide +kernel)⟩
theorem mw_X8_back : MWv yX8_back cX8_back 3 (some .int) RX8 1 := ⟨by decide +kernel, gWs_i 629 (by decide +kernel) (by decide +kernel), gWs_i 630 (by decide +kernel) (by decide +kernel), gWs_i 63 (by decide +kernel) (by decide +kernel), gWs_i 631 (by decide +kernel) (by decide +kernel)⟩
theorem mw_X8_undo : MWv yX8_undo cX8_undo 1 (some .int) RX8 0 := ⟨by decide +kernel, gWs_i 633 (by decide +kernel) (by decide +kernel), gWs_i 634 (by decide +kernel) (by decide +kernel), gWs_i 63 (by decide +kernel) (by decide +kernel), gWs_i 635 (by decide +kernel) (by decide +kernel)⟩
theorem mw_X8_coin : MWv yX8_coin cX8_coin 2 (some .int) RX8 1 := ⟨by decide +kernel, gWs_i 641 (by decide +kernel) (by decide +kernel), gWs_i 642 (by decide +kernel) (by decide +kernel), gWs_i 63 (by decide +kernel) (by decide +kernel), gWs_i 643 (by decide +kernel) (by decide +kernel)⟩
theorem mw_X8_thing : MWv yX8_thing cX8_thing 3 (some .int) RX8 2 := ⟨by decide +kernel, gWs_i 649 (by decide +kernel) (by decide +kernel), gWs_i 650 (by decide +kernel) (by decide +kernel), gWs_i 63 (by decide +kernel) (by decide +kernel), gWs_i 651 (by decide +kernel) (by decide +kernel)⟩
theorem mw_X8_worth : MWv yX8_worth cX8_worth 4 (some .int) RX8 3 := ⟨by decide +kernel, gWs_i 656 (by decide +kernel) (by decide +kernel), gWs_i 657 (by decide +kernel) (by decide +kernel), gWs_i 63 (by decide +kernel) (by decide +kernel), gWs_i 658 (by decide +kernel) (by decide +kernel)⟩
theorem mw_X8_gain : MWv yX8_gain cX8_gain 6 (some .int) RX8 4 := ⟨by decide +kernel, gWs_i 662 (by decide +kernel) (by decide +kernel), gWs_i 663 (by decide +kernel) (by decide +kernel), gWs_i 63 (by decide +kernel) (by decide +kernel), gWs_i 664 (by decide +kernel) (by decide +kernel)⟩
theorem mw_X8_best : MWv yX8_best cX8_best 5 (some .int) RX8 3 := ⟨by decide +kernel, gWs_i 683 (by decide +kernel) (by decide +kernel), gWs_i 684 (by decide +kernel) (by decide +kernel), gWs_i 63 (by decide +kernel) (by decide +kernel), gWs_i 685 (by decide +kernel) (by decide +kernel)⟩
theorem mw_X8_rests : MWv yX8_rests cX8_rests 3 (some .int) RX8 2 := ⟨by decide +kernel, gWs_i 692 (by decide +kernel) (by decide +kernel), gWs_i 693 (by decide +kernel) (by decide +kernel), gWs_i 63 (by decide +kernel) (by decide +kernel), gWs_i 694 (by decide +kernel) (by decide +kernel)⟩
theorem mw_X8_rounds : MWv yX8_rounds cX8_rounds 6 (some .int) RX8 3 := ⟨by decide +kernel, gWs_i 712 (by decide +kernel) (by decide +kernel), gWs_i 713 (by decide +kernel) (by decide +kernel), gWs_i 63 (by decide +kernel) (by decide +kernel), gWs_i 714 (by decide +kernel) (by decide +kernel)⟩
theorem mw_X8_least : MWv yX8_least cX8_least 3 (some .int) RX8 2 := ⟨by decide +kernel, gWs_i 721 (by decide +kernel) (by decide +kernel), gWs_i 722 (by decide +kernel) (by decide +kernel), gWs_i 63 (by decide +kernel) (by decide +kernel), gWs_i 723 (by decide +kernel) (by decide +kernel)⟩
theorem mw_X8_lost : MWv yX8_lost cX8_lost 9 (some .int) RX8 3 := ⟨by decide +kernel, gWs_i 733 (by decide +kernel) (by decide +kernel), gWs_i 734 (by decide +kernel) (by decide +kernel), gWs_i 63 (by decide +kernel) (by decide +kernel), gWs_i 735 (by decide +kernel) (by decide +kernel)⟩
theorem mw_X8_honest : MWv yX8_honest cX8_honest 5 (some .int) RX8 2 := ⟨by decide +kernel, gWs_i 737 (by decide +kernel) (by decide +kernel), gWs_i 738 (by decide +kernel) (by decide +kernel), gWs_i 63 (by decide +kernel) (by decide +kernel), gWs_i 739 (by decide +kernel) (by decide +kernel)⟩
theorem mw_X8_ore : MWv yX8_ore cX8_ore 6 (some .int) RX8 2 := ⟨by decide +kernel, gWs_i 742 (by decide +kernel) (by decide +kernel), gWs_i 743 (by decide +kernel) (by decide +kernel), gWs_i 63 (by decide +kernel) (by decide +kernel), gWs_i 744 (by decide +kernel) (by decide +kernel)⟩
theorem mw_X8_image : MWv yX8_image cX8_image 2 (some .int) RX8 1 := ⟨by decide +kernel, gWs_i 746 (by decide +kernel) (by decide +kernel), gWs_i 747 (by decide +kernel) (by decide +kernel), gWs_i 63 (by decide +kernel) (by decide +kernel), gWs_i 748 (by decide +kernel) (by decide +kernel)⟩
theorem mw_X8_restore : MWv yX8_restore cX8_restore 2 (some .int) RX8 1 := ⟨by decide +kernel, gWs_i 755 (by decide +kernel) (by decide +kernel), gWs_i 756 (by decide +kernel) (by decide +kernel), gWs_i 63 (by decide +kernel) (by decide +kernel), gWs_i 757 (by decide +kernel) (by decide +kernel)⟩
theorem mw_X8_kind : MWv yX8_kind cX8_kind 2 (some .int) RX8 1 := ⟨by decide +kernel, gWs_i 759 (by decide +kernel) (by decide +kernel), gWs_i 760 (by decide +kernel) (by decide +kernel), gWs_i 63 (by decide +kernel) (by decide +kernel), gWs_i 761 (by decide +kernel) (by decide +kernel)⟩
theorem mw_X8_as : MWv yX8_as cX8_as 3 (some .int) RX8 2 := ⟨by decide +kernel, gWs_i 763 (by decide +kernel) (by decide +kernel), gWs_i 764 (by decide +kernel) (by decide +kernel), gWs_i 63 (by decide +kernel) (by decide +kernel), gWs_i 765 (by decide +kernel) (by decide +kernel)⟩
theorem mw_X8_ask : MWv yX8_ask cX8_ask 3 (some .int) RX8 2 := ⟨by decide +kernel, gWs_i 772 (by decide +kernel) (by decide +kernel), gWs_i 773 (by decide +kernel) (by decide +kernel), gWs_i 63 (by decide +kernel) (by decide +kernel), gWs_i 774 (by decide +kernel) (by decide +kernel)⟩
theorem mw_X8_trace : MWv yX8_trace cX8_trace 2 (some .int) RX8 1 := ⟨by decide +kernel, gWs_i 807 (by decide +kernel) (by decide +kernel), gWs_i 808 (by decide +kernel) (by decide +kernel), gWs_i 63 (by decide +kernel) (by decide +kernel), gWs_i 809 (by decide +kernel) (by decide +kernel)⟩
theorem mw_X8_count : MWv yX8_count cX8_count 2 (some .int) RX8 1 := ⟨by decide +kernel, gWs_i 811 (by decide +kernel) (by decide +kernel), gWs_i 812 (by decide +kernel) (by decide +kernel), gWs_i 63 (by decide +kernel) (by decide +kernel), gWs_i 813 (by decide +kernel) (by decide +kernel)⟩
theorem mw_X8_status : MWv yX8_status cX8_status 1 (some .int) RX8 0 := ⟨by decide +kernel, gWs_i 823 (by decide +kernel) (by decide +kernel), gWs_i 824 (by decide +kernel) (by decide +kernel), gWs_i 63 (by decide +kernel) (by decide +kernel), gWs_i 825 (by decide +kernel) (by decide +kernel)⟩
theorem mw_X8_isRow : MWv yX8_isRow cX8_isRow 2 (some .boolean) RX8 1 := ⟨by decide +kernel, gWs_i 360 (by decide +kernel) (by decide +kernel), gWs_i 0 (by decide +kernel) (by decide +kernel), gWs_i 63 (by decide +kernel) (by decide +kernel), gWs_i 361 (by decide +kernel) (by decide +kernel)⟩
theorem mw_X8_isThing : MWv yX8_isThing cX8_isThing 2 (some .boolean) RX8 1 := ⟨by decide +kernel, gWs_i 547 (by decide +kernel) (by decide +kernel), gWs_i 15 (by decide +kernel) (by decide +kernel), gWs_i 63 (by decide +kernel) (by decide +kernel), gWs_i 548 (by decide +kernel) (by decide +kernel)⟩
theorem mw_X8_isPerson : MWv yX8_isPerson cX8_isPerson 2 (some .boolean) RX8 1 := ⟨by decide +kernel, gWs_i 646 (by decide +kernel) (by decide +kernel), gWs_i 18 (by decide +kernel) (by decide +kernel), gWs_i 63 (by decide +kernel) (by decide +kernel), gWs_i 647 (by decide +kernel) (by decide +kernel)⟩
theorem mw_X8_isSeed : MWs yX8_isSeed cX8_isSeed 1 (some .boolean) 1 := ⟨by decide +kernel, gWs_i 550 (by decide +kernel) (by decide +kernel), gWs_i 63 (by decide +kernel) (by decide +kernel), gWs_i 551 (by decide +kernel) (by decide +kernel)⟩
theorem mw_X8_isEither : MWs yX8_isEither cX8_isEither 1 (some .boolean) 1 := ⟨by decide +kernel, gWs_i 653 (by decide +kernel) (by decide +kernel), gWs_i 63 (by decide +kernel) (by decide +kernel), gWs_i 654 (by decide +kernel) (by decide +kernel)⟩
theorem mw_X8_found : MWv yX8_found cX8_found 2 (some .int) RX8 1 := ⟨by decide +kernel, gWs_i 365 (by decide +kernel) (by decide +kernel), gWs_i 1 (by decide +kernel) (by decide +kernel), gWs_i 63 (by decide +kernel) (by decide +kernel), gWs_i 366 (by decide +kernel) (by decide +kernel)⟩
theorem mw_X8_fine : MWv yX8_fine cX8_fine 2 (some .int) RX8 1 := ⟨by decide +kernel, gWs_i 374 (by decide +kernel) (by decide +kernel), gWs_i 2 (by decide +kernel) (by decide +kernel), gWs_i 63 (by decide +kernel) (by decide +kernel), gWs_i 375 (by decide +kernel) (by decide +kernel)⟩
theorem mw_X8_countRows : MWv yX8_countRows cX8_countRows 6 (some .int) RX8 0 := ⟨by decide +kernel, gWs_i 816 (by decide +kernel) (by decide +kernel), gWs_i 24 (by decide +kernel) (by decide +kernel), gWs_i 63 (by decide +kernel) (by decide +kernel), gWs_i 817 (by decide +kernel) (by decide +kernel)⟩
theorem mw_X8_hear : MWv yX8_hear cX8_hear 4 (some .int) RX8 1 := ⟨by decide +kernel, gWs_i 557 (by decide +kernel) (by decide +kernel), gWs_i 16 (by decide +kernel) (by decide +kernel), gWs_i 63 (by decide +kernel) (by decide +kernel), gWs_i 558 (by decide +kernel) (by decide +kernel)⟩
theorem mw_X8_holdRound : MWv yX8_holdRound cX8_holdRound 8 (some .int) RX8 2 := ⟨by decide +kernel, gWs_i 566 (by decide +kernel) (by decide +kernel), gWs_i 17 (by decide +kernel) (by decide +kernel), gWs_i 63 (by decide +kernel) (by decide +kernel), gWs_i 567 (by decide +kernel) (by decide +kernel)⟩
theorem mw_X8_ofFraction : MWs yX8_ofFraction cX8_ofFraction 5 (some .int) 3 := ⟨by decide +kernel, gWs_i 680 (by decide +kernel) (by decide +kernel), gWs_i 63 (by decide +kernel) (by decide +kernel), gWs_i 681 (by decide +kernel) (by decide +kernel)⟩
theorem mw_X9_in : MWs yX9_in cX9_in 6 (some .boolean) 3 := ⟨by decide +kernel, gWs_i 915 (by decide +kernel) (by decide +kernel), gWs_i 72 (by decide +kernel) (by decide +kernel), gWs_i 916 (by decide +kernel) (by decide +kernel)⟩
theorem mw_X9_finding : MWv yX9_finding cX9_finding 2 (some .int) RX9 1 := ⟨by decide +kernel, gWs_i 921 (by decide +kernel) (by decide +kernel), gWs_i 25 (by decide +kernel) (by decide +kernel), gWs_i 72 (by decide +kernel) (by decide +kernel), gWs_i 922 (by decide +kernel) (by decide +kernel)⟩
theorem mw_X9_isRow : MWs yX9_isRow cX9_isRow 1 (some .boolean) 1 := ⟨by decide +kernel, gWs_i 911 (by decide +kernel) (by decide +kernel), gWs_i 72 (by decide +kernel) (by decide +kernel), gWs_i 912 (by decide +kernel) (by decide +kernel)⟩
theorem mw_X9_row : MWv yX9_row cX9_row 5 (some .int) RX9 3 := ⟨by decide +kernel, gWs_i 907 (by decide +kernel) (by decide +kernel), gWs_i 908 (by decide +kernel) (by decide +kernel), gWs_i 72 (by decide +kernel) (by decide +kernel), gWs_i 909 (by decide +kernel) (by decide +kernel)⟩
theorem mw_X9_set : MWv yX9_set cX9_set 4 (some .int) RX9 3 := ⟨by decide +kernel, gWs_i 925 (by decide +kernel) (by decide +kernel), gWs_i 926 (by decide +kernel) (by decide +kernel), gWs_i 72 (by decide +kernel) (by decide +kernel), gWs_i 927 (by decide +kernel) (by decide +kernel)⟩
theorem mw_X9_copy : MWv yX9_copy cX9_copy 9 (some .int) RX9 5 := ⟨by decide +kernel, gWs_i 929 (by decide +kernel) (by decide +kernel), gWs_i 930 (by decide +kernel) (by decide +kernel), gWs_i 72 (by decide +kernel) (by decide +kernel), gWs_i 931 (by decide +kernel) (by decide +kernel)⟩
theorem mw_X9_drop : MWv yX9_drop cX9_drop 2 (some .int) RX9 1 := ⟨by decide +kernel, gWs_i 933 (by decide +kernel) (by decide +kernel), gWs_i 934 (by decide +kernel) (by decide +kernel), gWs_i 72 (by decide +kernel) (by decide +kernel), gWs_i 935 (by decide +kernel) (by decide +kernel)⟩
theorem mw_X9_feed : MWv yX9_feed cX9_feed 5 (some .int) RX9 2 := ⟨by decide +kernel, gWs_i 937 (by decide +kernel) (by decide +kernel), gWs_i 938 (by decide +kernel) (by decide +kernel), gWs_i 72 (by decide +kernel) (by decide +kernel), gWs_i 939 (by decide +kernel) (by decide +kernel)⟩
theorem mw_X9_byteAt : MWv yX9_byteAt cX9_byteAt 2 (some .int) RX9 1 := ⟨by decide +kernel, gWs_i 957 (by decide +kernel) (by decide +kernel), gWs_i 28 (by decide +kernel) (by decide +kernel), gWs_i 72 (by decide +kernel) (by decide +kernel), gWs_i 958 (by decide +kernel) (by decide +kernel)⟩
theorem mw_X9_isLetter : MWs yX9_isLetter cX9_isLetter 1 (some .boolean) 1 := ⟨by decide +kernel, gWs_i 961 (by decide +kernel) (by decide +kernel), gWs_i 72 (by decide +kernel) (by decide +kernel), gWs_i 962 (by decide +kernel) (by decide +kernel)⟩
theorem mw_X9_isFigure : MWs yX9_isFigure cX9_isFigure 1 (some .boolean) 1 := ⟨by decide +kernel, gWs_i 964 (by decide +kernel) (by decide +kernel), gWs_i 72 (by decide +kernel) (by decide +kernel), gWs_i 965 (by decide +kernel) (by decide +kernel)⟩
theorem mw_X9_next : MWv yX9_next cX9_next 2 none RX9 0 := ⟨by decide +kernel, gWs_i 953 (by decide +kernel) (by decide +kernel), gWs_i 27 (by decide +kernel) (by decide +kernel), gWs_i 72 (by decide +kernel) (by decide +kernel), gWs_i 954 (by decide +kernel) (by decide +kernel)⟩
theorem mw_X9_begin : MWv yX9_begin cX9_begin 1 none RX9 0 := ⟨by decide +kernel, gWs_i 949 (by decide +kernel) (by decide +kernel), gWs_i 26 (by decide +kernel) (by decide +kernel), gWs_i 72 (by decide +kernel) (by decide +kernel), gWs_i 950 (by decide +kernel) (by decide +kernel)⟩
theorem mw_X9_bad : MWv yX9_bad cX9_bad 2 none RX9 1 := ⟨by decide +kernel, gWs_i 977 (by decide +kernel) (by decide +kernel), gWs_i 31 (by decide +kernel) (by decide +kernel), gWs_i 72 (by decide +kernel) (by decide +kernel), gWs_i 978 (by decide +kernel) (by decide +kernel)⟩
theorem mw_X9_must : MWv yX9_must cX9_must 2 none RX9 1 := ⟨by decide +kernel, gWs_i 973 (by decide +kernel) (by decide +kernel), gWs_i 30 (by decide +kernel) (by decide +kernel), gWs_i 72 (by decide +kernel) (by decide +kernel), gWs_i 974 (by decide +kernel) (by decide +kernel)⟩
theorem mw_X9_name : MWv yX9_name cX9_name 4 (some .long) RX9 0 := ⟨by decide +kernel, gWs_i 968 (by decide +kernel) (by decide +kernel), gWs_i 29 (by decide +kernel) (by decide +kernel), gWs_i 72 (by decide +kernel) (by decide +kernel), gWs_i 969 (by decide +kernel) (by decide +kernel)⟩
theorem mw_X9_figures : MWv yX9_figures cX9_figures 3 (some .int) RX9 0 := ⟨by decide +kernel, gWs_i 985 (by decide +kernel) (by decide +kernel), gWs_i 33 (by decide +kernel) (by decide +kernel), gWs_i 72 (by decide +kernel) (by decide +kernel), gWs_i 986 (by decide +kernel) (by decide +kernel)⟩
theorem mw_X9_number : MWv yX9_number cX9_number 4 (some .int) RX9 2 := ⟨by decide +kernel, gWs_i 981 (by decide +kernel) (by decide +kernel), gWs_i 32 (by decide +kernel) (by decide +kernel), gWs_i 72 (by decide +kernel) (by decide +kernel), gWs_i 982 (by decide +kernel) (by decide +kernel)⟩
theorem mw_X9_kindBy : MWs yX9_kindBy cX9_kindBy 2 (some .int) 1 := ⟨by decide +kernel, gWs_i 1001 (by decide +kernel) (by decide +kernel), gWs_i 72 (by decide +kernel) (by decide +kernel), gWs_i 1002 (by decide +kernel) (by decide +kernel)⟩
theorem mw_X9_mustEnd : MWv yX9_mustEnd cX9_mustEnd 1 none RX9 0 := ⟨by decide +kernel, gWs_i 989 (by decide +kernel) (by decide +kernel), gWs_i 34 (by decide +kernel) (by decide +kernel), gWs_i 72 (by decide +kernel) (by decide +kernel), gWs_i 990 (by decide +kernel) (by decide +kernel)⟩
theorem mw_X9_begins : MWv yX9_begins cX9_begins 3 none RX9 2 := ⟨by decide +kernel, gWs_i 998 (by decide +kernel) (by decide +kernel), gWs_i 36 (by decide +kernel) (by decide +kernel), gWs_i 72 (by decide +kernel) (by decide +kernel), gWs_i 999 (by decide +kernel) (by decide +kernel)⟩
theorem mw_X9_readPerson : MWv yX9_readPerson cX9_readPerson 2 none RX9 0 := ⟨by decide +kernel, gWs_i 994 (by decide +kernel) (by decide +kernel), gWs_i 35 (by decide +kernel) (by decide +kernel), gWs_i 72 (by decide +kernel) (by decide +kernel), gWs_i 995 (by decide +kernel) (by decide +kernel)⟩
theorem mw_X9_readThing : MWv yX9_readThing cX9_readThing 4 none RX9 0 := ⟨by decide +kernel, gWs_i 1011 (by decide +kernel) (by decide +kernel), gWs_i 37 (by decide +kernel) (by decide +kernel), gWs_i 72 (by decide +kernel) (by decide +kernel), gWs_i 1012 (by decide +kernel) (by decide +kernel)⟩
theorem mw_X9_town : MWv yX9_town cX9_town 2 (some .int) RX9 0 := ⟨by decide +kernel, gWs_i 944 (by decide +kernel) (by decide +kernel), gWs_i 945 (by decide +kernel) (by decide +kernel), gWs_i 72 (by decide +kernel) (by decide +kernel), gWs_i 946 (by decide +kernel) (by decide +kernel)⟩
theorem mw_X9_fault : MWv yX9_fault cX9_fault 1 (some .int) RX9 0 := ⟨by decide +kernel, gWs_i 1015 (by decide +kernel) (by decide +kernel), gWs_i 1016 (by decide +kernel) (by decide +kernel), gWs_i 72 (by decide +kernel) (by decide +kernel), gWs_i 1017 (by decide +kernel) (by decide +kernel)⟩
theorem mw_X9_isThere : MWv yX9_isThere cX9_isThere 1 (some .boolean) RX9 0 := ⟨by decide +kernel, gWs_i 1164 (by decide +kernel) (by decide +kernel), gWs_i 55 (by decide +kernel) (by decide +kernel), gWs_i 72 (by decide +kernel) (by decide +kernel), gWs_i 1165 (by decide +kernel) (by decide +kernel)⟩
theorem mw_X9_isPerson : MWv yX9_isPerson cX9_isPerson 2 (some .boolean) RX9 1 := ⟨by decide +kernel, gWs_i 1092 (by decide +kernel) (by decide +kernel), gWs_i 49 (by decide +kernel) (by decide +kernel), gWs_i 72 (by decide +kernel) (by decide +kernel), gWs_i 1093 (by decide +kernel) (by decide +kernel)⟩
theorem mw_X9_isThing : MWv yX9_isThing cX9_isThing 2 (some .boolean) RX9 1 := ⟨by decide +kernel, gWs_i 1024 (by decide +kernel) (by decide +kernel), gWs_i 38 (by decide +kernel) (by decide +kernel), gWs_i 72 (by decide +kernel) (by decide +kernel), gWs_i 1025 (by decide +kernel) (by decide +kernel)⟩
theorem mw_X9_isSeed : MWs yX9_isSeed cX9_isSeed 1 (some .boolean) 1 := ⟨by decide +kernel, gWs_i 1027 (by decide +kernel) (by decide +kernel), gWs_i 72 (by decide +kernel) (by decide +kernel), gWs_i 1028 (by decide +kernel) (by decide +kernel)⟩
theorem mw_X9_of : MWv yX9_of cX9_of 3 (some .int) RX9 2 := ⟨by decide +kernel, gWs_i 1032 (by decide +kernel) (by decide +kernel), gWs_i 39 (by decide +kernel) (by decide +kernel), gWs_i 72 (by decide +kernel) (by decide +kernel), gWs_i 1033 (by decide +kernel) (by decide +kernel)⟩
theorem mw_X9_worthOf : MWv yX9_worthOf cX9_worthOf 3 (some .int) RX9 2 := ⟨by decide +kernel, gWs_i 1076 (by decide +kernel) (by decide +kernel), gWs_i 48 (by decide +kernel) (by decide +kernel), gWs_i 72 (by decide +kernel) (by decide +kernel), gWs_i 1077 (by decide +kernel) (by decide +kernel)⟩
theorem mw_X9_ownOf : MWv yX9_ownOf cX9_ownOf 4 (some .int) RX9 2 := ⟨by decide +kernel, gWs_i 1072 (by decide +kernel) (by decide +kernel), gWs_i 47 (by decide +kernel) (by decide +kernel), gWs_i 72 (by decide +kernel) (by decide +kernel), gWs_i 1073 (by decide +kernel) (by decide +kernel)⟩
theorem mw_X9_layOwn : MWv yX9_layOwn cX9_layOwn 3 none RX9 1 := ⟨by decide +kernel, gWs_i 1068 (by decide +kernel) (by decide +kernel), gWs_i 46 (by decide +kernel) (by decide +kernel), gWs_i 72 (by decide +kernel) (by decide +kernel), gWs_i 1069 (by decide +kernel) (by decide +kernel)⟩
theorem mw_X9_barred : MWv yX9_barred cX9_barred 3 (some .int) RX9 1 := ⟨by decide +kernel, gWs_i 1037 (by decide +kernel) (by decide +kernel), gWs_i 40 (by decide +kernel) (by decide +kernel), gWs_i 72 (by decide +kernel) (by decide +kernel), gWs_i 1038 (by decide +kernel) (by decide +kernel)⟩
theorem mw_X9_leastBut : MWv yX9_leastBut cX9_leastBut 4 (some .int) RX9 1 := ⟨by decide +kernel, gWs_i 1056 (by decide +kernel) (by decide +kernel), gWs_i 44 (by decide +kernel) (by decide +kernel), gWs_i 72 (by decide +kernel) (by decide +kernel), gWs_i 1057 (by decide +kernel) (by decide +kernel)⟩
theorem mw_X9_likeOnes : MWv yX9_likeOnes cX9_likeOnes 4 (some .int) RX9 0 := ⟨by decide +kernel, gWs_i 1052 (by decide +kernel) (by decide +kernel), gWs_i 43 (by decide +kernel) (by decide +kernel), gWs_i 72 (by decide +kernel) (by decide +kernel), gWs_i 1053 (by decide +kernel) (by decide +kernel)⟩
theorem mw_X9_coinBy : MWv yX9_coinBy cX9_coinBy 5 (some .int) RX9 3 := ⟨by decide +kernel, gWs_i 1060 (by decide +kernel) (by decide +kernel), gWs_i 45 (by decide +kernel) (by decide +kernel), gWs_i 72 (by decide +kernel) (by decide +kernel), gWs_i 1061 (by decide +kernel) (by decide +kernel)⟩
theorem mw_X9_gainBy : MWv yX9_gainBy cX9_gainBy 7 (some .int) RX9 3 := ⟨by decide +kernel, gWs_i 1108 (by decide +kernel) (by decide +kernel), gWs_i 50 (by decide +kernel) (by decide +kernel), gWs_i 72 (by decide +kernel) (by decide +kernel), gWs_i 1109 (by decide +kernel) (by decide +kernel)⟩
theorem mw_X9_bestBy : MWv yX9_bestBy cX9_bestBy 9 (some .int) RX9 3 := ⟨by decide +kernel, gWs_i 1119 (by decide +kernel) (by decide +kernel), gWs_i 51 (by decide +kernel) (by decide +kernel), gWs_i 72 (by decide +kernel) (by decide +kernel), gWs_i 1120 (by decide +kernel) (by decide +kernel)⟩
theorem mw_X9_isRest : MWv yX9_isRest cX9_isRest 7 (some .boolean) RX9 2 := ⟨by decide +kernel, gWs_i 1132 (by decide +kernel) (by decide +kernel), gWs_i 53 (by decide +kernel) (by decide +kernel), gWs_i 72 (by decide +kernel) (by decide +kernel), gWs_i 1133 (by decide +kernel) (by decide +kernel)⟩
theorem mw_X9_keep : MWv yX9_keep cX9_keep 2 none RX9 0 := ⟨by decide +kernel, gWs_i 1046 (by decide +kernel) (by decide +kernel), gWs_i 42 (by decide +kernel) (by decide +kernel), gWs_i 72 (by decide +kernel) (by decide +kernel), gWs_i 1047 (by decide +kernel) (by decide +kernel)⟩
theorem mw_X9_goRound : MWv yX9_goRound cX9_goRound 7 (some .int) RX9 2 := ⟨by decide +kernel, gWs_i 1042 (by decide +kernel) (by decide +kernel), gWs_i 41 (by decide +kernel) (by decide +kernel), gWs_i 72 (by decide +kernel) (by decide +kernel), gWs_i 1043 (by decide +kernel) (by decide +kernel)⟩
theorem mw_X9_give : MWv yX9_give cX9_give 5 (some .int) RX9 3 := ⟨by decide +kernel, gWs_i 1019 (by decide +kernel) (by decide +kernel), gWs_i 1020 (by decide +kernel) (by decide +kernel), gWs_i 72 (by decide +kernel) (by decide +kernel), gWs_i 1021 (by decide +kernel) (by decide +kernel)⟩
theorem mw_X9_offer : MWv yX9_offer cX9_offer 3 (some .int) RX9 2 := ⟨by decide +kernel, gWs_i 1063 (by decide +kernel) (by decide +kernel), gWs_i 1064 (by decide +kernel) (by decide +kernel), gWs_i 72 (by decide +kernel) (by decide +kernel), gWs_i 1065 (by decide +kernel) (by decide +kernel)⟩
theorem mw_X9_back : MWv yX9_back cX9_back 3 (some .int) RX9 1 := ⟨by decide +kernel, gWs_i 1079 (by decide +kernel) (by decide +kernel), gWs_i 1080 (by decide +kernel) (by decide +kernel), gWs_i 72 (by decide +kernel) (by decide +kernel), gWs_i 1081 (by decide +kernel) (by decide +kernel)⟩
theorem mw_X9_undo : MWv yX9_undo cX9_undo 2 (some .int) RX9 0 := ⟨by decide +kernel, gWs_i 1083 (by decide +kernel) (by decide +kernel), gWs_i 1084 (by decide +kernel) (by decide +kernel), gWs_i 72 (by decide +kernel) (by decide +kernel), gWs_i 1085 (by decide +kernel) (by decide +kernel)⟩
theorem mw_X9_coin : MWv yX9_coin cX9_coin 2 (some .int) RX9 1 := ⟨by decide +kernel, gWs_i 1087 (by decide +kernel) (by decide +kernel), gWs_i 1088 (by decide +kernel) (by decide +kernel), gWs_i 72 (by decide +kernel) (by decide +kernel), gWs_i 1089 (by decide +kernel) (by decide +kernel)⟩
theorem mw_X9_thing : MWv yX9_thing cX9_thing 3 (some .int) RX9 2 := ⟨by decide +kernel, gWs_i 1095 (by decide +kernel) (by decide +kernel), gWs_i 1096 (by decide +kernel) (by decide +kernel), gWs_i 72 (by decide +kernel) (by decide +kernel), gWs_i 1097 (by decide +kernel) (by decide +kernel)⟩
theorem mw_X9_worth : MWv yX9_worth cX9_worth 4 (some .int) RX9 3 := ⟨by decide +kernel, gWs_i 1099 (by decide +kernel) (by decide +kernel), gWs_i 1100 (by decide +kernel) (by decide +kernel), gWs_i 72 (by decide +kernel) (by decide +kernel), gWs_i 1101 (by decide +kernel) (by decide +kernel)⟩
theorem mw_X9_told : MWs yX9_told cX9_told 5 (some .int) 2 := ⟨by decide +kernel, gWs_i 1111 (by decide +kernel) (by decide +kernel), gWs_i 72 (by decide +kernel) (by decide +kernel), gWs_i 1112 (by decide +kernel) (by decide +kernel)⟩
theorem mw_X9_gain : MWv yX9_gain cX9_gain 6 (some .int) RX9 4 := ⟨by decide +kernel, gWs_i 1103 (by decide +kernel) (by decide +kernel), gWs_i 1104 (by decide +kernel) (by decide +kernel), gWs_i 72 (by decide +kernel) (by decide +kernel), gWs_i 1105 (by decide +kernel) (by decide +kernel)⟩
theorem mw_X9_best : MWv yX9_best cX9_best 5 (some .int) RX9 3 := ⟨by decide +kernel, gWs_i 1114 (by decide +kernel) (by decide +kernel), gWs_i 1115 (by decide +kernel) (by decide +kernel), gWs_i 72 (by decide +kernel) (by decide +kernel), gWs_i 1116 (by decide +kernel) (by decide +kernel)⟩
theorem mw_X9_layRow : MWv yX9_layRow cX9_layRow 4 none RX9 1 := ⟨by decide +kernel, gWs_i 1128 (by decide +kernel) (by decide +kernel), gWs_i 52 (by decide +kernel) (by decide +kernel), gWs_i 72 (by decide +kernel) (by decide +kernel), gWs_i 1129 (by decide +kernel) (by decide +kernel)⟩
theorem mw_X9_rests : MWv yX9_rests cX9_rests 7 (some .int) RX9 2 := ⟨by decide +kernel, gWs_i 1122 (by decide +kernel) (by decide +kernel), gWs_i 1123 (by decide +kernel) (by decide +kernel), gWs_i 72 (by decide +kernel) (by decide +kernel), gWs_i 1124 (by decide +kernel) (by decide +kernel)⟩
theorem mw_X9_rounds : MWv yX9_rounds cX9_rounds 10 (some .int) RX9 3 := ⟨by decide +kernel, gWs_i 1135 (by decide +kernel) (by decide +kernel), gWs_i 1136 (by decide +kernel) (by decide +kernel), gWs_i 72 (by decide +kernel) (by decide +kernel), gWs_i 1137 (by decide +kernel) (by decide +kernel)⟩
theorem mw_X9_extreme : MWv yX9_extreme cX9_extreme 5 (some .int) RX9 2 := ⟨by decide +kernel, gWs_i 1144 (by decide +kernel) (by decide +kernel), gWs_i 54 (by decide +kernel) (by decide +kernel), gWs_i 72 (by decide +kernel) (by decide +kernel), gWs_i 1145 (by decide +kernel) (by decide +kernel)⟩
theorem mw_X9_least : MWv yX9_least cX9_least 3 (some .int) RX9 2 := ⟨by decide +kernel, gWs_i 1139 (by decide +kernel) (by decide +kernel), gWs_i 1140 (by decide +kernel) (by decide +kernel), gWs_i 72 (by decide +kernel) (by decide +kernel), gWs_i 1141 (by decide +kernel) (by decide +kernel)⟩
theorem mw_X9_lost : MWv yX9_lost cX9_lost 8 (some .int) RX9 3 := ⟨by decide +kernel, gWs_i 1147 (by decide +kernel) (by decide +kernel), gWs_i 1148 (by decide +kernel) (by decide +kernel), gWs_i 72 (by decide +kernel) (by decide +kernel), gWs_i 1149 (by decide +kernel) (by decide +kernel)⟩
theorem mw_X9_honest : MWv yX9_honest cX9_honest 5 (some .int) RX9 2 := ⟨by decide +kernel, gWs_i 1151 (by decide +kernel) (by decide +kernel), gWs_i 1152 (by decide +kernel) (by decide +kernel), gWs_i 72 (by decide +kernel) (by decide +kernel), gWs_i 1153 (by decide +kernel) (by decide +kernel)⟩
theorem mw_X9_ore : MWv yX9_ore cX9_ore 6 (some .int) RX9 2 := ⟨by decide +kernel, gWs_i 1155 (by decide +kernel) (by decide +kernel), gWs_i 1156 (by decide +kernel) (by decide +kernel), gWs_i 72 (by decide +kernel) (by decide +kernel), gWs_i 1157 (by decide +kernel) (by decide +kernel)⟩
theorem mw_X9_image : MWv yX9_image cX9_image 3 (some .int) RX9 1 := ⟨by decide +kernel, gWs_i 1159 (by decide +kernel) (by decide +kernel), gWs_i 1160 (by decide +kernel) (by decide +kernel), gWs_i 72 (by decide +kernel) (by decide +kernel), gWs_i 1161 (by decide +kernel) (by decide +kernel)⟩
theorem mw_X9_restore : MWv yX9_restore cX9_restore 3 (some .int) RX9 1 := ⟨by decide +kernel, gWs_i 1167 (by decide +kernel) (by decide +kernel), gWs_i 1168 (by decide +kernel) (by decide +kernel), gWs_i 72 (by decide +kernel) (by decide +kernel), gWs_i 1169 (by decide +kernel) (by decide +kernel)⟩
theorem mw_X9_isOf : MWs yX9_isOf cX9_isOf 2 (some .boolean) 2 := ⟨by decide +kernel, gWs_i 1179 (by decide +kernel) (by decide +kernel), gWs_i 72 (by decide +kernel) (by decide +kernel), gWs_i 1180 (by decide +kernel) (by decide +kernel)⟩
theorem mw_X9_kind : MWv yX9_kind cX9_kind 2 (some .int) RX9 1 := ⟨by decide +kernel, gWs_i 1171 (by decide +kernel) (by decide +kernel), gWs_i 1172 (by decide +kernel) (by decide +kernel), gWs_i 72 (by decide +kernel) (by decide +kernel), gWs_i 1173 (by decide +kernel) (by decide +kernel)⟩
theorem mw_X9_as : MWv yX9_as cX9_as 3 (some .int) RX9 2 := ⟨by decide +kernel, gWs_i 1175 (by decide +kernel) (by decide +kernel), gWs_i 1176 (by decide +kernel) (by decide +kernel), gWs_i 72 (by decide +kernel) (by decide +kernel), gWs_i 1177 (by decide +kernel) (by decide +kernel)⟩
theorem mw_X9_began : MWv yX9_began cX9_began 2 none RX9 1 := ⟨by decide +kernel, gWs_i 1195 (by decide +kernel) (by decide +kernel), gWs_i 58 (by decide +kernel) (by decide +kernel), gWs_i 72 (by decide +kernel) (by decide +kernel), gWs_i 1196 (by decide +kernel) (by decide +kernel)⟩
theorem mw_X9_plainSize : MWv yX9_plainSize cX9_plainSize 2 (some .int) RX9 1 := ⟨by decide +kernel, gWs_i 1199 (by decide +kernel) (by decide +kernel), gWs_i 59 (by decide +kernel) (by decide +kernel), gWs_i 72 (by decide +kernel) (by decide +kernel), gWs_i 1200 (by decide +kernel) (by decide +kernel)⟩
theorem mw_X9_richSize : MWv yX9_richSize cX9_richSize 3 (some .int) RX9 1 := ⟨by decide +kernel, gWs_i 1191 (by decide +kernel) (by decide +kernel), gWs_i 57 (by decide +kernel) (by decide +kernel), gWs_i 72 (by decide +kernel) (by decide +kernel), gWs_i 1192 (by decide +kernel) (by decide +kernel)⟩
theorem mw_X9_thingsOf : MWv yX9_thingsOf cX9_thingsOf 4 (some .int) RX9 1 := ⟨by decide +kernel, gWs_i 1207 (by decide +kernel) (by decide +kernel), gWs_i 61 (by decide +kernel) (by decide +kernel), gWs_i 72 (by decide +kernel) (by decide +kernel), gWs_i 1208 (by decide +kernel) (by decide +kernel)⟩
theorem mw_X9_markOf : MWv yX9_markOf cX9_markOf 4 (some .int) RX9 1 := ⟨by decide +kernel, gWs_i 1203 (by decide +kernel) (by decide +kernel), gWs_i 60 (by decide +kernel) (by decide +kernel), gWs_i 72 (by decide +kernel) (by decide +kernel), gWs_i 1204 (by decide +kernel) (by decide +kernel)⟩
theorem mw_X9_sizeOf : MWv yX9_sizeOf cX9_sizeOf 4 (some .int) RX9 1 := ⟨by decide +kernel, gWs_i 1187 (by decide +kernel) (by decide +kernel), gWs_i 56 (by decide +kernel) (by decide +kernel), gWs_i 72 (by decide +kernel) (by decide +kernel), gWs_i 1188 (by decide +kernel) (by decide +kernel)⟩
theorem mw_X9_ask : MWv yX9_ask cX9_ask 3 (some .int) RX9 2 := ⟨by decide +kernel, gWs_i 1182 (by decide +kernel) (by decide +kernel), gWs_i 1183 (by decide +kernel) (by decide +kernel), gWs_i 72 (by decide +kernel) (by decide +kernel), gWs_i 1184 (by decide +kernel) (by decide +kernel)⟩
theorem mw_X9_trace : MWv yX9_trace cX9_trace 2 (some .int) RX9 1 := ⟨by decide +kernel, gWs_i 1210 (by decide +kernel) (by decide +kernel), gWs_i 1211 (by decide +kernel) (by decide +kernel), gWs_i 72 (by decide +kernel) (by decide +kernel), gWs_i 1212 (by decide +kernel) (by decide +kernel)⟩
theorem mw_X9_count : MWv yX9_count cX9_count 4 (some .int) RX9 1 := ⟨by decide +kernel, gWs_i 1214 (by decide +kernel) (by decide +kernel), gWs_i 1215 (by decide +kernel) (by decide +kernel), gWs_i 72 (by decide +kernel) (by decide +kernel), gWs_i 1216 (by decide +kernel) (by decide +kernel)⟩
theorem mw_X9_status : MWv yX9_status cX9_status 1 (some .int) RX9 0 := ⟨by decide +kernel, gWs_i 1218 (by decide +kernel) (by decide +kernel), gWs_i 1219 (by decide +kernel) (by decide +kernel), gWs_i 72 (by decide +kernel) (by decide +kernel), gWs_i 1220 (by decide +kernel) (by decide +kernel)⟩
theorem mw_J9_max_7cf53 : MWs yJ9_max_7cf53 cJ9_max_7cf53 2 (some .int) 2 := ⟨by decide +kernel, gWs_i 579 (by decide +kernel) (by decide +kernel), gWs_i 78 (by decide +kernel) (by decide +kernel), gWs_i 580 (by decide +kernel) (by decide +kernel)⟩
theorem mw_J9_min_7cf53 : MWs yJ9_min_7cf53 cJ9_min_7cf53 2 (some .int) 2 := ⟨by decide +kernel, gWs_i 590 (by decide +kernel) (by decide +kernel), gWs_i 78 (by decide +kernel) (by decide +kernel), gWs_i 591 (by decide +kernel) (by decide +kernel)⟩
theorem mw_J0_length_8abf5 : MWv yJ0_length_8abf5 cJ0_length_8abf5 1 (some .int) RJ0 0 := ⟨by decide +kernel, gWs_i 449 (by decide +kernel) (by decide +kernel), gWs_i 450 (by decide +kernel) (by decide +kernel), gWs_i 74 (by decide +kernel) (by decide +kernel), gWs_i 451 (by decide +kernel) (by decide +kernel)⟩
theorem mw_J0_charAt_5068e : MWv yJ0_charAt_5068e cJ0_charAt_5068e 2 (some .char) RJ0 1 := ⟨by decide +kernel, gWs_i 459 (by decide +kernel) (by decide +kernel), gWs_i 460 (by decide +kernel) (by decide +kernel), gWs_i 74 (by decide +kernel) (by decide +kernel), gWs_i 461 (by decide +kernel) (by decide +kernel)⟩
theorem mw_J0_coder_7d493 : MWv yJ0_coder_7d493 cJ0_coder_7d493 1 (some .byte) RJ0 0 := ⟨by decide +kernel, gWs_i 453 (by decide +kernel) (by decide +kernel), gWs_i 454 (by decide +kernel) (by decide +kernel), gWs_i 74 (by decide +kernel) (by decide +kernel), gWs_i 455 (by decide +kernel) (by decide +kernel)⟩
theorem mw_J0_isLatin1_aae02 : MWv yJ0_isLatin1_aae02 cJ0_isLatin1_aae02 1 (some .boolean) RJ0 0 := ⟨by decide +kernel, gWs_i 463 (by decide +kernel) (by decide +kernel), gWs_i 464 (by decide +kernel) (by decide +kernel), gWs_i 74 (by decide +kernel) (by decide +kernel), gWs_i 465 (by decide +kernel) (by decide +kernel)⟩
theorem mw_J0_checkIndex_df160 : MWs yJ0_checkIndex_df160 cJ0_checkIndex_df160 2 none 2 := ⟨by decide +kernel, gWs_i 470 (by decide +kernel) (by decide +kernel), gWs_i 74 (by decide +kernel) (by decide +kernel), gWs_i 471 (by decide +kernel) (by decide +kernel)⟩
theorem mw_J1_charAt_3b067 : MWs yJ1_charAt_3b067 cJ1_charAt_3b067 2 (some .char) 2 := ⟨by decide +kernel, gWs_i 467 (by decide +kernel) (by decide +kernel), gWs_i 75 (by decide +kernel) (by decide +kernel), gWs_i 468 (by decide +kernel) (by decide +kernel)⟩
theorem mw_J2_getChar_3b067 : MWs yJ2_getChar_3b067 cJ2_getChar_3b067 2 (some .char) 2 := ⟨by decide +kernel, gWs_i 488 (by decide +kernel) (by decide +kernel), gWs_i 77 (by decide +kernel) (by decide +kernel), gWs_i 489 (by decide +kernel) (by decide +kernel)⟩
theorem mw_J2_length_9d52b : MWs yJ2_length_9d52b cJ2_length_9d52b 1 (some .int) 1 := ⟨by decide +kernel, gWs_i 484 (by decide +kernel) (by decide +kernel), gWs_i 77 (by decide +kernel) (by decide +kernel), gWs_i 485 (by decide +kernel) (by decide +kernel)⟩
theorem mw_J2_charAt_3b067 : MWs yJ2_charAt_3b067 cJ2_charAt_3b067 2 (some .char) 2 := ⟨by decide +kernel, gWs_i 478 (by decide +kernel) (by decide +kernel), gWs_i 77 (by decide +kernel) (by decide +kernel), gWs_i 479 (by decide +kernel) (by decide +kernel)⟩
theorem mw_J2_checkIndex_2214a : MWs yJ2_checkIndex_2214a cJ2_checkIndex_2214a 2 none 2 := ⟨by decide +kernel, gWs_i 481 (by decide +kernel) (by decide +kernel), gWs_i 77 (by decide +kernel) (by decide +kernel), gWs_i 482 (by decide +kernel) (by decide +kernel)⟩
theorem mw_J3_checkIndex_8e157 : MWs yJ3_checkIndex_8e157 cJ3_checkIndex_8e157 3 (some .int) 3 := ⟨by decide +kernel, gWs_i 475 (by decide +kernel) (by decide +kernel), gWs_i 76 (by decide +kernel) (by decide +kernel), gWs_i 476 (by decide +kernel) (by decide +kernel)⟩
end
section
theorem dX0_init_0 : decode cX0_init 0 = .ok (.aload_n 0, 1) := by decide +kernel
theorem dX0_init_1 : decode cX0_init 1 = .ok (.invokespecial 1, 3) := by decide +kernel
theorem dX0_init_4 : decode cX0_init 4 = .ok (.aload_n 0, 1) := by decide +kernel
theorem dX0_init_5 : decode cX0_init 5 = .ok (.bipush 24, 2) := by decide +kernel
theorem dX0_init_7 : decode cX0_init 7 = .ok (.newarray .int, 2) := by decide +kernel
theorem dX0_init_9 : decode cX0_init 9 = .ok (.putfield 9, 3) := by decide +kernel
theorem dX0_init_12 : decode cX0_init 12 = .ok (.aload_n 0, 1) := by decide +kernel
theorem dX0_init_13 : decode cX0_init 13 = .ok (.bipush 24, 2) := by decide +kernel
theorem dX0_init_15 : decode cX0_init 15 = .ok (.newarray .int, 2) := by decide +kernel
theorem dX0_init_17 : decode cX0_init 17 = .ok (.putfield 13, 3) := by decide +kernel
theorem dX0_init_20 : decode cX0_init 20 = .ok (.aload_n 0, 1) := by decide +kernel
theorem dX0_init_21 : decode cX0_init 21 = .ok (.bipush 24, 2) := by decide +kernel
theorem dX0_init_23 : decode cX0_init 23 = .ok (.newarray .int, 2) := by decide +kernel
theorem dX0_init_25 : decode cX0_init 25 = .ok (.putfield 16, 3) := by decide +kernel
theorem dX0_init_28 : decode cX0_init 28 = .ok (.aload_n 0, 1) := by decide +kernel
theorem dX0_init_29 : decode cX0_init 29 = .ok (.bipush 96, 2) := by decide +kernel
theorem dX0_init_31 : decode cX0_init 31 = .ok (.newarray .int, 2) := by decide +kernel
theorem dX0_init_33 : decode cX0_init 33 = .ok (.putfield 21, 3) := by decide +kernel
theorem dX0_init_36 : decode cX0_init 36 = .ok (.return_, 1) := by decide +kernel
theorem dX0_keep_0 : decode cX0_keep 0 = .ok (.aload_n 0, 1) := by decide +kernel
theorem dX0_keep_1 : decode cX0_keep 1 = .ok (.aload_n 0, 1) := by decide +kernel
theorem dX0_keep_2 : decode cX0_keep 2 = .ok (.getfield 24, 3) := by decide +kernel
theorem dX0_keep_5 : decode cX0_keep 5 = .ok (.iconst 1, 1) := by decide +kernel
theorem dX0_keep_6 : decode cX0_keep 6 = .ok (.iadd, 1) := by decide +kernel
theorem dX0_keep_7 : decode cX0_keep 7 = .ok (.bipush 24, 2) := by decide +kernel
theorem dX0_keep_9 : decode cX0_keep 9 = .ok (.irem, 1) := by decide +kernel
theorem dX0_keep_10 : decode cX0_keep 10 = .ok (.putfield 24, 3) := by decide +kernel
theorem dX0_keep_13 : decode cX0_keep 13 = .ok (.aload_n 0, 1) := by decide +kernel
theorem dX0_keep_14 : decode cX0_keep 14 = .ok (.bipush 24, 2) := by decide +kernel
theorem dX0_keep_16 : decode cX0_keep 16 = .ok (.aload_n 0, 1) := by decide +kernel
theorem dX0_keep_17 : decode cX0_keep 17 = .ok (.getfield 28, 3) := by decide +kernel
theorem dX0_keep_20 : decode cX0_keep 20 = .ok (.iconst 1, 1) := by decide +kernel
theorem dX0_keep_21 : decode cX0_keep 21 = .ok (.iadd, 1) := by decide +kernel
theorem dX0_keep_22 : decode cX0_keep 22 = .ok (.invokestatic 31, 3) := by decide +kernel
theorem dX0_keep_25 : decode cX0_keep 25 = .ok (.putfield 28, 3) := by decide +kernel
theorem dX0_keep_28 : decode cX0_keep 28 = .ok (.aload_n 0, 1) := by decide +kernel
theorem dX0_keep_29 : decode cX0_keep 29 = .ok (.getfield 9, 3) := by decide +kernel
theorem dX0_keep_32 : decode cX0_keep 32 = .ok (.aload_n 0, 1) := by decide +kernel
theorem dX0_keep_33 : decode cX0_keep 33 = .ok (.getfield 24, 3) := by decide +kernel
theorem dX0_keep_36 : decode cX0_keep 36 = .ok (.iload_n 2, 1) := by decide +kernel
theorem dX0_keep_37 : decode cX0_keep 37 = .ok (.iastore, 1) := by decide +kernel
theorem dX0_keep_38 : decode cX0_keep 38 = .ok (.aload_n 0, 1) := by decide +kernel
theorem dX0_keep_39 : decode cX0_keep 39 = .ok (.getfield 13, 3) := by decide +kernel
theorem dX0_keep_42 : decode cX0_keep 42 = .ok (.aload_n 0, 1) := by decide +kernel
theorem dX0_keep_43 : decode cX0_keep 43 = .ok (.getfield 24, 3) := by decide +kernel
theorem dX0_keep_46 : decode cX0_keep 46 = .ok (.aload_n 1, 1) := by decide +kernel
theorem dX0_keep_47 : decode cX0_keep 47 = .ok (.getfield 37, 3) := by decide +kernel
theorem dX0_keep_50 : decode cX0_keep 50 = .ok (.iload_n 2, 1) := by decide +kernel
theorem dX0_keep_51 : decode cX0_keep 51 = .ok (.iaload, 1) := by decide +kernel
theorem dX0_keep_52 : decode cX0_keep 52 = .ok (.iastore, 1) := by decide +kernel
theorem dX0_keep_53 : decode cX0_keep 53 = .ok (.aload_n 0, 1) := by decide +kernel
theorem dX0_keep_54 : decode cX0_keep 54 = .ok (.getfield 16, 3) := by decide +kernel
theorem dX0_keep_57 : decode cX0_keep 57 = .ok (.aload_n 0, 1) := by decide +kernel
theorem dX0_keep_58 : decode cX0_keep 58 = .ok (.getfield 24, 3) := by decide +kernel
theorem dX0_keep_61 : decode cX0_keep 61 = .ok (.aload_n 1, 1) := by decide +kernel
theorem dX0_keep_62 : decode cX0_keep 62 = .ok (.getfield 38, 3) := by decide +kernel
theorem dX0_keep_65 : decode cX0_keep 65 = .ok (.iload_n 2, 1) := by decide +kernel
theorem dX0_keep_66 : decode cX0_keep 66 = .ok (.iaload, 1) := by decide +kernel
theorem dX0_keep_67 : decode cX0_keep 67 = .ok (.iastore, 1) := by decide +kernel
theorem dX0_keep_68 : decode cX0_keep 68 = .ok (.aload_n 1, 1) := by decide +kernel
theorem dX0_keep_69 : decode cX0_keep 69 = .ok (.getfield 39, 3) := by decide +kernel
theorem dX0_keep_72 : decode cX0_keep 72 = .ok (.iconst 0, 1) := by decide +kernel
theorem dX0_keep_73 : decode cX0_keep 73 = .ok (.aload_n 0, 1) := by decide +kernel
theorem dX0_keep_74 : decode cX0_keep 74 = .ok (.getfield 21, 3) := by decide +kernel
theorem dX0_keep_77 : decode cX0_keep 77 = .ok (.aload_n 0, 1) := by decide +kernel
theorem dX0_keep_78 : decode cX0_keep 78 = .ok (.getfield 24, 3) := by decide +kernel
theorem dX0_keep_81 : decode cX0_keep 81 = .ok (.iconst 4, 1) := by decide +kernel
theorem dX0_keep_82 : decode cX0_keep 82 = .ok (.imul, 1) := by decide +kernel
theorem dX0_keep_83 : decode cX0_keep 83 = .ok (.iconst 4, 1) := by decide +kernel
theorem dX0_keep_84 : decode cX0_keep 84 = .ok (.invokestatic 40, 3) := by decide +kernel
theorem dX0_keep_87 : decode cX0_keep 87 = .ok (.return_, 1) := by decide +kernel
theorem dX0_takeBack_0 : decode cX0_takeBack 0 = .ok (.aload_n 0, 1) := by decide +kernel
theorem dX0_takeBack_1 : decode cX0_takeBack 1 = .ok (.getfield 9, 3) := by decide +kernel
theorem dX0_takeBack_4 : decode cX0_takeBack 4 = .ok (.aload_n 0, 1) := by decide +kernel
theorem dX0_takeBack_5 : decode cX0_takeBack 5 = .ok (.getfield 24, 3) := by decide +kernel
theorem dX0_takeBack_8 : decode cX0_takeBack 8 = .ok (.iaload, 1) := by decide +kernel
theorem dX0_takeBack_9 : decode cX0_takeBack 9 = .ok (.istore_n 2, 1) := by decide +kernel
theorem dX0_takeBack_10 : decode cX0_takeBack 10 = .ok (.aload_n 1, 1) := by decide +kernel
theorem dX0_takeBack_11 : decode cX0_takeBack 11 = .ok (.getfield 37, 3) := by decide +kernel
theorem dX0_takeBack_14 : decode cX0_takeBack 14 = .ok (.iload_n 2, 1) := by decide +kernel
theorem dX0_takeBack_15 : decode cX0_takeBack 15 = .ok (.aload_n 0, 1) := by decide +kernel
theorem dX0_takeBack_16 : decode cX0_takeBack 16 = .ok (.getfield 13, 3) := by decide +kernel
theorem dX0_takeBack_19 : decode cX0_takeBack 19 = .ok (.aload_n 0, 1) := by decide +kernel
theorem dX0_takeBack_20 : decode cX0_takeBack 20 = .ok (.getfield 24, 3) := by decide +kernel
theorem dX0_takeBack_23 : decode cX0_takeBack 23 = .ok (.iaload, 1) := by decide +kernel
theorem dX0_takeBack_24 : decode cX0_takeBack 24 = .ok (.iastore, 1) := by decide +kernel
theorem dX0_takeBack_25 : decode cX0_takeBack 25 = .ok (.aload_n 1, 1) := by decide +kernel
theorem dX0_takeBack_26 : decode cX0_takeBack 26 = .ok (.getfield 38, 3) := by decide +kernel
theorem dX0_takeBack_29 : decode cX0_takeBack 29 = .ok (.iload_n 2, 1) := by decide +kernel
theorem dX0_takeBack_30 : decode cX0_takeBack 30 = .ok (.aload_n 0, 1) := by decide +kernel
theorem dX0_takeBack_31 : decode cX0_takeBack 31 = .ok (.getfield 16, 3) := by decide +kernel
theorem dX0_takeBack_34 : decode cX0_takeBack 34 = .ok (.aload_n 0, 1) := by decide +kernel
theorem dX0_takeBack_35 : decode cX0_takeBack 35 = .ok (.getfield 24, 3) := by decide +kernel
theorem dX0_takeBack_38 : decode cX0_takeBack 38 = .ok (.iaload, 1) := by decide +kernel
theorem dX0_takeBack_39 : decode cX0_takeBack 39 = .ok (.iastore, 1) := by decide +kernel
theorem dX0_takeBack_40 : decode cX0_takeBack 40 = .ok (.aload_n 0, 1) := by decide +kernel
theorem dX0_takeBack_41 : decode cX0_takeBack 41 = .ok (.getfield 21, 3) := by decide +kernel
theorem dX0_takeBack_44 : decode cX0_takeBack 44 = .ok (.aload_n 0, 1) := by decide +kernel
theorem dX0_takeBack_45 : decode cX0_takeBack 45 = .ok (.getfield 24, 3) := by decide +kernel
theorem dX0_takeBack_48 : decode cX0_takeBack 48 = .ok (.iconst 4, 1) := by decide +kernel
theorem dX0_takeBack_49 : decode cX0_takeBack 49 = .ok (.imul, 1) := by decide +kernel
theorem dX0_takeBack_50 : decode cX0_takeBack 50 = .ok (.aload_n 1, 1) := by decide +kernel
theorem dX0_takeBack_51 : decode cX0_takeBack 51 = .ok (.getfield 39, 3) := by decide +kernel
theorem dX0_takeBack_54 : decode cX0_takeBack 54 = .ok (.iconst 0, 1) := by decide +kernel
theorem dX0_takeBack_55 : decode cX0_takeBack 55 = .ok (.iconst 4, 1) := by decide +kernel
theorem dX0_takeBack_56 : decode cX0_takeBack 56 = .ok (.invokestatic 40, 3) := by decide +kernel
theorem dX0_takeBack_59 : decode cX0_takeBack 59 = .ok (.aload_n 0, 1) := by decide +kernel
theorem dX0_takeBack_60 : decode cX0_takeBack 60 = .ok (.aload_n 0, 1) := by decide +kernel
theorem dX0_takeBack_61 : decode cX0_takeBack 61 = .ok (.getfield 24, 3) := by decide +kernel
theorem dX0_takeBack_64 : decode cX0_takeBack 64 = .ok (.bipush 24, 2) := by decide +kernel
theorem dX0_takeBack_66 : decode cX0_takeBack 66 = .ok (.iadd, 1) := by decide +kernel
theorem dX0_takeBack_67 : decode cX0_takeBack 67 = .ok (.iconst 1, 1) := by decide +kernel
theorem dX0_takeBack_68 : decode cX0_takeBack 68 = .ok (.isub, 1) := by decide +kernel
theorem dX0_takeBack_69 : decode cX0_takeBack 69 = .ok (.bipush 24, 2) := by decide +kernel
theorem dX0_takeBack_71 : decode cX0_takeBack 71 = .ok (.irem, 1) := by decide +kernel
theorem dX0_takeBack_72 : decode cX0_takeBack 72 = .ok (.putfield 24, 3) := by decide +kernel
theorem dX0_takeBack_75 : decode cX0_takeBack 75 = .ok (.aload_n 0, 1) := by decide +kernel
theorem dX0_takeBack_76 : decode cX0_takeBack 76 = .ok (.dup, 1) := by decide +kernel
theorem dX0_takeBack_77 : decode cX0_takeBack 77 = .ok (.getfield 28, 3) := by decide +kernel
theorem dX0_takeBack_80 : decode cX0_takeBack 80 = .ok (.iconst 1, 1) := by decide +kernel
theorem dX0_takeBack_81 : decode cX0_takeBack 81 = .ok (.isub, 1) := by decide +kernel
theorem dX0_takeBack_82 : decode cX0_takeBack 82 = .ok (.putfield 28, 3) := by decide +kernel
theorem dX0_takeBack_85 : decode cX0_takeBack 85 = .ok (.return_, 1) := by decide +kernel
theorem dX1_init_0 : decode cX1_init 0 = .ok (.aload_n 0, 1) := by decide +kernel
theorem dX1_init_1 : decode cX1_init 1 = .ok (.invokespecial 1, 3) := by decide +kernel
theorem dX1_init_4 : decode cX1_init 4 = .ok (.aload_n 0, 1) := by decide +kernel
theorem dX1_init_5 : decode cX1_init 5 = .ok (.bipush 16, 2) := by decide +kernel
theorem dX1_init_7 : decode cX1_init 7 = .ok (.newarray .int, 2) := by decide +kernel
theorem dX1_init_9 : decode cX1_init 9 = .ok (.putfield 9, 3) := by decide +kernel
theorem dX1_init_12 : decode cX1_init 12 = .ok (.return_, 1) := by decide +kernel
theorem dX1_isOne_0 : decode cX1_isOne 0 = .ok (.iload_n 0, 1) := by decide +kernel
theorem dX1_isOne_1 : decode cX1_isOne 1 = .ok (.istore_n 2, 1) := by decide +kernel
theorem dX1_isOne_2 : decode cX1_isOne 2 = .ok (.iconst 0, 1) := by decide +kernel
theorem dX1_isOne_3 : decode cX1_isOne 3 = .ok (.istore_n 3, 1) := by decide +kernel
theorem dX1_isOne_4 : decode cX1_isOne 4 = .ok (.iload_n 3, 1) := by decide +kernel
theorem dX1_isOne_5 : decode cX1_isOne 5 = .ok (.bipush 6, 2) := by decide +kernel
theorem dX1_isOne_7 : decode cX1_isOne 7 = .ok (.if_icmp .ge 20, 3) := by decide +kernel
theorem dX1_isOne_10 : decode cX1_isOne 10 = .ok (.iload_n 2, 1) := by decide +kernel
theorem dX1_isOne_11 : decode cX1_isOne 11 = .ok (.iload_n 1, 1) := by decide +kernel
theorem dX1_isOne_12 : decode cX1_isOne 12 = .ok (.if_icmp .eq 15, 3) := by decide +kernel
theorem dX1_isOne_15 : decode cX1_isOne 15 = .ok (.getstatic 13, 3) := by decide +kernel
theorem dX1_isOne_18 : decode cX1_isOne 18 = .ok (.iload_n 2, 1) := by decide +kernel
theorem dX1_isOne_19 : decode cX1_isOne 19 = .ok (.iaload, 1) := by decide +kernel
theorem dX1_isOne_20 : decode cX1_isOne 20 = .ok (.istore_n 2, 1) := by decide +kernel
theorem dX1_isOne_21 : decode cX1_isOne 21 = .ok (.iinc 3 1, 3) := by decide +kernel
theorem dX1_isOne_24 : decode cX1_isOne 24 = .ok (.goto (-20), 3) := by decide +kernel
theorem dX1_isOne_27 : decode cX1_isOne 27 = .ok (.iload_n 2, 1) := by decide +kernel
theorem dX1_isOne_28 : decode cX1_isOne 28 = .ok (.iload_n 1, 1) := by decide +kernel
theorem dX1_isOne_29 : decode cX1_isOne 29 = .ok (.if_icmp .ne 7, 3) := by decide +kernel
theorem dX1_isOne_32 : decode cX1_isOne 32 = .ok (.iconst 1, 1) := by decide +kernel
theorem dX1_isOne_33 : decode cX1_isOne 33 = .ok (.goto 4, 3) := by decide +kernel
theorem dX1_isOne_36 : decode cX1_isOne 36 = .ok (.iconst 0, 1) := by decide +kernel
theorem dX1_isOne_37 : decode cX1_isOne 37 = .ok (.ireturn, 1) := by decide +kernel
theorem dX1_answer_0 : decode cX1_answer 0 = .ok (.aload_n 0, 1) := by decide +kernel
theorem dX1_answer_1 : decode cX1_answer 1 = .ok (.iconst 0, 1) := by decide +kernel
theorem dX1_answer_2 : decode cX1_answer 2 = .ok (.putfield 16, 3) := by decide +kernel
theorem dX1_answer_5 : decode cX1_answer 5 = .ok (.aload_n 0, 1) := by decide +kernel
theorem dX1_answer_6 : decode cX1_answer 6 = .ok (.iload_n 2, 1) := by decide +kernel
theorem dX1_answer_7 : decode cX1_answer 7 = .ok (.putfield 20, 3) := by decide +kernel
theorem dX1_answer_10 : decode cX1_answer 10 = .ok (.aload_n 0, 1) := by decide +kernel
theorem dX1_answer_11 : decode cX1_answer 11 = .ok (.aload_n 1, 1) := by decide +kernel
theorem dX1_answer_12 : decode cX1_answer 12 = .ok (.getfield 23, 3) := by decide +kernel
theorem dX1_answer_15 : decode cX1_answer 15 = .ok (.iload_n 2, 1) := by decide +kernel
theorem dX1_answer_16 : decode cX1_answer 16 = .ok (.iaload, 1) := by decide +kernel
theorem dX1_answer_17 : decode cX1_answer 17 = .ok (.putfield 28, 3) := by decide +kernel
theorem dX1_answer_20 : decode cX1_answer 20 = .ok (.aload_n 0, 1) := by decide +kernel
theorem dX1_answer_21 : decode cX1_answer 21 = .ok (.aload_n 1, 1) := by decide +kernel
theorem dX1_answer_22 : decode cX1_answer 22 = .ok (.getfield 31, 3) := by decide +kernel
theorem dX1_answer_25 : decode cX1_answer 25 = .ok (.iload_n 2, 1) := by decide +kernel
theorem dX1_answer_26 : decode cX1_answer 26 = .ok (.iaload, 1) := by decide +kernel
theorem dX1_answer_27 : decode cX1_answer 27 = .ok (.putfield 34, 3) := by decide +kernel
theorem dX1_answer_30 : decode cX1_answer 30 = .ok (.aload_n 0, 1) := by decide +kernel
theorem dX1_answer_31 : decode cX1_answer 31 = .ok (.aload_n 1, 1) := by decide +kernel
theorem dX1_answer_32 : decode cX1_answer 32 = .ok (.iload_n 2, 1) := by decide +kernel
theorem dX1_answer_33 : decode cX1_answer 33 = .ok (.invokevirtual 37, 3) := by decide +kernel
theorem dX1_answer_36 : decode cX1_answer 36 = .ok (.putfield 41, 3) := by decide +kernel
theorem dX1_answer_39 : decode cX1_answer 39 = .ok (.aload_n 0, 1) := by decide +kernel
theorem dX1_answer_40 : decode cX1_answer 40 = .ok (.iload_n 3, 1) := by decide +kernel
theorem dX1_answer_41 : decode cX1_answer 41 = .ok (.ifCond .ne 10, 3) := by decide +kernel
theorem dX1_answer_44 : decode cX1_answer 44 = .ok (.aload_n 0, 1) := by decide +kernel
theorem dX1_answer_45 : decode cX1_answer 45 = .ok (.invokevirtual 44, 3) := by decide +kernel
theorem dX1_answer_48 : decode cX1_answer 48 = .ok (.goto 7, 3) := by decide +kernel
theorem dX1_answer_51 : decode cX1_answer 51 = .ok (.aload_n 0, 1) := by decide +kernel
theorem dX1_answer_52 : decode cX1_answer 52 = .ok (.invokevirtual 48, 3) := by decide +kernel
theorem dX1_answer_55 : decode cX1_answer 55 = .ok (.iconst 0, 1) := by decide +kernel
theorem dX1_answer_56 : decode cX1_answer 56 = .ok (.invokevirtual 51, 3) := by decide +kernel
theorem dX1_answer_59 : decode cX1_answer 59 = .ok (.ireturn, 1) := by decide +kernel
theorem dX1_bodyOf_0 : decode cX1_bodyOf 0 = .ok (.iload_n 0, 1) := by decide +kernel
theorem dX1_bodyOf_1 : decode cX1_bodyOf 1 = .ok (.istore_n 2, 1) := by decide +kernel
theorem dX1_bodyOf_2 : decode cX1_bodyOf 2 = .ok (.iconst 0, 1) := by decide +kernel
theorem dX1_bodyOf_3 : decode cX1_bodyOf 3 = .ok (.istore_n 3, 1) := by decide +kernel
theorem dX1_bodyOf_4 : decode cX1_bodyOf 4 = .ok (.iload_n 3, 1) := by decide +kernel
theorem dX1_bodyOf_5 : decode cX1_bodyOf 5 = .ok (.bipush 6, 2) := by decide +kernel
theorem dX1_bodyOf_7 : decode cX1_bodyOf 7 = .ok (.if_icmp .ge 21, 3) := by decide +kernel
theorem dX1_bodyOf_10 : decode cX1_bodyOf 10 = .ok (.aload_n 1, 1) := by decide +kernel
theorem dX1_bodyOf_11 : decode cX1_bodyOf 11 = .ok (.iload_n 2, 1) := by decide +kernel
theorem dX1_bodyOf_12 : decode cX1_bodyOf 12 = .ok (.iaload, 1) := by decide +kernel
theorem dX1_bodyOf_13 : decode cX1_bodyOf 13 = .ok (.ifCond .ne 15, 3) := by decide +kernel
theorem dX1_bodyOf_16 : decode cX1_bodyOf 16 = .ok (.getstatic 13, 3) := by decide +kernel
theorem dX1_bodyOf_19 : decode cX1_bodyOf 19 = .ok (.iload_n 2, 1) := by decide +kernel
theorem dX1_bodyOf_20 : decode cX1_bodyOf 20 = .ok (.iaload, 1) := by decide +kernel
theorem dX1_bodyOf_21 : decode cX1_bodyOf 21 = .ok (.istore_n 2, 1) := by decide +kernel
theorem dX1_bodyOf_22 : decode cX1_bodyOf 22 = .ok (.iinc 3 1, 3) := by decide +kernel
theorem dX1_bodyOf_25 : decode cX1_bodyOf 25 = .ok (.goto (-21), 3) := by decide +kernel
theorem dX1_bodyOf_28 : decode cX1_bodyOf 28 = .ok (.aload_n 1, 1) := by decide +kernel
theorem dX1_bodyOf_29 : decode cX1_bodyOf 29 = .ok (.iload_n 2, 1) := by decide +kernel
theorem dX1_bodyOf_30 : decode cX1_bodyOf 30 = .ok (.iaload, 1) := by decide +kernel
theorem dX1_bodyOf_31 : decode cX1_bodyOf 31 = .ok (.ireturn, 1) := by decide +kernel
theorem dX1_sizeBody_0 : decode cX1_sizeBody 0 = .ok (.aload_n 0, 1) := by decide +kernel
theorem dX1_sizeBody_1 : decode cX1_sizeBody 1 = .ok (.getfield 28, 3) := by decide +kernel
theorem dX1_sizeBody_4 : decode cX1_sizeBody 4 = .ok (.getstatic 55, 3) := by decide +kernel
theorem dX1_sizeBody_7 : decode cX1_sizeBody 7 = .ok (.invokestatic 58, 3) := by decide +kernel
theorem dX1_sizeBody_10 : decode cX1_sizeBody 10 = .ok (.ireturn, 1) := by decide +kernel
theorem dX1_markBody_0 : decode cX1_markBody 0 = .ok (.aload_n 0, 1) := by decide +kernel
theorem dX1_markBody_1 : decode cX1_markBody 1 = .ok (.getfield 28, 3) := by decide +kernel
theorem dX1_markBody_4 : decode cX1_markBody 4 = .ok (.getstatic 62, 3) := by decide +kernel
theorem dX1_markBody_7 : decode cX1_markBody 7 = .ok (.invokestatic 58, 3) := by decide +kernel
theorem dX1_markBody_10 : decode cX1_markBody 10 = .ok (.ireturn, 1) := by decide +kernel
theorem dX1_begin_0 : decode cX1_begin 0 = .ok (.iload_n 2, 1) := by decide +kernel
theorem dX1_begin_1 : decode cX1_begin 1 = .ok (.bipush 8, 2) := by decide +kernel
theorem dX1_begin_3 : decode cX1_begin 3 = .ok (.if_icmp .le 5, 3) := by decide +kernel
theorem dX1_begin_6 : decode cX1_begin 6 = .ok (.iconst 0, 1) := by decide +kernel
theorem dX1_begin_7 : decode cX1_begin 7 = .ok (.ireturn, 1) := by decide +kernel
theorem dX1_begin_8 : decode cX1_begin 8 = .ok (.aload_n 0, 1) := by decide +kernel
theorem dX1_begin_9 : decode cX1_begin 9 = .ok (.iload_n 1, 1) := by decide +kernel
theorem dX1_begin_10 : decode cX1_begin 10 = .ok (.invokevirtual 65, 3) := by decide +kernel
theorem dX1_begin_13 : decode cX1_begin 13 = .ok (.iload_n 2, 1) := by decide +kernel
theorem dX1_begin_14 : decode cX1_begin 14 = .ok (.iconst 1, 1) := by decide +kernel
theorem dX1_begin_15 : decode cX1_begin 15 = .ok (.iadd, 1) := by decide +kernel
theorem dX1_begin_16 : decode cX1_begin 16 = .ok (.istore_n 3, 1) := by decide +kernel
theorem dX1_begin_17 : decode cX1_begin 17 = .ok (.iload_n 1, 1) := by decide +kernel
theorem dX1_begin_18 : decode cX1_begin 18 = .ok (.tableswitch 185 10 24 #[74, 79, 97, 106, 117, 185, 185, 185, 185, 185, 127, 132, 145, 157, 175], 74) := by decide +kernel
theorem dX1_begin_92 : decode cX1_begin 92 = .ok (.aload_n 0, 1) := by decide +kernel
theorem dX1_begin_93 : decode cX1_begin 93 = .ok (.getfield 34, 3) := by decide +kernel
theorem dX1_begin_96 : decode cX1_begin 96 = .ok (.ireturn, 1) := by decide +kernel
theorem dX1_begin_97 : decode cX1_begin 97 = .ok (.aload_n 0, 1) := by decide +kernel
theorem dX1_begin_98 : decode cX1_begin 98 = .ok (.bipush 10, 2) := by decide +kernel
theorem dX1_begin_100 : decode cX1_begin 100 = .ok (.iload_n 3, 1) := by decide +kernel
theorem dX1_begin_101 : decode cX1_begin 101 = .ok (.invokevirtual 51, 3) := by decide +kernel
theorem dX1_begin_104 : decode cX1_begin 104 = .ok (.aload_n 0, 1) := by decide +kernel
theorem dX1_begin_105 : decode cX1_begin 105 = .ok (.aload_n 0, 1) := by decide +kernel
theorem dX1_begin_106 : decode cX1_begin 106 = .ok (.invokevirtual 48, 3) := by decide +kernel
theorem dX1_begin_109 : decode cX1_begin 109 = .ok (.iload_n 3, 1) := by decide +kernel
theorem dX1_begin_110 : decode cX1_begin 110 = .ok (.invokevirtual 51, 3) := by decide +kernel
theorem dX1_begin_113 : decode cX1_begin 113 = .ok (.iadd, 1) := by decide +kernel
theorem dX1_begin_114 : decode cX1_begin 114 = .ok (.ireturn, 1) := by decide +kernel
theorem dX1_begin_115 : decode cX1_begin 115 = .ok (.aload_n 0, 1) := by decide +kernel
theorem dX1_begin_116 : decode cX1_begin 116 = .ok (.bipush 11, 2) := by decide +kernel
theorem dX1_begin_118 : decode cX1_begin 118 = .ok (.iload_n 3, 1) := by decide +kernel
theorem dX1_begin_119 : decode cX1_begin 119 = .ok (.invokevirtual 51, 3) := by decide +kernel
theorem dX1_begin_122 : decode cX1_begin 122 = .ok (.ineg, 1) := by decide +kernel
theorem dX1_begin_123 : decode cX1_begin 123 = .ok (.ireturn, 1) := by decide +kernel
theorem dX1_begin_124 : decode cX1_begin 124 = .ok (.aload_n 0, 1) := by decide +kernel
theorem dX1_begin_125 : decode cX1_begin 125 = .ok (.bipush 10, 2) := by decide +kernel
theorem dX1_begin_127 : decode cX1_begin 127 = .ok (.iload_n 3, 1) := by decide +kernel
theorem dX1_begin_128 : decode cX1_begin 128 = .ok (.invokevirtual 51, 3) := by decide +kernel
theorem dX1_begin_131 : decode cX1_begin 131 = .ok (.bipush 100, 2) := by decide +kernel
theorem dX1_begin_133 : decode cX1_begin 133 = .ok (.isub, 1) := by decide +kernel
theorem dX1_begin_134 : decode cX1_begin 134 = .ok (.ireturn, 1) := by decide +kernel
theorem dX1_begin_135 : decode cX1_begin 135 = .ok (.iconst 2, 1) := by decide +kernel
theorem dX1_begin_136 : decode cX1_begin 136 = .ok (.aload_n 0, 1) := by decide +kernel
theorem dX1_begin_137 : decode cX1_begin 137 = .ok (.bipush 13, 2) := by decide +kernel
theorem dX1_begin_139 : decode cX1_begin 139 = .ok (.iload_n 3, 1) := by decide +kernel
theorem dX1_begin_140 : decode cX1_begin 140 = .ok (.invokevirtual 51, 3) := by decide +kernel
theorem dX1_begin_143 : decode cX1_begin 143 = .ok (.imul, 1) := by decide +kernel
theorem dX1_begin_144 : decode cX1_begin 144 = .ok (.ireturn, 1) := by decide +kernel
theorem dX1_begin_145 : decode cX1_begin 145 = .ok (.aload_n 0, 1) := by decide +kernel
theorem dX1_begin_146 : decode cX1_begin 146 = .ok (.getfield 20, 3) := by decide +kernel
theorem dX1_begin_149 : decode cX1_begin 149 = .ok (.ireturn, 1) := by decide +kernel
theorem dX1_begin_150 : decode cX1_begin 150 = .ok (.aload_n 0, 1) := by decide +kernel
theorem dX1_begin_151 : decode cX1_begin 151 = .ok (.bipush 20, 2) := by decide +kernel
theorem dX1_begin_153 : decode cX1_begin 153 = .ok (.iload_n 3, 1) := by decide +kernel
theorem dX1_begin_154 : decode cX1_begin 154 = .ok (.invokevirtual 51, 3) := by decide +kernel
theorem dX1_begin_157 : decode cX1_begin 157 = .ok (.aload_n 0, 1) := by decide +kernel
theorem dX1_begin_158 : decode cX1_begin 158 = .ok (.getfield 41, 3) := by decide +kernel
theorem dX1_begin_161 : decode cX1_begin 161 = .ok (.iadd, 1) := by decide +kernel
theorem dX1_begin_162 : decode cX1_begin 162 = .ok (.ireturn, 1) := by decide +kernel
theorem dX1_begin_163 : decode cX1_begin 163 = .ok (.aload_n 0, 1) := by decide +kernel
theorem dX1_begin_164 : decode cX1_begin 164 = .ok (.bipush 21, 2) := by decide +kernel
theorem dX1_begin_166 : decode cX1_begin 166 = .ok (.iload_n 3, 1) := by decide +kernel
theorem dX1_begin_167 : decode cX1_begin 167 = .ok (.invokevirtual 51, 3) := by decide +kernel
theorem dX1_begin_170 : decode cX1_begin 170 = .ok (.sipush 1000, 3) := by decide +kernel
theorem dX1_begin_173 : decode cX1_begin 173 = .ok (.isub, 1) := by decide +kernel
theorem dX1_begin_174 : decode cX1_begin 174 = .ok (.ireturn, 1) := by decide +kernel
theorem dX1_begin_175 : decode cX1_begin 175 = .ok (.aload_n 0, 1) := by decide +kernel
theorem dX1_begin_176 : decode cX1_begin 176 = .ok (.bipush 20, 2) := by decide +kernel
theorem dX1_begin_178 : decode cX1_begin 178 = .ok (.iload_n 3, 1) := by decide +kernel
theorem dX1_begin_179 : decode cX1_begin 179 = .ok (.invokevirtual 51, 3) := by decide +kernel
theorem dX1_begin_182 : decode cX1_begin 182 = .ok (.aload_n 0, 1) := by decide +kernel
theorem dX1_begin_183 : decode cX1_begin 183 = .ok (.aload_n 0, 1) := by decide +kernel
theorem dX1_begin_184 : decode cX1_begin 184 = .ok (.invokevirtual 44, 3) := by decide +kernel
theorem dX1_begin_187 : decode cX1_begin 187 = .ok (.iload_n 3, 1) := by decide +kernel
theorem dX1_begin_188 : decode cX1_begin 188 = .ok (.invokevirtual 51, 3) := by decide +kernel
theorem dX1_begin_191 : decode cX1_begin 191 = .ok (.isub, 1) := by decide +kernel
theorem dX1_begin_192 : decode cX1_begin 192 = .ok (.ireturn, 1) := by decide +kernel
theorem dX1_begin_193 : decode cX1_begin 193 = .ok (.iconst 2, 1) := by decide +kernel
theorem dX1_begin_194 : decode cX1_begin 194 = .ok (.aload_n 0, 1) := by decide +kernel
theorem dX1_begin_195 : decode cX1_begin 195 = .ok (.bipush 21, 2) := by decide +kernel
theorem dX1_begin_197 : decode cX1_begin 197 = .ok (.iload_n 3, 1) := by decide +kernel
theorem dX1_begin_198 : decode cX1_begin 198 = .ok (.invokevirtual 51, 3) := by decide +kernel
theorem dX1_begin_201 : decode cX1_begin 201 = .ok (.imul, 1) := by decide +kernel
theorem dX1_begin_202 : decode cX1_begin 202 = .ok (.ireturn, 1) := by decide +kernel
theorem dX1_begin_203 : decode cX1_begin 203 = .ok (.iconst 0, 1) := by decide +kernel
theorem dX1_begin_204 : decode cX1_begin 204 = .ok (.ireturn, 1) := by decide +kernel
theorem dX1_leave_0 : decode cX1_leave 0 = .ok (.aload_n 0, 1) := by decide +kernel
theorem dX1_leave_1 : decode cX1_leave 1 = .ok (.getfield 16, 3) := by decide +kernel
theorem dX1_leave_4 : decode cX1_leave 4 = .ok (.bipush 16, 2) := by decide +kernel
theorem dX1_leave_6 : decode cX1_leave 6 = .ok (.if_icmp .ge 23, 3) := by decide +kernel
theorem dX1_leave_9 : decode cX1_leave 9 = .ok (.aload_n 0, 1) := by decide +kernel
theorem dX1_leave_10 : decode cX1_leave 10 = .ok (.getfield 9, 3) := by decide +kernel
theorem dX1_leave_13 : decode cX1_leave 13 = .ok (.aload_n 0, 1) := by decide +kernel
theorem dX1_leave_14 : decode cX1_leave 14 = .ok (.getfield 16, 3) := by decide +kernel
theorem dX1_leave_17 : decode cX1_leave 17 = .ok (.iload_n 1, 1) := by decide +kernel
theorem dX1_leave_18 : decode cX1_leave 18 = .ok (.iastore, 1) := by decide +kernel
theorem dX1_leave_19 : decode cX1_leave 19 = .ok (.aload_n 0, 1) := by decide +kernel
theorem dX1_leave_20 : decode cX1_leave 20 = .ok (.dup, 1) := by decide +kernel
theorem dX1_leave_21 : decode cX1_leave 21 = .ok (.getfield 16, 3) := by decide +kernel
theorem dX1_leave_24 : decode cX1_leave 24 = .ok (.iconst 1, 1) := by decide +kernel
theorem dX1_leave_25 : decode cX1_leave 25 = .ok (.iadd, 1) := by decide +kernel
theorem dX1_leave_26 : decode cX1_leave 26 = .ok (.putfield 16, 3) := by decide +kernel
theorem dX1_leave_29 : decode cX1_leave 29 = .ok (.return_, 1) := by decide +kernel
theorem dX2_init_0 : decode cX2_init 0 = .ok (.aload_n 0, 1) := by decide +kernel
theorem dX2_init_1 : decode cX2_init 1 = .ok (.invokespecial 3, 3) := by decide +kernel
theorem dX2_init_4 : decode cX2_init 4 = .ok (.aload_n 0, 1) := by decide +kernel
theorem dX2_init_5 : decode cX2_init 5 = .ok (.iconst 4, 1) := by decide +kernel
theorem dX2_init_6 : decode cX2_init 6 = .ok (.newarray .int, 2) := by decide +kernel
theorem dX2_init_8 : decode cX2_init 8 = .ok (.putfield 11, 3) := by decide +kernel
theorem dX2_init_11 : decode cX2_init 11 = .ok (.aload_n 0, 1) := by decide +kernel
theorem dX2_init_12 : decode cX2_init 12 = .ok (.new 17, 3) := by decide +kernel
theorem dX2_init_15 : decode cX2_init 15 = .ok (.dup, 1) := by decide +kernel
theorem dX2_init_16 : decode cX2_init 16 = .ok (.invokespecial 19, 3) := by decide +kernel
theorem dX2_init_19 : decode cX2_init 19 = .ok (.putfield 20, 3) := by decide +kernel
theorem dX2_init_22 : decode cX2_init 22 = .ok (.aload_n 0, 1) := by decide +kernel
theorem dX2_init_23 : decode cX2_init 23 = .ok (.new 24, 3) := by decide +kernel
theorem dX2_init_26 : decode cX2_init 26 = .ok (.dup, 1) := by decide +kernel
theorem dX2_init_27 : decode cX2_init 27 = .ok (.invokespecial 26, 3) := by decide +kernel
theorem dX2_init_30 : decode cX2_init 30 = .ok (.putfield 27, 3) := by decide +kernel
theorem dX2_init_33 : decode cX2_init 33 = .ok (.return_, 1) := by decide +kernel
theorem dX2_isRest_0 : decode cX2_isRest 0 = .ok (.iconst 0, 1) := by decide +kernel
theorem dX2_isRest_1 : decode cX2_isRest 1 = .ok (.istore 5, 2) := by decide +kernel
theorem dX2_isRest_3 : decode cX2_isRest 3 = .ok (.iload 5, 2) := by decide +kernel
theorem dX2_isRest_5 : decode cX2_isRest 5 = .ok (.aload_n 1, 1) := by decide +kernel
theorem dX2_isRest_6 : decode cX2_isRest 6 = .ok (.getfield 31, 3) := by decide +kernel
theorem dX2_isRest_9 : decode cX2_isRest 9 = .ok (.if_icmp .ge 56, 3) := by decide +kernel
theorem dX2_isRest_12 : decode cX2_isRest 12 = .ok (.aload_n 0, 1) := by decide +kernel
theorem dX2_isRest_13 : decode cX2_isRest 13 = .ok (.getfield 27, 3) := by decide +kernel
theorem dX2_isRest_16 : decode cX2_isRest 16 = .ok (.aload_n 1, 1) := by decide +kernel
theorem dX2_isRest_17 : decode cX2_isRest 17 = .ok (.iload_n 2, 1) := by decide +kernel
theorem dX2_isRest_18 : decode cX2_isRest 18 = .ok (.aload_n 3, 1) := by decide +kernel
theorem dX2_isRest_19 : decode cX2_isRest 19 = .ok (.iload 5, 2) := by decide +kernel
theorem dX2_isRest_21 : decode cX2_isRest 21 = .ok (.iload 4, 2) := by decide +kernel
theorem dX2_isRest_23 : decode cX2_isRest 23 = .ok (.invokevirtual 35, 3) := by decide +kernel
theorem dX2_isRest_26 : decode cX2_isRest 26 = .ok (.aload_n 0, 1) := by decide +kernel
theorem dX2_isRest_27 : decode cX2_isRest 27 = .ok (.getfield 27, 3) := by decide +kernel
theorem dX2_isRest_30 : decode cX2_isRest 30 = .ok (.aload_n 3, 1) := by decide +kernel
theorem dX2_isRest_31 : decode cX2_isRest 31 = .ok (.getfield 39, 3) := by decide +kernel
theorem dX2_isRest_34 : decode cX2_isRest 34 = .ok (.iload 5, 2) := by decide +kernel
theorem dX2_isRest_36 : decode cX2_isRest 36 = .ok (.iaload, 1) := by decide +kernel
theorem dX2_isRest_37 : decode cX2_isRest 37 = .ok (.invokevirtual 42, 3) := by decide +kernel
theorem dX2_isRest_40 : decode cX2_isRest 40 = .ok (.aload_n 0, 1) := by decide +kernel
theorem dX2_isRest_41 : decode cX2_isRest 41 = .ok (.getfield 27, 3) := by decide +kernel
theorem dX2_isRest_44 : decode cX2_isRest 44 = .ok (.aload_n 0, 1) := by decide +kernel
theorem dX2_isRest_45 : decode cX2_isRest 45 = .ok (.getfield 27, 3) := by decide +kernel
theorem dX2_isRest_48 : decode cX2_isRest 48 = .ok (.invokevirtual 46, 3) := by decide +kernel
theorem dX2_isRest_51 : decode cX2_isRest 51 = .ok (.invokevirtual 42, 3) := by decide +kernel
theorem dX2_isRest_54 : decode cX2_isRest 54 = .ok (.if_icmp .ge 5, 3) := by decide +kernel
theorem dX2_isRest_57 : decode cX2_isRest 57 = .ok (.iconst 0, 1) := by decide +kernel
theorem dX2_isRest_58 : decode cX2_isRest 58 = .ok (.ireturn, 1) := by decide +kernel
theorem dX2_isRest_59 : decode cX2_isRest 59 = .ok (.iinc 5 1, 3) := by decide +kernel
theorem dX2_isRest_62 : decode cX2_isRest 62 = .ok (.goto (-59), 3) := by decide +kernel
theorem dX2_isRest_65 : decode cX2_isRest 65 = .ok (.iconst 1, 1) := by decide +kernel
theorem dX2_isRest_66 : decode cX2_isRest 66 = .ok (.ireturn, 1) := by decide +kernel
theorem dX2_seekRests_0 : decode cX2_seekRests 0 = .ok (.aload_n 0, 1) := by decide +kernel
theorem dX2_seekRests_1 : decode cX2_seekRests 1 = .ok (.iconst 0, 1) := by decide +kernel
theorem dX2_seekRests_2 : decode cX2_seekRests 2 = .ok (.putfield 50, 3) := by decide +kernel
theorem dX2_seekRests_5 : decode cX2_seekRests 5 = .ok (.aload_n 0, 1) := by decide +kernel
theorem dX2_seekRests_6 : decode cX2_seekRests 6 = .ok (.getfield 20, 3) := by decide +kernel
theorem dX2_seekRests_9 : decode cX2_seekRests 9 = .ok (.aload_n 1, 1) := by decide +kernel
theorem dX2_seekRests_10 : decode cX2_seekRests 10 = .ok (.getfield 31, 3) := by decide +kernel
theorem dX2_seekRests_13 : decode cX2_seekRests 13 = .ok (.putfield 53, 3) := by decide +kernel
theorem dX2_seekRests_16 : decode cX2_seekRests 16 = .ok (.iconst 1, 1) := by decide +kernel
theorem dX2_seekRests_17 : decode cX2_seekRests 17 = .ok (.istore_n 3, 1) := by decide +kernel
theorem dX2_seekRests_18 : decode cX2_seekRests 18 = .ok (.iconst 0, 1) := by decide +kernel
theorem dX2_seekRests_19 : decode cX2_seekRests 19 = .ok (.istore 4, 2) := by decide +kernel
theorem dX2_seekRests_21 : decode cX2_seekRests 21 = .ok (.iload 4, 2) := by decide +kernel
theorem dX2_seekRests_23 : decode cX2_seekRests 23 = .ok (.aload_n 1, 1) := by decide +kernel
theorem dX2_seekRests_24 : decode cX2_seekRests 24 = .ok (.getfield 31, 3) := by decide +kernel
theorem dX2_seekRests_27 : decode cX2_seekRests 27 = .ok (.if_icmp .ge 25, 3) := by decide +kernel
theorem dX2_seekRests_30 : decode cX2_seekRests 30 = .ok (.aload_n 0, 1) := by decide +kernel
theorem dX2_seekRests_31 : decode cX2_seekRests 31 = .ok (.getfield 20, 3) := by decide +kernel
theorem dX2_seekRests_34 : decode cX2_seekRests 34 = .ok (.getfield 39, 3) := by decide +kernel
theorem dX2_seekRests_37 : decode cX2_seekRests 37 = .ok (.iload 4, 2) := by decide +kernel
theorem dX2_seekRests_39 : decode cX2_seekRests 39 = .ok (.iconst 0, 1) := by decide +kernel
theorem dX2_seekRests_40 : decode cX2_seekRests 40 = .ok (.iastore, 1) := by decide +kernel
theorem dX2_seekRests_41 : decode cX2_seekRests 41 = .ok (.iload_n 3, 1) := by decide +kernel
theorem dX2_seekRests_42 : decode cX2_seekRests 42 = .ok (.bipush 6, 2) := by decide +kernel
theorem dX2_seekRests_44 : decode cX2_seekRests 44 = .ok (.imul, 1) := by decide +kernel
theorem dX2_seekRests_45 : decode cX2_seekRests 45 = .ok (.istore_n 3, 1) := by decide +kernel
theorem dX2_seekRests_46 : decode cX2_seekRests 46 = .ok (.iinc 4 1, 3) := by decide +kernel
theorem dX2_seekRests_49 : decode cX2_seekRests 49 = .ok (.goto (-28), 3) := by decide +kernel
theorem dX2_seekRests_52 : decode cX2_seekRests 52 = .ok (.iconst 0, 1) := by decide +kernel
theorem dX2_seekRests_53 : decode cX2_seekRests 53 = .ok (.istore 4, 2) := by decide +kernel
theorem dX2_seekRests_55 : decode cX2_seekRests 55 = .ok (.iload 4, 2) := by decide +kernel
theorem dX2_seekRests_57 : decode cX2_seekRests 57 = .ok (.iload_n 3, 1) := by decide +kernel
theorem dX2_seekRests_58 : decode cX2_seekRests 58 = .ok (.if_icmp .ge 64, 3) := by decide +kernel
theorem dX2_seekRests_61 : decode cX2_seekRests 61 = .ok (.aload_n 0, 1) := by decide +kernel
theorem dX2_seekRests_62 : decode cX2_seekRests 62 = .ok (.aload_n 1, 1) := by decide +kernel
theorem dX2_seekRests_63 : decode cX2_seekRests 63 = .ok (.iload_n 2, 1) := by decide +kernel
theorem dX2_seekRests_64 : decode cX2_seekRests 64 = .ok (.aload_n 0, 1) := by decide +kernel
theorem dX2_seekRests_65 : decode cX2_seekRests 65 = .ok (.getfield 20, 3) := by decide +kernel
theorem dX2_seekRests_68 : decode cX2_seekRests 68 = .ok (.aload_n 1, 1) := by decide +kernel
theorem dX2_seekRests_69 : decode cX2_seekRests 69 = .ok (.getfield 54, 3) := by decide +kernel
theorem dX2_seekRests_72 : decode cX2_seekRests 72 = .ok (.invokevirtual 57, 3) := by decide +kernel
theorem dX2_seekRests_75 : decode cX2_seekRests 75 = .ok (.ifCond .eq 37, 3) := by decide +kernel
theorem dX2_seekRests_78 : decode cX2_seekRests 78 = .ok (.aload_n 0, 1) := by decide +kernel
theorem dX2_seekRests_79 : decode cX2_seekRests 79 = .ok (.getfield 50, 3) := by decide +kernel
theorem dX2_seekRests_82 : decode cX2_seekRests 82 = .ok (.ifCond .ne 20, 3) := by decide +kernel
theorem dX2_seekRests_85 : decode cX2_seekRests 85 = .ok (.aload_n 0, 1) := by decide +kernel
theorem dX2_seekRests_86 : decode cX2_seekRests 86 = .ok (.getfield 20, 3) := by decide +kernel
theorem dX2_seekRests_89 : decode cX2_seekRests 89 = .ok (.getfield 39, 3) := by decide +kernel
theorem dX2_seekRests_92 : decode cX2_seekRests 92 = .ok (.iconst 0, 1) := by decide +kernel
theorem dX2_seekRests_93 : decode cX2_seekRests 93 = .ok (.aload_n 0, 1) := by decide +kernel
theorem dX2_seekRests_94 : decode cX2_seekRests 94 = .ok (.getfield 11, 3) := by decide +kernel
theorem dX2_seekRests_97 : decode cX2_seekRests 97 = .ok (.iconst 0, 1) := by decide +kernel
theorem dX2_seekRests_98 : decode cX2_seekRests 98 = .ok (.iconst 4, 1) := by decide +kernel
theorem dX2_seekRests_99 : decode cX2_seekRests 99 = .ok (.invokestatic 61, 3) := by decide +kernel
theorem dX2_seekRests_102 : decode cX2_seekRests 102 = .ok (.aload_n 0, 1) := by decide +kernel
theorem dX2_seekRests_103 : decode cX2_seekRests 103 = .ok (.dup, 1) := by decide +kernel
theorem dX2_seekRests_104 : decode cX2_seekRests 104 = .ok (.getfield 50, 3) := by decide +kernel
theorem dX2_seekRests_107 : decode cX2_seekRests 107 = .ok (.iconst 1, 1) := by decide +kernel
theorem dX2_seekRests_108 : decode cX2_seekRests 108 = .ok (.iadd, 1) := by decide +kernel
theorem dX2_seekRests_109 : decode cX2_seekRests 109 = .ok (.putfield 50, 3) := by decide +kernel
theorem dX2_seekRests_112 : decode cX2_seekRests 112 = .ok (.aload_n 0, 1) := by decide +kernel
theorem dX2_seekRests_113 : decode cX2_seekRests 113 = .ok (.invokevirtual 67, 3) := by decide +kernel
theorem dX2_seekRests_116 : decode cX2_seekRests 116 = .ok (.iinc 4 1, 3) := by decide +kernel
theorem dX2_seekRests_119 : decode cX2_seekRests 119 = .ok (.goto (-64), 3) := by decide +kernel
theorem dX2_seekRests_122 : decode cX2_seekRests 122 = .ok (.return_, 1) := by decide +kernel
theorem dX2_advance_0 : decode cX2_advance 0 = .ok (.aload_n 0, 1) := by decide +kernel
theorem dX2_advance_1 : decode cX2_advance 1 = .ok (.getfield 20, 3) := by decide +kernel
theorem dX2_advance_4 : decode cX2_advance 4 = .ok (.getfield 53, 3) := by decide +kernel
theorem dX2_advance_7 : decode cX2_advance 7 = .ok (.iconst 1, 1) := by decide +kernel
theorem dX2_advance_8 : decode cX2_advance 8 = .ok (.isub, 1) := by decide +kernel
theorem dX2_advance_9 : decode cX2_advance 9 = .ok (.istore_n 1, 1) := by decide +kernel
theorem dX2_advance_10 : decode cX2_advance 10 = .ok (.iload_n 1, 1) := by decide +kernel
theorem dX2_advance_11 : decode cX2_advance 11 = .ok (.ifCond .lt 46, 3) := by decide +kernel
theorem dX2_advance_14 : decode cX2_advance 14 = .ok (.aload_n 0, 1) := by decide +kernel
theorem dX2_advance_15 : decode cX2_advance 15 = .ok (.getfield 20, 3) := by decide +kernel
theorem dX2_advance_18 : decode cX2_advance 18 = .ok (.getfield 39, 3) := by decide +kernel
theorem dX2_advance_21 : decode cX2_advance 21 = .ok (.iload_n 1, 1) := by decide +kernel
theorem dX2_advance_22 : decode cX2_advance 22 = .ok (.iaload, 1) := by decide +kernel
theorem dX2_advance_23 : decode cX2_advance 23 = .ok (.iconst 5, 1) := by decide +kernel
theorem dX2_advance_24 : decode cX2_advance 24 = .ok (.if_icmp .ge 17, 3) := by decide +kernel
theorem dX2_advance_27 : decode cX2_advance 27 = .ok (.aload_n 0, 1) := by decide +kernel
theorem dX2_advance_28 : decode cX2_advance 28 = .ok (.getfield 20, 3) := by decide +kernel
theorem dX2_advance_31 : decode cX2_advance 31 = .ok (.getfield 39, 3) := by decide +kernel
theorem dX2_advance_34 : decode cX2_advance 34 = .ok (.iload_n 1, 1) := by decide +kernel
theorem dX2_advance_35 : decode cX2_advance 35 = .ok (.dup2, 1) := by decide +kernel
theorem dX2_advance_36 : decode cX2_advance 36 = .ok (.iaload, 1) := by decide +kernel
theorem dX2_advance_37 : decode cX2_advance 37 = .ok (.iconst 1, 1) := by decide +kernel
theorem dX2_advance_38 : decode cX2_advance 38 = .ok (.iadd, 1) := by decide +kernel
theorem dX2_advance_39 : decode cX2_advance 39 = .ok (.iastore, 1) := by decide +kernel
theorem dX2_advance_40 : decode cX2_advance 40 = .ok (.return_, 1) := by decide +kernel
theorem dX2_advance_41 : decode cX2_advance 41 = .ok (.aload_n 0, 1) := by decide +kernel
theorem dX2_advance_42 : decode cX2_advance 42 = .ok (.getfield 20, 3) := by decide +kernel
theorem dX2_advance_45 : decode cX2_advance 45 = .ok (.getfield 39, 3) := by decide +kernel
theorem dX2_advance_48 : decode cX2_advance 48 = .ok (.iload_n 1, 1) := by decide +kernel
theorem dX2_advance_49 : decode cX2_advance 49 = .ok (.iconst 0, 1) := by decide +kernel
theorem dX2_advance_50 : decode cX2_advance 50 = .ok (.iastore, 1) := by decide +kernel
theorem dX2_advance_51 : decode cX2_advance 51 = .ok (.iinc 1 (-1), 3) := by decide +kernel
theorem dX2_advance_54 : decode cX2_advance 54 = .ok (.goto (-44), 3) := by decide +kernel
theorem dX2_advance_57 : decode cX2_advance 57 = .ok (.return_, 1) := by decide +kernel
theorem dX2_takeTurns_0 : decode cX2_takeTurns 0 = .ok (.iconst 1, 1) := by decide +kernel
theorem dX2_takeTurns_1 : decode cX2_takeTurns 1 = .ok (.istore 4, 2) := by decide +kernel
theorem dX2_takeTurns_3 : decode cX2_takeTurns 3 = .ok (.iload 4, 2) := by decide +kernel
theorem dX2_takeTurns_5 : decode cX2_takeTurns 5 = .ok (.bipush 20, 2) := by decide +kernel
theorem dX2_takeTurns_7 : decode cX2_takeTurns 7 = .ok (.if_icmp .gt 96, 3) := by decide +kernel
theorem dX2_takeTurns_10 : decode cX2_takeTurns 10 = .ok (.iconst 0, 1) := by decide +kernel
theorem dX2_takeTurns_11 : decode cX2_takeTurns 11 = .ok (.istore 5, 2) := by decide +kernel
theorem dX2_takeTurns_13 : decode cX2_takeTurns 13 = .ok (.iconst 0, 1) := by decide +kernel
theorem dX2_takeTurns_14 : decode cX2_takeTurns 14 = .ok (.istore 6, 2) := by decide +kernel
theorem dX2_takeTurns_16 : decode cX2_takeTurns 16 = .ok (.iload 6, 2) := by decide +kernel
theorem dX2_takeTurns_18 : decode cX2_takeTurns 18 = .ok (.aload_n 1, 1) := by decide +kernel
theorem dX2_takeTurns_19 : decode cX2_takeTurns 19 = .ok (.getfield 31, 3) := by decide +kernel
theorem dX2_takeTurns_22 : decode cX2_takeTurns 22 = .ok (.if_icmp .ge 67, 3) := by decide +kernel
theorem dX2_takeTurns_25 : decode cX2_takeTurns 25 = .ok (.aload_n 0, 1) := by decide +kernel
theorem dX2_takeTurns_26 : decode cX2_takeTurns 26 = .ok (.getfield 27, 3) := by decide +kernel
theorem dX2_takeTurns_29 : decode cX2_takeTurns 29 = .ok (.aload_n 1, 1) := by decide +kernel
theorem dX2_takeTurns_30 : decode cX2_takeTurns 30 = .ok (.iload_n 2, 1) := by decide +kernel
theorem dX2_takeTurns_31 : decode cX2_takeTurns 31 = .ok (.aload_n 3, 1) := by decide +kernel
theorem dX2_takeTurns_32 : decode cX2_takeTurns 32 = .ok (.iload 6, 2) := by decide +kernel
theorem dX2_takeTurns_34 : decode cX2_takeTurns 34 = .ok (.aload_n 1, 1) := by decide +kernel
theorem dX2_takeTurns_35 : decode cX2_takeTurns 35 = .ok (.getfield 54, 3) := by decide +kernel
theorem dX2_takeTurns_38 : decode cX2_takeTurns 38 = .ok (.invokevirtual 35, 3) := by decide +kernel
theorem dX2_takeTurns_41 : decode cX2_takeTurns 41 = .ok (.aload_n 0, 1) := by decide +kernel
theorem dX2_takeTurns_42 : decode cX2_takeTurns 42 = .ok (.getfield 27, 3) := by decide +kernel
theorem dX2_takeTurns_45 : decode cX2_takeTurns 45 = .ok (.invokevirtual 46, 3) := by decide +kernel
theorem dX2_takeTurns_48 : decode cX2_takeTurns 48 = .ok (.istore 7, 2) := by decide +kernel
theorem dX2_takeTurns_50 : decode cX2_takeTurns 50 = .ok (.iload 5, 2) := by decide +kernel
theorem dX2_takeTurns_52 : decode cX2_takeTurns 52 = .ok (.ifCond .ne 15, 3) := by decide +kernel
theorem dX2_takeTurns_55 : decode cX2_takeTurns 55 = .ok (.iload 7, 2) := by decide +kernel
theorem dX2_takeTurns_57 : decode cX2_takeTurns 57 = .ok (.aload_n 3, 1) := by decide +kernel
theorem dX2_takeTurns_58 : decode cX2_takeTurns 58 = .ok (.getfield 39, 3) := by decide +kernel
theorem dX2_takeTurns_61 : decode cX2_takeTurns 61 = .ok (.iload 6, 2) := by decide +kernel
theorem dX2_takeTurns_63 : decode cX2_takeTurns 63 = .ok (.iaload, 1) := by decide +kernel
theorem dX2_takeTurns_64 : decode cX2_takeTurns 64 = .ok (.if_icmp .eq 7, 3) := by decide +kernel
theorem dX2_takeTurns_67 : decode cX2_takeTurns 67 = .ok (.iconst 1, 1) := by decide +kernel
theorem dX2_takeTurns_68 : decode cX2_takeTurns 68 = .ok (.goto 4, 3) := by decide +kernel
theorem dX2_takeTurns_71 : decode cX2_takeTurns 71 = .ok (.iconst 0, 1) := by decide +kernel
theorem dX2_takeTurns_72 : decode cX2_takeTurns 72 = .ok (.istore 5, 2) := by decide +kernel
theorem dX2_takeTurns_74 : decode cX2_takeTurns 74 = .ok (.aload_n 3, 1) := by decide +kernel
theorem dX2_takeTurns_75 : decode cX2_takeTurns 75 = .ok (.getfield 39, 3) := by decide +kernel
theorem dX2_takeTurns_78 : decode cX2_takeTurns 78 = .ok (.iload 6, 2) := by decide +kernel
theorem dX2_takeTurns_80 : decode cX2_takeTurns 80 = .ok (.iload 7, 2) := by decide +kernel
theorem dX2_takeTurns_82 : decode cX2_takeTurns 82 = .ok (.iastore, 1) := by decide +kernel
theorem dX2_takeTurns_83 : decode cX2_takeTurns 83 = .ok (.iinc 6 1, 3) := by decide +kernel
theorem dX2_takeTurns_86 : decode cX2_takeTurns 86 = .ok (.goto (-70), 3) := by decide +kernel
theorem dX2_takeTurns_89 : decode cX2_takeTurns 89 = .ok (.iload 5, 2) := by decide +kernel
theorem dX2_takeTurns_91 : decode cX2_takeTurns 91 = .ok (.ifCond .ne 6, 3) := by decide +kernel
theorem dX2_takeTurns_94 : decode cX2_takeTurns 94 = .ok (.iload 4, 2) := by decide +kernel
theorem dX2_takeTurns_96 : decode cX2_takeTurns 96 = .ok (.ireturn, 1) := by decide +kernel
theorem dX2_takeTurns_97 : decode cX2_takeTurns 97 = .ok (.iinc 4 1, 3) := by decide +kernel
theorem dX2_takeTurns_100 : decode cX2_takeTurns 100 = .ok (.goto (-97), 3) := by decide +kernel
theorem dX2_takeTurns_103 : decode cX2_takeTurns 103 = .ok (.ldc 70, 2) := by decide +kernel
theorem dX2_takeTurns_105 : decode cX2_takeTurns 105 = .ok (.ireturn, 1) := by decide +kernel
theorem dX3_init_0 : decode cX3_init 0 = .ok (.aload_n 0, 1) := by decide +kernel
theorem dX3_init_1 : decode cX3_init 1 = .ok (.invokespecial 1, 3) := by decide +kernel
theorem dX3_init_4 : decode cX3_init 4 = .ok (.return_, 1) := by decide +kernel
theorem dX3_look_0 : decode cX3_look 0 = .ok (.aload_n 0, 1) := by decide +kernel
theorem dX3_look_1 : decode cX3_look 1 = .ok (.aload_n 3, 1) := by decide +kernel
theorem dX3_look_2 : decode cX3_look 2 = .ok (.iload 4, 2) := by decide +kernel
theorem dX3_look_4 : decode cX3_look 4 = .ok (.invokevirtual 7, 3) := by decide +kernel
theorem dX3_look_7 : decode cX3_look 7 = .ok (.putfield 13, 3) := by decide +kernel
theorem dX3_look_10 : decode cX3_look 10 = .ok (.aload_n 0, 1) := by decide +kernel
theorem dX3_look_11 : decode cX3_look 11 = .ok (.iconst 1, 1) := by decide +kernel
theorem dX3_look_12 : decode cX3_look 12 = .ok (.aload_n 3, 1) := by decide +kernel
theorem dX3_look_13 : decode cX3_look 13 = .ok (.aload_n 0, 1) := by decide +kernel
theorem dX3_look_14 : decode cX3_look 14 = .ok (.getfield 13, 3) := by decide +kernel
theorem dX3_look_17 : decode cX3_look 17 = .ok (.iload 4, 2) := by decide +kernel
theorem dX3_look_19 : decode cX3_look 19 = .ok (.invokevirtual 18, 3) := by decide +kernel
theorem dX3_look_22 : decode cX3_look 22 = .ok (.iadd, 1) := by decide +kernel
theorem dX3_look_23 : decode cX3_look 23 = .ok (.putfield 22, 3) := by decide +kernel
theorem dX3_look_26 : decode cX3_look 26 = .ok (.aload_n 1, 1) := by decide +kernel
theorem dX3_look_27 : decode cX3_look 27 = .ok (.iload_n 2, 1) := by decide +kernel
theorem dX3_look_28 : decode cX3_look 28 = .ok (.iload 4, 2) := by decide +kernel
theorem dX3_look_30 : decode cX3_look 30 = .ok (.invokevirtual 25, 3) := by decide +kernel
theorem dX3_look_33 : decode cX3_look 33 = .ok (.aload_n 1, 1) := by decide +kernel
theorem dX3_look_34 : decode cX3_look 34 = .ok (.iload 5, 2) := by decide +kernel
theorem dX3_look_36 : decode cX3_look 36 = .ok (.aload_n 3, 1) := by decide +kernel
theorem dX3_look_37 : decode cX3_look 37 = .ok (.iload 4, 2) := by decide +kernel
theorem dX3_look_39 : decode cX3_look 39 = .ok (.invokevirtual 30, 3) := by decide +kernel
theorem dX3_look_42 : decode cX3_look 42 = .ok (.invokevirtual 33, 3) := by decide +kernel
theorem dX3_look_45 : decode cX3_look 45 = .ok (.iadd, 1) := by decide +kernel
theorem dX3_look_46 : decode cX3_look 46 = .ok (.istore 6, 2) := by decide +kernel
theorem dX3_look_48 : decode cX3_look 48 = .ok (.aload_n 1, 1) := by decide +kernel
theorem dX3_look_49 : decode cX3_look 49 = .ok (.iload 5, 2) := by decide +kernel
theorem dX3_look_51 : decode cX3_look 51 = .ok (.invokevirtual 36, 3) := by decide +kernel
theorem dX3_look_54 : decode cX3_look 54 = .ok (.istore 7, 2) := by decide +kernel
theorem dX3_look_56 : decode cX3_look 56 = .ok (.aload_n 0, 1) := by decide +kernel
theorem dX3_look_57 : decode cX3_look 57 = .ok (.iload 6, 2) := by decide +kernel
theorem dX3_look_59 : decode cX3_look 59 = .ok (.aload_n 0, 1) := by decide +kernel
theorem dX3_look_60 : decode cX3_look 60 = .ok (.getfield 22, 3) := by decide +kernel
theorem dX3_look_63 : decode cX3_look 63 = .ok (.imul, 1) := by decide +kernel
theorem dX3_look_64 : decode cX3_look 64 = .ok (.putfield 39, 3) := by decide +kernel
theorem dX3_look_67 : decode cX3_look 67 = .ok (.aload_n 0, 1) := by decide +kernel
theorem dX3_look_68 : decode cX3_look 68 = .ok (.iload 6, 2) := by decide +kernel
theorem dX3_look_70 : decode cX3_look 70 = .ok (.iload 7, 2) := by decide +kernel
theorem dX3_look_72 : decode cX3_look 72 = .ok (.aload_n 0, 1) := by decide +kernel
theorem dX3_look_73 : decode cX3_look 73 = .ok (.getfield 22, 3) := by decide +kernel
theorem dX3_look_76 : decode cX3_look 76 = .ok (.iconst 1, 1) := by decide +kernel
theorem dX3_look_77 : decode cX3_look 77 = .ok (.isub, 1) := by decide +kernel
theorem dX3_look_78 : decode cX3_look 78 = .ok (.imul, 1) := by decide +kernel
theorem dX3_look_79 : decode cX3_look 79 = .ok (.iadd, 1) := by decide +kernel
theorem dX3_look_80 : decode cX3_look 80 = .ok (.putfield 42, 3) := by decide +kernel
theorem dX3_look_83 : decode cX3_look 83 = .ok (.aload_n 0, 1) := by decide +kernel
theorem dX3_look_84 : decode cX3_look 84 = .ok (.iload 7, 2) := by decide +kernel
theorem dX3_look_86 : decode cX3_look 86 = .ok (.aload_n 0, 1) := by decide +kernel
theorem dX3_look_87 : decode cX3_look 87 = .ok (.getfield 22, 3) := by decide +kernel
theorem dX3_look_90 : decode cX3_look 90 = .ok (.imul, 1) := by decide +kernel
theorem dX3_look_91 : decode cX3_look 91 = .ok (.putfield 45, 3) := by decide +kernel
theorem dX3_look_94 : decode cX3_look 94 = .ok (.return_, 1) := by decide +kernel
theorem dX3_gainBy_0 : decode cX3_gainBy 0 = .ok (.iload_n 1, 1) := by decide +kernel
theorem dX3_gainBy_1 : decode cX3_gainBy 1 = .ok (.aload_n 0, 1) := by decide +kernel
theorem dX3_gainBy_2 : decode cX3_gainBy 2 = .ok (.getfield 13, 3) := by decide +kernel
theorem dX3_gainBy_5 : decode cX3_gainBy 5 = .ok (.if_icmp .ge 8, 3) := by decide +kernel
theorem dX3_gainBy_8 : decode cX3_gainBy 8 = .ok (.aload_n 0, 1) := by decide +kernel
theorem dX3_gainBy_9 : decode cX3_gainBy 9 = .ok (.getfield 39, 3) := by decide +kernel
theorem dX3_gainBy_12 : decode cX3_gainBy 12 = .ok (.ireturn, 1) := by decide +kernel
theorem dX3_gainBy_13 : decode cX3_gainBy 13 = .ok (.iload_n 1, 1) := by decide +kernel
theorem dX3_gainBy_14 : decode cX3_gainBy 14 = .ok (.aload_n 0, 1) := by decide +kernel
theorem dX3_gainBy_15 : decode cX3_gainBy 15 = .ok (.getfield 13, 3) := by decide +kernel
theorem dX3_gainBy_18 : decode cX3_gainBy 18 = .ok (.if_icmp .le 10, 3) := by decide +kernel
theorem dX3_gainBy_21 : decode cX3_gainBy 21 = .ok (.aload_n 0, 1) := by decide +kernel
theorem dX3_gainBy_22 : decode cX3_gainBy 22 = .ok (.getfield 45, 3) := by decide +kernel
theorem dX3_gainBy_25 : decode cX3_gainBy 25 = .ok (.goto 7, 3) := by decide +kernel
theorem dX3_gainBy_28 : decode cX3_gainBy 28 = .ok (.aload_n 0, 1) := by decide +kernel
theorem dX3_gainBy_29 : decode cX3_gainBy 29 = .ok (.getfield 42, 3) := by decide +kernel
theorem dX3_gainBy_32 : decode cX3_gainBy 32 = .ok (.ireturn, 1) := by decide +kernel
theorem dX3_bestSaying_0 : decode cX3_bestSaying 0 = .ok (.iconst 0, 1) := by decide +kernel
theorem dX3_bestSaying_1 : decode cX3_bestSaying 1 = .ok (.istore_n 1, 1) := by decide +kernel
theorem dX3_bestSaying_2 : decode cX3_bestSaying 2 = .ok (.iconst 1, 1) := by decide +kernel
theorem dX3_bestSaying_3 : decode cX3_bestSaying 3 = .ok (.istore_n 2, 1) := by decide +kernel
theorem dX3_bestSaying_4 : decode cX3_bestSaying 4 = .ok (.iload_n 2, 1) := by decide +kernel
theorem dX3_bestSaying_5 : decode cX3_bestSaying 5 = .ok (.iconst 5, 1) := by decide +kernel
theorem dX3_bestSaying_6 : decode cX3_bestSaying 6 = .ok (.if_icmp .gt 24, 3) := by decide +kernel
theorem dX3_bestSaying_9 : decode cX3_bestSaying 9 = .ok (.aload_n 0, 1) := by decide +kernel
theorem dX3_bestSaying_10 : decode cX3_bestSaying 10 = .ok (.iload_n 2, 1) := by decide +kernel
theorem dX3_bestSaying_11 : decode cX3_bestSaying 11 = .ok (.invokevirtual 48, 3) := by decide +kernel
theorem dX3_bestSaying_14 : decode cX3_bestSaying 14 = .ok (.aload_n 0, 1) := by decide +kernel
theorem dX3_bestSaying_15 : decode cX3_bestSaying 15 = .ok (.iload_n 1, 1) := by decide +kernel
theorem dX3_bestSaying_16 : decode cX3_bestSaying 16 = .ok (.invokevirtual 48, 3) := by decide +kernel
theorem dX3_bestSaying_19 : decode cX3_bestSaying 19 = .ok (.if_icmp .le 5, 3) := by decide +kernel
theorem dX3_bestSaying_22 : decode cX3_bestSaying 22 = .ok (.iload_n 2, 1) := by decide +kernel
theorem dX3_bestSaying_23 : decode cX3_bestSaying 23 = .ok (.istore_n 1, 1) := by decide +kernel
theorem dX3_bestSaying_24 : decode cX3_bestSaying 24 = .ok (.iinc 2 1, 3) := by decide +kernel
theorem dX3_bestSaying_27 : decode cX3_bestSaying 27 = .ok (.goto (-23), 3) := by decide +kernel
theorem dX3_bestSaying_30 : decode cX3_bestSaying 30 = .ok (.iload_n 1, 1) := by decide +kernel
theorem dX3_bestSaying_31 : decode cX3_bestSaying 31 = .ok (.ireturn, 1) := by decide +kernel
theorem dX4_init_0 : decode cX4_init 0 = .ok (.aload_n 0, 1) := by decide +kernel
theorem dX4_init_1 : decode cX4_init 1 = .ok (.invokespecial 3, 3) := by decide +kernel
theorem dX4_init_4 : decode cX4_init 4 = .ok (.aload_n 0, 1) := by decide +kernel
theorem dX4_init_5 : decode cX4_init 5 = .ok (.sipush 400, 3) := by decide +kernel
theorem dX4_init_8 : decode cX4_init 8 = .ok (.newarray .int, 2) := by decide +kernel
theorem dX4_init_10 : decode cX4_init 10 = .ok (.putfield 11, 3) := by decide +kernel
theorem dX4_init_13 : decode cX4_init 13 = .ok (.return_, 1) := by decide +kernel
theorem dX4_hasRoom_0 : decode cX4_hasRoom 0 = .ok (.aload_n 0, 1) := by decide +kernel
theorem dX4_hasRoom_1 : decode cX4_hasRoom 1 = .ok (.getfield 15, 3) := by decide +kernel
theorem dX4_hasRoom_4 : decode cX4_hasRoom 4 = .ok (.iload_n 1, 1) := by decide +kernel
theorem dX4_hasRoom_5 : decode cX4_hasRoom 5 = .ok (.iadd, 1) := by decide +kernel
theorem dX4_hasRoom_6 : decode cX4_hasRoom 6 = .ok (.sipush 400, 3) := by decide +kernel
theorem dX4_hasRoom_9 : decode cX4_hasRoom 9 = .ok (.if_icmp .gt 7, 3) := by decide +kernel
theorem dX4_hasRoom_12 : decode cX4_hasRoom 12 = .ok (.iconst 1, 1) := by decide +kernel
theorem dX4_hasRoom_13 : decode cX4_hasRoom 13 = .ok (.goto 4, 3) := by decide +kernel
theorem dX4_hasRoom_16 : decode cX4_hasRoom 16 = .ok (.iconst 0, 1) := by decide +kernel
theorem dX4_hasRoom_17 : decode cX4_hasRoom 17 = .ok (.ireturn, 1) := by decide +kernel
theorem dX4_append_0 : decode cX4_append 0 = .ok (.iload_n 3, 1) := by decide +kernel
theorem dX4_append_1 : decode cX4_append 1 = .ok (.iconst 1, 1) := by decide +kernel
theorem dX4_append_2 : decode cX4_append 2 = .ok (.isub, 1) := by decide +kernel
theorem dX4_append_3 : decode cX4_append 3 = .ok (.istore 4, 2) := by decide +kernel
theorem dX4_append_5 : decode cX4_append 5 = .ok (.iload 4, 2) := by decide +kernel
theorem dX4_append_7 : decode cX4_append 7 = .ok (.ifCond .lt 40, 3) := by decide +kernel
theorem dX4_append_10 : decode cX4_append 10 = .ok (.aload_n 0, 1) := by decide +kernel
theorem dX4_append_11 : decode cX4_append 11 = .ok (.getfield 11, 3) := by decide +kernel
theorem dX4_append_14 : decode cX4_append 14 = .ok (.aload_n 0, 1) := by decide +kernel
theorem dX4_append_15 : decode cX4_append 15 = .ok (.getfield 15, 3) := by decide +kernel
theorem dX4_append_18 : decode cX4_append 18 = .ok (.lload_n 1, 1) := by decide +kernel
theorem dX4_append_19 : decode cX4_append 19 = .ok (.bipush 8, 2) := by decide +kernel
theorem dX4_append_21 : decode cX4_append 21 = .ok (.iload 4, 2) := by decide +kernel
theorem dX4_append_23 : decode cX4_append 23 = .ok (.imul, 1) := by decide +kernel
theorem dX4_append_24 : decode cX4_append 24 = .ok (.lshr, 1) := by decide +kernel
theorem dX4_append_25 : decode cX4_append 25 = .ok (.l2i, 1) := by decide +kernel
theorem dX4_append_26 : decode cX4_append 26 = .ok (.sipush 255, 3) := by decide +kernel
theorem dX4_append_29 : decode cX4_append 29 = .ok (.iand, 1) := by decide +kernel
theorem dX4_append_30 : decode cX4_append 30 = .ok (.iastore, 1) := by decide +kernel
theorem dX4_append_31 : decode cX4_append 31 = .ok (.aload_n 0, 1) := by decide +kernel
theorem dX4_append_32 : decode cX4_append 32 = .ok (.dup, 1) := by decide +kernel
theorem dX4_append_33 : decode cX4_append 33 = .ok (.getfield 15, 3) := by decide +kernel
theorem dX4_append_36 : decode cX4_append 36 = .ok (.iconst 1, 1) := by decide +kernel
theorem dX4_append_37 : decode cX4_append 37 = .ok (.iadd, 1) := by decide +kernel
theorem dX4_append_38 : decode cX4_append 38 = .ok (.putfield 15, 3) := by decide +kernel
theorem dX4_append_41 : decode cX4_append 41 = .ok (.iinc 4 (-1), 3) := by decide +kernel
theorem dX4_append_44 : decode cX4_append 44 = .ok (.goto (-39), 3) := by decide +kernel
theorem dX4_append_47 : decode cX4_append 47 = .ok (.return_, 1) := by decide +kernel
theorem dX4_readsInto_0 : decode cX4_readsInto 0 = .ok (.aload_n 1, 1) := by decide +kernel
theorem dX4_readsInto_1 : decode cX4_readsInto 1 = .ok (.invokevirtual 19, 3) := by decide +kernel
theorem dX4_readsInto_4 : decode cX4_readsInto 4 = .ok (.aload_n 0, 1) := by decide +kernel
theorem dX4_readsInto_5 : decode cX4_readsInto 5 = .ok (.iconst 0, 1) := by decide +kernel
theorem dX4_readsInto_6 : decode cX4_readsInto 6 = .ok (.putfield 24, 3) := by decide +kernel
theorem dX4_readsInto_9 : decode cX4_readsInto 9 = .ok (.aload_n 0, 1) := by decide +kernel
theorem dX4_readsInto_10 : decode cX4_readsInto 10 = .ok (.iconst 0, 1) := by decide +kernel
theorem dX4_readsInto_11 : decode cX4_readsInto 11 = .ok (.putfield 27, 3) := by decide +kernel
theorem dX4_readsInto_14 : decode cX4_readsInto 14 = .ok (.aload_n 0, 1) := by decide +kernel
theorem dX4_readsInto_15 : decode cX4_readsInto 15 = .ok (.invokevirtual 30, 3) := by decide +kernel
theorem dX4_readsInto_18 : decode cX4_readsInto 18 = .ok (.aload_n 0, 1) := by decide +kernel
theorem dX4_readsInto_19 : decode cX4_readsInto 19 = .ok (.aload_n 1, 1) := by decide +kernel
theorem dX4_readsInto_20 : decode cX4_readsInto 20 = .ok (.invokevirtual 33, 3) := by decide +kernel
theorem dX4_readsInto_23 : decode cX4_readsInto 23 = .ok (.ifCond .eq 38, 3) := by decide +kernel
theorem dX4_readsInto_26 : decode cX4_readsInto 26 = .ok (.aload_n 0, 1) := by decide +kernel
theorem dX4_readsInto_27 : decode cX4_readsInto 27 = .ok (.aload_n 1, 1) := by decide +kernel
theorem dX4_readsInto_28 : decode cX4_readsInto 28 = .ok (.invokevirtual 37, 3) := by decide +kernel
theorem dX4_readsInto_31 : decode cX4_readsInto 31 = .ok (.ifCond .eq 30, 3) := by decide +kernel
theorem dX4_readsInto_34 : decode cX4_readsInto 34 = .ok (.aload_n 0, 1) := by decide +kernel
theorem dX4_readsInto_35 : decode cX4_readsInto 35 = .ok (.aload_n 1, 1) := by decide +kernel
theorem dX4_readsInto_36 : decode cX4_readsInto 36 = .ok (.invokevirtual 40, 3) := by decide +kernel
theorem dX4_readsInto_39 : decode cX4_readsInto 39 = .ok (.ifCond .eq 22, 3) := by decide +kernel
theorem dX4_readsInto_42 : decode cX4_readsInto 42 = .ok (.aload_n 0, 1) := by decide +kernel
theorem dX4_readsInto_43 : decode cX4_readsInto 43 = .ok (.getfield 43, 3) := by decide +kernel
theorem dX4_readsInto_46 : decode cX4_readsInto 46 = .ok (.ifCond .eq 11, 3) := by decide +kernel
theorem dX4_readsInto_49 : decode cX4_readsInto 49 = .ok (.aload_n 0, 1) := by decide +kernel
theorem dX4_readsInto_50 : decode cX4_readsInto 50 = .ok (.iconst 1, 1) := by decide +kernel
theorem dX4_readsInto_51 : decode cX4_readsInto 51 = .ok (.invokevirtual 46, 3) := by decide +kernel
theorem dX4_readsInto_54 : decode cX4_readsInto 54 = .ok (.ifCond .eq 7, 3) := by decide +kernel
theorem dX4_readsInto_57 : decode cX4_readsInto 57 = .ok (.iconst 1, 1) := by decide +kernel
theorem dX4_readsInto_58 : decode cX4_readsInto 58 = .ok (.goto 4, 3) := by decide +kernel
theorem dX4_readsInto_61 : decode cX4_readsInto 61 = .ok (.iconst 0, 1) := by decide +kernel
theorem dX4_readsInto_62 : decode cX4_readsInto 62 = .ok (.ireturn, 1) := by decide +kernel
theorem dX4_readsLaw_0 : decode cX4_readsLaw 0 = .ok (.aload_n 0, 1) := by decide +kernel
theorem dX4_readsLaw_1 : decode cX4_readsLaw 1 = .ok (.ldc 50, 2) := by decide +kernel
theorem dX4_readsLaw_3 : decode cX4_readsLaw 3 = .ok (.invokevirtual 52, 3) := by decide +kernel
theorem dX4_readsLaw_6 : decode cX4_readsLaw 6 = .ok (.ifCond .eq 11, 3) := by decide +kernel
theorem dX4_readsLaw_9 : decode cX4_readsLaw 9 = .ok (.aload_n 0, 1) := by decide +kernel
theorem dX4_readsLaw_10 : decode cX4_readsLaw 10 = .ok (.iconst 3, 1) := by decide +kernel
theorem dX4_readsLaw_11 : decode cX4_readsLaw 11 = .ok (.invokevirtual 56, 3) := by decide +kernel
theorem dX4_readsLaw_14 : decode cX4_readsLaw 14 = .ok (.ifCond .ne 5, 3) := by decide +kernel
theorem dX4_readsLaw_17 : decode cX4_readsLaw 17 = .ok (.iconst 0, 1) := by decide +kernel
theorem dX4_readsLaw_18 : decode cX4_readsLaw 18 = .ok (.ireturn, 1) := by decide +kernel
theorem dX4_readsLaw_19 : decode cX4_readsLaw 19 = .ok (.aload_n 1, 1) := by decide +kernel
theorem dX4_readsLaw_20 : decode cX4_readsLaw 20 = .ok (.aload_n 0, 1) := by decide +kernel
theorem dX4_readsLaw_21 : decode cX4_readsLaw 21 = .ok (.getfield 59, 3) := by decide +kernel
theorem dX4_readsLaw_24 : decode cX4_readsLaw 24 = .ok (.putfield 62, 3) := by decide +kernel
theorem dX4_readsLaw_27 : decode cX4_readsLaw 27 = .ok (.aload_n 0, 1) := by decide +kernel
theorem dX4_readsLaw_28 : decode cX4_readsLaw 28 = .ok (.bipush 20, 2) := by decide +kernel
theorem dX4_readsLaw_30 : decode cX4_readsLaw 30 = .ok (.invokevirtual 56, 3) := by decide +kernel
theorem dX4_readsLaw_33 : decode cX4_readsLaw 33 = .ok (.ifCond .ne 5, 3) := by decide +kernel
theorem dX4_readsLaw_36 : decode cX4_readsLaw 36 = .ok (.iconst 0, 1) := by decide +kernel
theorem dX4_readsLaw_37 : decode cX4_readsLaw 37 = .ok (.ireturn, 1) := by decide +kernel
theorem dX4_readsLaw_38 : decode cX4_readsLaw 38 = .ok (.aload_n 1, 1) := by decide +kernel
theorem dX4_readsLaw_39 : decode cX4_readsLaw 39 = .ok (.aload_n 0, 1) := by decide +kernel
theorem dX4_readsLaw_40 : decode cX4_readsLaw 40 = .ok (.getfield 59, 3) := by decide +kernel
theorem dX4_readsLaw_43 : decode cX4_readsLaw 43 = .ok (.putfield 65, 3) := by decide +kernel
theorem dX4_readsLaw_46 : decode cX4_readsLaw 46 = .ok (.aload_n 0, 1) := by decide +kernel
theorem dX4_readsLaw_47 : decode cX4_readsLaw 47 = .ok (.invokevirtual 68, 3) := by decide +kernel
theorem dX4_readsLaw_50 : decode cX4_readsLaw 50 = .ok (.ireturn, 1) := by decide +kernel
theorem dX4_readsPeople_0 : decode cX4_readsPeople 0 = .ok (.iconst 0, 1) := by decide +kernel
theorem dX4_readsPeople_1 : decode cX4_readsPeople 1 = .ok (.istore_n 2, 1) := by decide +kernel
theorem dX4_readsPeople_2 : decode cX4_readsPeople 2 = .ok (.iload_n 2, 1) := by decide +kernel
theorem dX4_readsPeople_3 : decode cX4_readsPeople 3 = .ok (.iconst 4, 1) := by decide +kernel
theorem dX4_readsPeople_4 : decode cX4_readsPeople 4 = .ok (.if_icmp .gt 67, 3) := by decide +kernel
theorem dX4_readsPeople_7 : decode cX4_readsPeople 7 = .ok (.iload_n 2, 1) := by decide +kernel
theorem dX4_readsPeople_8 : decode cX4_readsPeople 8 = .ok (.ifCond .eq 12, 3) := by decide +kernel
theorem dX4_readsPeople_11 : decode cX4_readsPeople 11 = .ok (.aload_n 0, 1) := by decide +kernel
theorem dX4_readsPeople_12 : decode cX4_readsPeople 12 = .ok (.ldc 72, 2) := by decide +kernel
theorem dX4_readsPeople_14 : decode cX4_readsPeople 14 = .ok (.invokevirtual 74, 3) := by decide +kernel
theorem dX4_readsPeople_17 : decode cX4_readsPeople 17 = .ok (.ifCond .eq 54, 3) := by decide +kernel
theorem dX4_readsPeople_20 : decode cX4_readsPeople 20 = .ok (.iload_n 2, 1) := by decide +kernel
theorem dX4_readsPeople_21 : decode cX4_readsPeople 21 = .ok (.iconst 4, 1) := by decide +kernel
theorem dX4_readsPeople_22 : decode cX4_readsPeople 22 = .ok (.if_icmp .ne 9, 3) := by decide +kernel
theorem dX4_readsPeople_25 : decode cX4_readsPeople 25 = .ok (.aload_n 0, 1) := by decide +kernel
theorem dX4_readsPeople_26 : decode cX4_readsPeople 26 = .ok (.iconst 3, 1) := by decide +kernel
theorem dX4_readsPeople_27 : decode cX4_readsPeople 27 = .ok (.invokevirtual 46, 3) := by decide +kernel
theorem dX4_readsPeople_30 : decode cX4_readsPeople 30 = .ok (.ireturn, 1) := by decide +kernel
theorem dX4_readsPeople_31 : decode cX4_readsPeople 31 = .ok (.aload_n 0, 1) := by decide +kernel
theorem dX4_readsPeople_32 : decode cX4_readsPeople 32 = .ok (.ldc 72, 2) := by decide +kernel
theorem dX4_readsPeople_34 : decode cX4_readsPeople 34 = .ok (.invokevirtual 52, 3) := by decide +kernel
theorem dX4_readsPeople_37 : decode cX4_readsPeople 37 = .ok (.ifCond .eq 19, 3) := by decide +kernel
theorem dX4_readsPeople_40 : decode cX4_readsPeople 40 = .ok (.aload_n 0, 1) := by decide +kernel
theorem dX4_readsPeople_41 : decode cX4_readsPeople 41 = .ok (.aload_n 1, 1) := by decide +kernel
theorem dX4_readsPeople_42 : decode cX4_readsPeople 42 = .ok (.iload_n 2, 1) := by decide +kernel
theorem dX4_readsPeople_43 : decode cX4_readsPeople 43 = .ok (.invokevirtual 77, 3) := by decide +kernel
theorem dX4_readsPeople_46 : decode cX4_readsPeople 46 = .ok (.ifCond .eq 10, 3) := by decide +kernel
theorem dX4_readsPeople_49 : decode cX4_readsPeople 49 = .ok (.aload_n 0, 1) := by decide +kernel
theorem dX4_readsPeople_50 : decode cX4_readsPeople 50 = .ok (.invokevirtual 68, 3) := by decide +kernel
theorem dX4_readsPeople_53 : decode cX4_readsPeople 53 = .ok (.ifCond .ne 5, 3) := by decide +kernel
theorem dX4_readsPeople_56 : decode cX4_readsPeople 56 = .ok (.iconst 0, 1) := by decide +kernel
theorem dX4_readsPeople_57 : decode cX4_readsPeople 57 = .ok (.ireturn, 1) := by decide +kernel
theorem dX4_readsPeople_58 : decode cX4_readsPeople 58 = .ok (.aload_n 1, 1) := by decide +kernel
theorem dX4_readsPeople_59 : decode cX4_readsPeople 59 = .ok (.iload_n 2, 1) := by decide +kernel
theorem dX4_readsPeople_60 : decode cX4_readsPeople 60 = .ok (.iconst 1, 1) := by decide +kernel
theorem dX4_readsPeople_61 : decode cX4_readsPeople 61 = .ok (.iadd, 1) := by decide +kernel
theorem dX4_readsPeople_62 : decode cX4_readsPeople 62 = .ok (.putfield 81, 3) := by decide +kernel
theorem dX4_readsPeople_65 : decode cX4_readsPeople 65 = .ok (.iinc 2 1, 3) := by decide +kernel
theorem dX4_readsPeople_68 : decode cX4_readsPeople 68 = .ok (.goto (-66), 3) := by decide +kernel
theorem dX4_readsPeople_71 : decode cX4_readsPeople 71 = .ok (.iconst 1, 1) := by decide +kernel
theorem dX4_readsPeople_72 : decode cX4_readsPeople 72 = .ok (.ireturn, 1) := by decide +kernel
theorem dX4_readsSort_0 : decode cX4_readsSort 0 = .ok (.aload_n 0, 1) := by decide +kernel
theorem dX4_readsSort_1 : decode cX4_readsSort 1 = .ok (.invokevirtual 84, 3) := by decide +kernel
theorem dX4_readsSort_4 : decode cX4_readsSort 4 = .ok (.istore_n 3, 1) := by decide +kernel
theorem dX4_readsSort_5 : decode cX4_readsSort 5 = .ok (.iload_n 3, 1) := by decide +kernel
theorem dX4_readsSort_6 : decode cX4_readsSort 6 = .ok (.ifCond .ne 9, 3) := by decide +kernel
theorem dX4_readsSort_9 : decode cX4_readsSort 9 = .ok (.aload_n 0, 1) := by decide +kernel
theorem dX4_readsSort_10 : decode cX4_readsSort 10 = .ok (.iconst 1, 1) := by decide +kernel
theorem dX4_readsSort_11 : decode cX4_readsSort 11 = .ok (.invokevirtual 46, 3) := by decide +kernel
theorem dX4_readsSort_14 : decode cX4_readsSort 14 = .ok (.ireturn, 1) := by decide +kernel
theorem dX4_readsSort_15 : decode cX4_readsSort 15 = .ok (.aload_n 1, 1) := by decide +kernel
theorem dX4_readsSort_16 : decode cX4_readsSort 16 = .ok (.getfield 88, 3) := by decide +kernel
theorem dX4_readsSort_19 : decode cX4_readsSort 19 = .ok (.iload_n 2, 1) := by decide +kernel
theorem dX4_readsSort_20 : decode cX4_readsSort 20 = .ok (.iload_n 3, 1) := by decide +kernel
theorem dX4_readsSort_21 : decode cX4_readsSort 21 = .ok (.iastore, 1) := by decide +kernel
theorem dX4_readsSort_22 : decode cX4_readsSort 22 = .ok (.aload_n 0, 1) := by decide +kernel
theorem dX4_readsSort_23 : decode cX4_readsSort 23 = .ok (.invokevirtual 30, 3) := by decide +kernel
theorem dX4_readsSort_26 : decode cX4_readsSort 26 = .ok (.iconst 1, 1) := by decide +kernel
theorem dX4_readsSort_27 : decode cX4_readsSort 27 = .ok (.ireturn, 1) := by decide +kernel
theorem dX4_readsThings_0 : decode cX4_readsThings 0 = .ok (.iconst 0, 1) := by decide +kernel
theorem dX4_readsThings_1 : decode cX4_readsThings 1 = .ok (.istore_n 2, 1) := by decide +kernel
theorem dX4_readsThings_2 : decode cX4_readsThings 2 = .ok (.iload_n 2, 1) := by decide +kernel
theorem dX4_readsThings_3 : decode cX4_readsThings 3 = .ok (.iconst 5, 1) := by decide +kernel
theorem dX4_readsThings_4 : decode cX4_readsThings 4 = .ok (.if_icmp .gt 93, 3) := by decide +kernel
theorem dX4_readsThings_7 : decode cX4_readsThings 7 = .ok (.aload_n 0, 1) := by decide +kernel
theorem dX4_readsThings_8 : decode cX4_readsThings 8 = .ok (.ldc 91, 2) := by decide +kernel
theorem dX4_readsThings_10 : decode cX4_readsThings 10 = .ok (.invokevirtual 74, 3) := by decide +kernel
theorem dX4_readsThings_13 : decode cX4_readsThings 13 = .ok (.ifCond .eq 84, 3) := by decide +kernel
theorem dX4_readsThings_16 : decode cX4_readsThings 16 = .ok (.iload_n 2, 1) := by decide +kernel
theorem dX4_readsThings_17 : decode cX4_readsThings 17 = .ok (.iconst 5, 1) := by decide +kernel
theorem dX4_readsThings_18 : decode cX4_readsThings 18 = .ok (.if_icmp .ne 9, 3) := by decide +kernel
theorem dX4_readsThings_21 : decode cX4_readsThings 21 = .ok (.aload_n 0, 1) := by decide +kernel
theorem dX4_readsThings_22 : decode cX4_readsThings 22 = .ok (.iconst 3, 1) := by decide +kernel
theorem dX4_readsThings_23 : decode cX4_readsThings 23 = .ok (.invokevirtual 46, 3) := by decide +kernel
theorem dX4_readsThings_26 : decode cX4_readsThings 26 = .ok (.ireturn, 1) := by decide +kernel
theorem dX4_readsThings_27 : decode cX4_readsThings 27 = .ok (.aload_n 0, 1) := by decide +kernel
theorem dX4_readsThings_28 : decode cX4_readsThings 28 = .ok (.invokevirtual 30, 3) := by decide +kernel
theorem dX4_readsThings_31 : decode cX4_readsThings 31 = .ok (.iconst 0, 1) := by decide +kernel
theorem dX4_readsThings_32 : decode cX4_readsThings 32 = .ok (.istore_n 3, 1) := by decide +kernel
theorem dX4_readsThings_33 : decode cX4_readsThings 33 = .ok (.iload_n 3, 1) := by decide +kernel
theorem dX4_readsThings_34 : decode cX4_readsThings 34 = .ok (.aload_n 1, 1) := by decide +kernel
theorem dX4_readsThings_35 : decode cX4_readsThings 35 = .ok (.getfield 81, 3) := by decide +kernel
theorem dX4_readsThings_38 : decode cX4_readsThings 38 = .ok (.if_icmp .ge 37, 3) := by decide +kernel
theorem dX4_readsThings_41 : decode cX4_readsThings 41 = .ok (.aload_n 0, 1) := by decide +kernel
theorem dX4_readsThings_42 : decode cX4_readsThings 42 = .ok (.bipush 60, 2) := by decide +kernel
theorem dX4_readsThings_44 : decode cX4_readsThings 44 = .ok (.invokevirtual 56, 3) := by decide +kernel
theorem dX4_readsThings_47 : decode cX4_readsThings 47 = .ok (.ifCond .ne 5, 3) := by decide +kernel
theorem dX4_readsThings_50 : decode cX4_readsThings 50 = .ok (.iconst 0, 1) := by decide +kernel
theorem dX4_readsThings_51 : decode cX4_readsThings 51 = .ok (.ireturn, 1) := by decide +kernel
theorem dX4_readsThings_52 : decode cX4_readsThings 52 = .ok (.aload_n 1, 1) := by decide +kernel
theorem dX4_readsThings_53 : decode cX4_readsThings 53 = .ok (.getfield 93, 3) := by decide +kernel
theorem dX4_readsThings_56 : decode cX4_readsThings 56 = .ok (.iload_n 2, 1) := by decide +kernel
theorem dX4_readsThings_57 : decode cX4_readsThings 57 = .ok (.iconst 4, 1) := by decide +kernel
theorem dX4_readsThings_58 : decode cX4_readsThings 58 = .ok (.imul, 1) := by decide +kernel
theorem dX4_readsThings_59 : decode cX4_readsThings 59 = .ok (.iload_n 3, 1) := by decide +kernel
theorem dX4_readsThings_60 : decode cX4_readsThings 60 = .ok (.iadd, 1) := by decide +kernel
theorem dX4_readsThings_61 : decode cX4_readsThings 61 = .ok (.aload_n 0, 1) := by decide +kernel
theorem dX4_readsThings_62 : decode cX4_readsThings 62 = .ok (.getfield 59, 3) := by decide +kernel
theorem dX4_readsThings_65 : decode cX4_readsThings 65 = .ok (.bipush 30, 2) := by decide +kernel
theorem dX4_readsThings_67 : decode cX4_readsThings 67 = .ok (.isub, 1) := by decide +kernel
theorem dX4_readsThings_68 : decode cX4_readsThings 68 = .ok (.iastore, 1) := by decide +kernel
theorem dX4_readsThings_69 : decode cX4_readsThings 69 = .ok (.iinc 3 1, 3) := by decide +kernel
theorem dX4_readsThings_72 : decode cX4_readsThings 72 = .ok (.goto (-39), 3) := by decide +kernel
theorem dX4_readsThings_75 : decode cX4_readsThings 75 = .ok (.aload_n 0, 1) := by decide +kernel
theorem dX4_readsThings_76 : decode cX4_readsThings 76 = .ok (.invokevirtual 68, 3) := by decide +kernel
theorem dX4_readsThings_79 : decode cX4_readsThings 79 = .ok (.ifCond .ne 5, 3) := by decide +kernel
theorem dX4_readsThings_82 : decode cX4_readsThings 82 = .ok (.iconst 0, 1) := by decide +kernel
theorem dX4_readsThings_83 : decode cX4_readsThings 83 = .ok (.ireturn, 1) := by decide +kernel
theorem dX4_readsThings_84 : decode cX4_readsThings 84 = .ok (.aload_n 1, 1) := by decide +kernel
theorem dX4_readsThings_85 : decode cX4_readsThings 85 = .ok (.iload_n 2, 1) := by decide +kernel
theorem dX4_readsThings_86 : decode cX4_readsThings 86 = .ok (.iconst 1, 1) := by decide +kernel
theorem dX4_readsThings_87 : decode cX4_readsThings 87 = .ok (.iadd, 1) := by decide +kernel
theorem dX4_readsThings_88 : decode cX4_readsThings 88 = .ok (.putfield 96, 3) := by decide +kernel
theorem dX4_readsThings_91 : decode cX4_readsThings 91 = .ok (.iinc 2 1, 3) := by decide +kernel
theorem dX4_readsThings_94 : decode cX4_readsThings 94 = .ok (.goto (-92), 3) := by decide +kernel
theorem dX4_readsThings_97 : decode cX4_readsThings 97 = .ok (.iconst 1, 1) := by decide +kernel
theorem dX4_readsThings_98 : decode cX4_readsThings 98 = .ok (.ireturn, 1) := by decide +kernel
theorem dX4_sortTold_0 : decode cX4_sortTold 0 = .ok (.aload_n 0, 1) := by decide +kernel
theorem dX4_sortTold_1 : decode cX4_sortTold 1 = .ok (.ldc 99, 2) := by decide +kernel
theorem dX4_sortTold_3 : decode cX4_sortTold 3 = .ok (.invokevirtual 74, 3) := by decide +kernel
theorem dX4_sortTold_6 : decode cX4_sortTold 6 = .ok (.ifCond .eq 5, 3) := by decide +kernel
theorem dX4_sortTold_9 : decode cX4_sortTold 9 = .ok (.iconst 1, 1) := by decide +kernel
theorem dX4_sortTold_10 : decode cX4_sortTold 10 = .ok (.ireturn, 1) := by decide +kernel
theorem dX4_sortTold_11 : decode cX4_sortTold 11 = .ok (.aload_n 0, 1) := by decide +kernel
theorem dX4_sortTold_12 : decode cX4_sortTold 12 = .ok (.ldc 101, 2) := by decide +kernel
theorem dX4_sortTold_14 : decode cX4_sortTold 14 = .ok (.invokevirtual 74, 3) := by decide +kernel
theorem dX4_sortTold_17 : decode cX4_sortTold 17 = .ok (.ifCond .eq 5, 3) := by decide +kernel
theorem dX4_sortTold_20 : decode cX4_sortTold 20 = .ok (.iconst 2, 1) := by decide +kernel
theorem dX4_sortTold_21 : decode cX4_sortTold 21 = .ok (.ireturn, 1) := by decide +kernel
theorem dX4_sortTold_22 : decode cX4_sortTold 22 = .ok (.aload_n 0, 1) := by decide +kernel
theorem dX4_sortTold_23 : decode cX4_sortTold 23 = .ok (.ldc 103, 2) := by decide +kernel
theorem dX4_sortTold_25 : decode cX4_sortTold 25 = .ok (.invokevirtual 74, 3) := by decide +kernel
theorem dX4_sortTold_28 : decode cX4_sortTold 28 = .ok (.ifCond .eq 5, 3) := by decide +kernel
theorem dX4_sortTold_31 : decode cX4_sortTold 31 = .ok (.iconst 3, 1) := by decide +kernel
theorem dX4_sortTold_32 : decode cX4_sortTold 32 = .ok (.ireturn, 1) := by decide +kernel
theorem dX4_sortTold_33 : decode cX4_sortTold 33 = .ok (.aload_n 0, 1) := by decide +kernel
theorem dX4_sortTold_34 : decode cX4_sortTold 34 = .ok (.ldc 105, 2) := by decide +kernel
theorem dX4_sortTold_36 : decode cX4_sortTold 36 = .ok (.invokevirtual 74, 3) := by decide +kernel
theorem dX4_sortTold_39 : decode cX4_sortTold 39 = .ok (.ifCond .eq 5, 3) := by decide +kernel
theorem dX4_sortTold_42 : decode cX4_sortTold 42 = .ok (.iconst 4, 1) := by decide +kernel
theorem dX4_sortTold_43 : decode cX4_sortTold 43 = .ok (.ireturn, 1) := by decide +kernel
theorem dX4_sortTold_44 : decode cX4_sortTold 44 = .ok (.aload_n 0, 1) := by decide +kernel
theorem dX4_sortTold_45 : decode cX4_sortTold 45 = .ok (.ldc 107, 2) := by decide +kernel
theorem dX4_sortTold_47 : decode cX4_sortTold 47 = .ok (.invokevirtual 74, 3) := by decide +kernel
theorem dX4_sortTold_50 : decode cX4_sortTold 50 = .ok (.ifCond .eq 7, 3) := by decide +kernel
theorem dX4_sortTold_53 : decode cX4_sortTold 53 = .ok (.iconst 5, 1) := by decide +kernel
theorem dX4_sortTold_54 : decode cX4_sortTold 54 = .ok (.goto 4, 3) := by decide +kernel
theorem dX4_sortTold_57 : decode cX4_sortTold 57 = .ok (.iconst 0, 1) := by decide +kernel
theorem dX4_sortTold_58 : decode cX4_sortTold 58 = .ok (.ireturn, 1) := by decide +kernel
theorem dX4_passesWord_0 : decode cX4_passesWord 0 = .ok (.aload_n 0, 1) := by decide +kernel
theorem dX4_passesWord_1 : decode cX4_passesWord 1 = .ok (.aload_n 1, 1) := by decide +kernel
theorem dX4_passesWord_2 : decode cX4_passesWord 2 = .ok (.invokevirtual 74, 3) := by decide +kernel
theorem dX4_passesWord_5 : decode cX4_passesWord 5 = .ok (.ifCond .ne 9, 3) := by decide +kernel
theorem dX4_passesWord_8 : decode cX4_passesWord 8 = .ok (.aload_n 0, 1) := by decide +kernel
theorem dX4_passesWord_9 : decode cX4_passesWord 9 = .ok (.iconst 1, 1) := by decide +kernel
theorem dX4_passesWord_10 : decode cX4_passesWord 10 = .ok (.invokevirtual 46, 3) := by decide +kernel
theorem dX4_passesWord_13 : decode cX4_passesWord 13 = .ok (.ireturn, 1) := by decide +kernel
theorem dX4_passesWord_14 : decode cX4_passesWord 14 = .ok (.aload_n 0, 1) := by decide +kernel
theorem dX4_passesWord_15 : decode cX4_passesWord 15 = .ok (.invokevirtual 30, 3) := by decide +kernel
theorem dX4_passesWord_18 : decode cX4_passesWord 18 = .ok (.iconst 1, 1) := by decide +kernel
theorem dX4_passesWord_19 : decode cX4_passesWord 19 = .ok (.ireturn, 1) := by decide +kernel
theorem dX4_passesSign_0 : decode cX4_passesSign 0 = .ok (.aload_n 0, 1) := by decide +kernel
theorem dX4_passesSign_1 : decode cX4_passesSign 1 = .ok (.getfield 43, 3) := by decide +kernel
theorem dX4_passesSign_4 : decode cX4_passesSign 4 = .ok (.iconst 3, 1) := by decide +kernel
theorem dX4_passesSign_5 : decode cX4_passesSign 5 = .ok (.if_icmp .eq 9, 3) := by decide +kernel
theorem dX4_passesSign_8 : decode cX4_passesSign 8 = .ok (.aload_n 0, 1) := by decide +kernel
theorem dX4_passesSign_9 : decode cX4_passesSign 9 = .ok (.iconst 1, 1) := by decide +kernel
theorem dX4_passesSign_10 : decode cX4_passesSign 10 = .ok (.invokevirtual 46, 3) := by decide +kernel
theorem dX4_passesSign_13 : decode cX4_passesSign 13 = .ok (.ireturn, 1) := by decide +kernel
theorem dX4_passesSign_14 : decode cX4_passesSign 14 = .ok (.aload_n 0, 1) := by decide +kernel
theorem dX4_passesSign_15 : decode cX4_passesSign 15 = .ok (.invokevirtual 30, 3) := by decide +kernel
theorem dX4_passesSign_18 : decode cX4_passesSign 18 = .ok (.iconst 1, 1) := by decide +kernel
theorem dX4_passesSign_19 : decode cX4_passesSign 19 = .ok (.ireturn, 1) := by decide +kernel
theorem dX4_passesNumber_0 : decode cX4_passesNumber 0 = .ok (.aload_n 0, 1) := by decide +kernel
theorem dX4_passesNumber_1 : decode cX4_passesNumber 1 = .ok (.getfield 43, 3) := by decide +kernel
theorem dX4_passesNumber_4 : decode cX4_passesNumber 4 = .ok (.iconst 2, 1) := by decide +kernel
theorem dX4_passesNumber_5 : decode cX4_passesNumber 5 = .ok (.if_icmp .eq 9, 3) := by decide +kernel
theorem dX4_passesNumber_8 : decode cX4_passesNumber 8 = .ok (.aload_n 0, 1) := by decide +kernel
theorem dX4_passesNumber_9 : decode cX4_passesNumber 9 = .ok (.iconst 1, 1) := by decide +kernel
theorem dX4_passesNumber_10 : decode cX4_passesNumber 10 = .ok (.invokevirtual 46, 3) := by decide +kernel
theorem dX4_passesNumber_13 : decode cX4_passesNumber 13 = .ok (.ireturn, 1) := by decide +kernel
theorem dX4_passesNumber_14 : decode cX4_passesNumber 14 = .ok (.aload_n 0, 1) := by decide +kernel
theorem dX4_passesNumber_15 : decode cX4_passesNumber 15 = .ok (.aload_n 0, 1) := by decide +kernel
theorem dX4_passesNumber_16 : decode cX4_passesNumber 16 = .ok (.invokevirtual 109, 3) := by decide +kernel
theorem dX4_passesNumber_19 : decode cX4_passesNumber 19 = .ok (.putfield 59, 3) := by decide +kernel
theorem dX4_passesNumber_22 : decode cX4_passesNumber 22 = .ok (.aload_n 0, 1) := by decide +kernel
theorem dX4_passesNumber_23 : decode cX4_passesNumber 23 = .ok (.getfield 59, 3) := by decide +kernel
theorem dX4_passesNumber_26 : decode cX4_passesNumber 26 = .ok (.iload_n 1, 1) := by decide +kernel
theorem dX4_passesNumber_27 : decode cX4_passesNumber 27 = .ok (.if_icmp .le 9, 3) := by decide +kernel
theorem dX4_passesNumber_30 : decode cX4_passesNumber 30 = .ok (.aload_n 0, 1) := by decide +kernel
theorem dX4_passesNumber_31 : decode cX4_passesNumber 31 = .ok (.iconst 2, 1) := by decide +kernel
theorem dX4_passesNumber_32 : decode cX4_passesNumber 32 = .ok (.invokevirtual 46, 3) := by decide +kernel
theorem dX4_passesNumber_35 : decode cX4_passesNumber 35 = .ok (.ireturn, 1) := by decide +kernel
theorem dX4_passesNumber_36 : decode cX4_passesNumber 36 = .ok (.aload_n 0, 1) := by decide +kernel
theorem dX4_passesNumber_37 : decode cX4_passesNumber 37 = .ok (.invokevirtual 30, 3) := by decide +kernel
theorem dX4_passesNumber_40 : decode cX4_passesNumber 40 = .ok (.iconst 1, 1) := by decide +kernel
theorem dX4_passesNumber_41 : decode cX4_passesNumber 41 = .ok (.ireturn, 1) := by decide +kernel
theorem dX4_isWrong_0 : decode cX4_isWrong 0 = .ok (.aload_n 0, 1) := by decide +kernel
theorem dX4_isWrong_1 : decode cX4_isWrong 1 = .ok (.iload_n 1, 1) := by decide +kernel
theorem dX4_isWrong_2 : decode cX4_isWrong 2 = .ok (.putfield 24, 3) := by decide +kernel
theorem dX4_isWrong_5 : decode cX4_isWrong 5 = .ok (.iconst 0, 1) := by decide +kernel
theorem dX4_isWrong_6 : decode cX4_isWrong 6 = .ok (.ireturn, 1) := by decide +kernel
theorem dX4_isWord_0 : decode cX4_isWord 0 = .ok (.aload_n 0, 1) := by decide +kernel
theorem dX4_isWord_1 : decode cX4_isWord 1 = .ok (.getfield 43, 3) := by decide +kernel
theorem dX4_isWord_4 : decode cX4_isWord 4 = .ok (.iconst 1, 1) := by decide +kernel
theorem dX4_isWord_5 : decode cX4_isWord 5 = .ok (.if_icmp .ne 19, 3) := by decide +kernel
theorem dX4_isWord_8 : decode cX4_isWord 8 = .ok (.aload_n 0, 1) := by decide +kernel
theorem dX4_isWord_9 : decode cX4_isWord 9 = .ok (.getfield 27, 3) := by decide +kernel
theorem dX4_isWord_12 : decode cX4_isWord 12 = .ok (.aload_n 0, 1) := by decide +kernel
theorem dX4_isWord_13 : decode cX4_isWord 13 = .ok (.getfield 112, 3) := by decide +kernel
theorem dX4_isWord_16 : decode cX4_isWord 16 = .ok (.isub, 1) := by decide +kernel
theorem dX4_isWord_17 : decode cX4_isWord 17 = .ok (.aload_n 1, 1) := by decide +kernel
theorem dX4_isWord_18 : decode cX4_isWord 18 = .ok (.invokevirtual 115, 3) := by decide +kernel
theorem dX4_isWord_21 : decode cX4_isWord 21 = .ok (.if_icmp .eq 5, 3) := by decide +kernel
theorem dX4_isWord_24 : decode cX4_isWord 24 = .ok (.iconst 0, 1) := by decide +kernel
theorem dX4_isWord_25 : decode cX4_isWord 25 = .ok (.ireturn, 1) := by decide +kernel
theorem dX4_isWord_26 : decode cX4_isWord 26 = .ok (.iconst 0, 1) := by decide +kernel
theorem dX4_isWord_27 : decode cX4_isWord 27 = .ok (.istore_n 2, 1) := by decide +kernel
theorem dX4_isWord_28 : decode cX4_isWord 28 = .ok (.iload_n 2, 1) := by decide +kernel
theorem dX4_isWord_29 : decode cX4_isWord 29 = .ok (.aload_n 1, 1) := by decide +kernel
theorem dX4_isWord_30 : decode cX4_isWord 30 = .ok (.invokevirtual 115, 3) := by decide +kernel
theorem dX4_isWord_33 : decode cX4_isWord 33 = .ok (.if_icmp .ge 30, 3) := by decide +kernel
theorem dX4_isWord_36 : decode cX4_isWord 36 = .ok (.aload_n 0, 1) := by decide +kernel
theorem dX4_isWord_37 : decode cX4_isWord 37 = .ok (.getfield 11, 3) := by decide +kernel
theorem dX4_isWord_40 : decode cX4_isWord 40 = .ok (.aload_n 0, 1) := by decide +kernel
theorem dX4_isWord_41 : decode cX4_isWord 41 = .ok (.getfield 112, 3) := by decide +kernel
theorem dX4_isWord_44 : decode cX4_isWord 44 = .ok (.iload_n 2, 1) := by decide +kernel
theorem dX4_isWord_45 : decode cX4_isWord 45 = .ok (.iadd, 1) := by decide +kernel
theorem dX4_isWord_46 : decode cX4_isWord 46 = .ok (.iaload, 1) := by decide +kernel
theorem dX4_isWord_47 : decode cX4_isWord 47 = .ok (.aload_n 1, 1) := by decide +kernel
theorem dX4_isWord_48 : decode cX4_isWord 48 = .ok (.iload_n 2, 1) := by decide +kernel
theorem dX4_isWord_49 : decode cX4_isWord 49 = .ok (.invokevirtual 120, 3) := by decide +kernel
theorem dX4_isWord_52 : decode cX4_isWord 52 = .ok (.if_icmp .eq 5, 3) := by decide +kernel
theorem dX4_isWord_55 : decode cX4_isWord 55 = .ok (.iconst 0, 1) := by decide +kernel
theorem dX4_isWord_56 : decode cX4_isWord 56 = .ok (.ireturn, 1) := by decide +kernel
theorem dX4_isWord_57 : decode cX4_isWord 57 = .ok (.iinc 2 1, 3) := by decide +kernel
theorem dX4_isWord_60 : decode cX4_isWord 60 = .ok (.goto (-32), 3) := by decide +kernel
theorem dX4_isWord_63 : decode cX4_isWord 63 = .ok (.iconst 1, 1) := by decide +kernel
theorem dX4_isWord_64 : decode cX4_isWord 64 = .ok (.ireturn, 1) := by decide +kernel
theorem dX4_numberTold_0 : decode cX4_numberTold 0 = .ok (.iconst 0, 1) := by decide +kernel
theorem dX4_numberTold_1 : decode cX4_numberTold 1 = .ok (.istore_n 1, 1) := by decide +kernel
theorem dX4_numberTold_2 : decode cX4_numberTold 2 = .ok (.aload_n 0, 1) := by decide +kernel
theorem dX4_numberTold_3 : decode cX4_numberTold 3 = .ok (.getfield 112, 3) := by decide +kernel
theorem dX4_numberTold_6 : decode cX4_numberTold 6 = .ok (.istore_n 2, 1) := by decide +kernel
theorem dX4_numberTold_7 : decode cX4_numberTold 7 = .ok (.iload_n 2, 1) := by decide +kernel
theorem dX4_numberTold_8 : decode cX4_numberTold 8 = .ok (.aload_n 0, 1) := by decide +kernel
theorem dX4_numberTold_9 : decode cX4_numberTold 9 = .ok (.getfield 27, 3) := by decide +kernel
theorem dX4_numberTold_12 : decode cX4_numberTold 12 = .ok (.if_icmp .ge 24, 3) := by decide +kernel
theorem dX4_numberTold_15 : decode cX4_numberTold 15 = .ok (.iload_n 1, 1) := by decide +kernel
theorem dX4_numberTold_16 : decode cX4_numberTold 16 = .ok (.bipush 10, 2) := by decide +kernel
theorem dX4_numberTold_18 : decode cX4_numberTold 18 = .ok (.imul, 1) := by decide +kernel
theorem dX4_numberTold_19 : decode cX4_numberTold 19 = .ok (.aload_n 0, 1) := by decide +kernel
theorem dX4_numberTold_20 : decode cX4_numberTold 20 = .ok (.getfield 11, 3) := by decide +kernel
theorem dX4_numberTold_23 : decode cX4_numberTold 23 = .ok (.iload_n 2, 1) := by decide +kernel
theorem dX4_numberTold_24 : decode cX4_numberTold 24 = .ok (.iaload, 1) := by decide +kernel
theorem dX4_numberTold_25 : decode cX4_numberTold 25 = .ok (.iadd, 1) := by decide +kernel
theorem dX4_numberTold_26 : decode cX4_numberTold 26 = .ok (.bipush 48, 2) := by decide +kernel
theorem dX4_numberTold_28 : decode cX4_numberTold 28 = .ok (.isub, 1) := by decide +kernel
theorem dX4_numberTold_29 : decode cX4_numberTold 29 = .ok (.istore_n 1, 1) := by decide +kernel
theorem dX4_numberTold_30 : decode cX4_numberTold 30 = .ok (.iinc 2 1, 3) := by decide +kernel
theorem dX4_numberTold_33 : decode cX4_numberTold 33 = .ok (.goto (-26), 3) := by decide +kernel
theorem dX4_numberTold_36 : decode cX4_numberTold 36 = .ok (.iload_n 1, 1) := by decide +kernel
theorem dX4_numberTold_37 : decode cX4_numberTold 37 = .ok (.ireturn, 1) := by decide +kernel
theorem dX4_step_0 : decode cX4_step 0 = .ok (.aload_n 0, 1) := by decide +kernel
theorem dX4_step_1 : decode cX4_step 1 = .ok (.aload_n 0, 1) := by decide +kernel
theorem dX4_step_2 : decode cX4_step 2 = .ok (.getfield 27, 3) := by decide +kernel
theorem dX4_step_5 : decode cX4_step 5 = .ok (.putfield 112, 3) := by decide +kernel
theorem dX4_step_8 : decode cX4_step 8 = .ok (.aload_n 0, 1) := by decide +kernel
theorem dX4_step_9 : decode cX4_step 9 = .ok (.getfield 112, 3) := by decide +kernel
theorem dX4_step_12 : decode cX4_step 12 = .ok (.aload_n 0, 1) := by decide +kernel
theorem dX4_step_13 : decode cX4_step 13 = .ok (.getfield 15, 3) := by decide +kernel
theorem dX4_step_16 : decode cX4_step 16 = .ok (.if_icmp .ge 44, 3) := by decide +kernel
theorem dX4_step_19 : decode cX4_step 19 = .ok (.aload_n 0, 1) := by decide +kernel
theorem dX4_step_20 : decode cX4_step 20 = .ok (.getfield 11, 3) := by decide +kernel
theorem dX4_step_23 : decode cX4_step 23 = .ok (.aload_n 0, 1) := by decide +kernel
theorem dX4_step_24 : decode cX4_step 24 = .ok (.getfield 112, 3) := by decide +kernel
theorem dX4_step_27 : decode cX4_step 27 = .ok (.iaload, 1) := by decide +kernel
theorem dX4_step_28 : decode cX4_step 28 = .ok (.bipush 32, 2) := by decide +kernel
theorem dX4_step_30 : decode cX4_step 30 = .ok (.if_icmp .eq 17, 3) := by decide +kernel
theorem dX4_step_33 : decode cX4_step 33 = .ok (.aload_n 0, 1) := by decide +kernel
theorem dX4_step_34 : decode cX4_step 34 = .ok (.getfield 11, 3) := by decide +kernel
theorem dX4_step_37 : decode cX4_step 37 = .ok (.aload_n 0, 1) := by decide +kernel
theorem dX4_step_38 : decode cX4_step 38 = .ok (.getfield 112, 3) := by decide +kernel
theorem dX4_step_41 : decode cX4_step 41 = .ok (.iaload, 1) := by decide +kernel
theorem dX4_step_42 : decode cX4_step 42 = .ok (.bipush 10, 2) := by decide +kernel
theorem dX4_step_44 : decode cX4_step 44 = .ok (.if_icmp .ne 16, 3) := by decide +kernel
theorem dX4_step_47 : decode cX4_step 47 = .ok (.aload_n 0, 1) := by decide +kernel
theorem dX4_step_48 : decode cX4_step 48 = .ok (.dup, 1) := by decide +kernel
theorem dX4_step_49 : decode cX4_step 49 = .ok (.getfield 112, 3) := by decide +kernel
theorem dX4_step_52 : decode cX4_step 52 = .ok (.iconst 1, 1) := by decide +kernel
theorem dX4_step_53 : decode cX4_step 53 = .ok (.iadd, 1) := by decide +kernel
theorem dX4_step_54 : decode cX4_step 54 = .ok (.putfield 112, 3) := by decide +kernel
theorem dX4_step_57 : decode cX4_step 57 = .ok (.goto (-49), 3) := by decide +kernel
theorem dX4_step_60 : decode cX4_step 60 = .ok (.aload_n 0, 1) := by decide +kernel
theorem dX4_step_61 : decode cX4_step 61 = .ok (.aload_n 0, 1) := by decide +kernel
theorem dX4_step_62 : decode cX4_step 62 = .ok (.getfield 112, 3) := by decide +kernel
theorem dX4_step_65 : decode cX4_step 65 = .ok (.putfield 27, 3) := by decide +kernel
theorem dX4_step_68 : decode cX4_step 68 = .ok (.aload_n 0, 1) := by decide +kernel
theorem dX4_step_69 : decode cX4_step 69 = .ok (.getfield 112, 3) := by decide +kernel
theorem dX4_step_72 : decode cX4_step 72 = .ok (.aload_n 0, 1) := by decide +kernel
theorem dX4_step_73 : decode cX4_step 73 = .ok (.getfield 15, 3) := by decide +kernel
theorem dX4_step_76 : decode cX4_step 76 = .ok (.if_icmp .lt 11, 3) := by decide +kernel
theorem dX4_step_79 : decode cX4_step 79 = .ok (.aload_n 0, 1) := by decide +kernel
theorem dX4_step_80 : decode cX4_step 80 = .ok (.iconst 0, 1) := by decide +kernel
theorem dX4_step_81 : decode cX4_step 81 = .ok (.putfield 43, 3) := by decide +kernel
theorem dX4_step_84 : decode cX4_step 84 = .ok (.goto 177, 3) := by decide +kernel
theorem dX4_step_87 : decode cX4_step 87 = .ok (.aload_n 0, 1) := by decide +kernel
theorem dX4_step_88 : decode cX4_step 88 = .ok (.getfield 11, 3) := by decide +kernel
theorem dX4_step_91 : decode cX4_step 91 = .ok (.aload_n 0, 1) := by decide +kernel
theorem dX4_step_92 : decode cX4_step 92 = .ok (.getfield 112, 3) := by decide +kernel
theorem dX4_step_95 : decode cX4_step 95 = .ok (.iaload, 1) := by decide +kernel
theorem dX4_step_96 : decode cX4_step 96 = .ok (.invokestatic 124, 3) := by decide +kernel
theorem dX4_step_99 : decode cX4_step 99 = .ok (.ifCond .eq 50, 3) := by decide +kernel
theorem dX4_step_102 : decode cX4_step 102 = .ok (.aload_n 0, 1) := by decide +kernel
theorem dX4_step_103 : decode cX4_step 103 = .ok (.getfield 27, 3) := by decide +kernel
theorem dX4_step_106 : decode cX4_step 106 = .ok (.aload_n 0, 1) := by decide +kernel
theorem dX4_step_107 : decode cX4_step 107 = .ok (.getfield 15, 3) := by decide +kernel
theorem dX4_step_110 : decode cX4_step 110 = .ok (.if_icmp .ge 31, 3) := by decide +kernel
theorem dX4_step_113 : decode cX4_step 113 = .ok (.aload_n 0, 1) := by decide +kernel
theorem dX4_step_114 : decode cX4_step 114 = .ok (.getfield 11, 3) := by decide +kernel
theorem dX4_step_117 : decode cX4_step 117 = .ok (.aload_n 0, 1) := by decide +kernel
theorem dX4_step_118 : decode cX4_step 118 = .ok (.getfield 27, 3) := by decide +kernel
theorem dX4_step_121 : decode cX4_step 121 = .ok (.iaload, 1) := by decide +kernel
theorem dX4_step_122 : decode cX4_step 122 = .ok (.invokestatic 124, 3) := by decide +kernel
theorem dX4_step_125 : decode cX4_step 125 = .ok (.ifCond .eq 16, 3) := by decide +kernel
theorem dX4_step_128 : decode cX4_step 128 = .ok (.aload_n 0, 1) := by decide +kernel
theorem dX4_step_129 : decode cX4_step 129 = .ok (.dup, 1) := by decide +kernel
theorem dX4_step_130 : decode cX4_step 130 = .ok (.getfield 27, 3) := by decide +kernel
theorem dX4_step_133 : decode cX4_step 133 = .ok (.iconst 1, 1) := by decide +kernel
theorem dX4_step_134 : decode cX4_step 134 = .ok (.iadd, 1) := by decide +kernel
theorem dX4_step_135 : decode cX4_step 135 = .ok (.putfield 27, 3) := by decide +kernel
theorem dX4_step_138 : decode cX4_step 138 = .ok (.goto (-36), 3) := by decide +kernel
theorem dX4_step_141 : decode cX4_step 141 = .ok (.aload_n 0, 1) := by decide +kernel
theorem dX4_step_142 : decode cX4_step 142 = .ok (.iconst 1, 1) := by decide +kernel
theorem dX4_step_143 : decode cX4_step 143 = .ok (.putfield 43, 3) := by decide +kernel
theorem dX4_step_146 : decode cX4_step 146 = .ok (.goto 115, 3) := by decide +kernel
theorem dX4_step_149 : decode cX4_step 149 = .ok (.aload_n 0, 1) := by decide +kernel
theorem dX4_step_150 : decode cX4_step 150 = .ok (.getfield 11, 3) := by decide +kernel
theorem dX4_step_153 : decode cX4_step 153 = .ok (.aload_n 0, 1) := by decide +kernel
theorem dX4_step_154 : decode cX4_step 154 = .ok (.getfield 112, 3) := by decide +kernel
theorem dX4_step_157 : decode cX4_step 157 = .ok (.iaload, 1) := by decide +kernel
theorem dX4_step_158 : decode cX4_step 158 = .ok (.invokestatic 127, 3) := by decide +kernel
theorem dX4_step_161 : decode cX4_step 161 = .ok (.ifCond .eq 67, 3) := by decide +kernel
theorem dX4_step_164 : decode cX4_step 164 = .ok (.aload_n 0, 1) := by decide +kernel
theorem dX4_step_165 : decode cX4_step 165 = .ok (.getfield 27, 3) := by decide +kernel
theorem dX4_step_168 : decode cX4_step 168 = .ok (.aload_n 0, 1) := by decide +kernel
theorem dX4_step_169 : decode cX4_step 169 = .ok (.getfield 15, 3) := by decide +kernel
theorem dX4_step_172 : decode cX4_step 172 = .ok (.if_icmp .ge 31, 3) := by decide +kernel
theorem dX4_step_175 : decode cX4_step 175 = .ok (.aload_n 0, 1) := by decide +kernel
theorem dX4_step_176 : decode cX4_step 176 = .ok (.getfield 11, 3) := by decide +kernel
theorem dX4_step_179 : decode cX4_step 179 = .ok (.aload_n 0, 1) := by decide +kernel
theorem dX4_step_180 : decode cX4_step 180 = .ok (.getfield 27, 3) := by decide +kernel
theorem dX4_step_183 : decode cX4_step 183 = .ok (.iaload, 1) := by decide +kernel
theorem dX4_step_184 : decode cX4_step 184 = .ok (.invokestatic 127, 3) := by decide +kernel
theorem dX4_step_187 : decode cX4_step 187 = .ok (.ifCond .eq 16, 3) := by decide +kernel
theorem dX4_step_190 : decode cX4_step 190 = .ok (.aload_n 0, 1) := by decide +kernel
theorem dX4_step_191 : decode cX4_step 191 = .ok (.dup, 1) := by decide +kernel
theorem dX4_step_192 : decode cX4_step 192 = .ok (.getfield 27, 3) := by decide +kernel
theorem dX4_step_195 : decode cX4_step 195 = .ok (.iconst 1, 1) := by decide +kernel
theorem dX4_step_196 : decode cX4_step 196 = .ok (.iadd, 1) := by decide +kernel
theorem dX4_step_197 : decode cX4_step 197 = .ok (.putfield 27, 3) := by decide +kernel
theorem dX4_step_200 : decode cX4_step 200 = .ok (.goto (-36), 3) := by decide +kernel
theorem dX4_step_203 : decode cX4_step 203 = .ok (.aload_n 0, 1) := by decide +kernel
theorem dX4_step_204 : decode cX4_step 204 = .ok (.aload_n 0, 1) := by decide +kernel
theorem dX4_step_205 : decode cX4_step 205 = .ok (.getfield 27, 3) := by decide +kernel
theorem dX4_step_208 : decode cX4_step 208 = .ok (.aload_n 0, 1) := by decide +kernel
theorem dX4_step_209 : decode cX4_step 209 = .ok (.getfield 112, 3) := by decide +kernel
theorem dX4_step_212 : decode cX4_step 212 = .ok (.isub, 1) := by decide +kernel
theorem dX4_step_213 : decode cX4_step 213 = .ok (.iconst 3, 1) := by decide +kernel
theorem dX4_step_214 : decode cX4_step 214 = .ok (.if_icmp .le 7, 3) := by decide +kernel
theorem dX4_step_217 : decode cX4_step 217 = .ok (.iconst 4, 1) := by decide +kernel
theorem dX4_step_218 : decode cX4_step 218 = .ok (.goto 4, 3) := by decide +kernel
theorem dX4_step_221 : decode cX4_step 221 = .ok (.iconst 2, 1) := by decide +kernel
theorem dX4_step_222 : decode cX4_step 222 = .ok (.putfield 43, 3) := by decide +kernel
theorem dX4_step_225 : decode cX4_step 225 = .ok (.goto 36, 3) := by decide +kernel
theorem dX4_step_228 : decode cX4_step 228 = .ok (.aload_n 0, 1) := by decide +kernel
theorem dX4_step_229 : decode cX4_step 229 = .ok (.dup, 1) := by decide +kernel
theorem dX4_step_230 : decode cX4_step 230 = .ok (.getfield 27, 3) := by decide +kernel
theorem dX4_step_233 : decode cX4_step 233 = .ok (.iconst 1, 1) := by decide +kernel
theorem dX4_step_234 : decode cX4_step 234 = .ok (.iadd, 1) := by decide +kernel
theorem dX4_step_235 : decode cX4_step 235 = .ok (.putfield 27, 3) := by decide +kernel
theorem dX4_step_238 : decode cX4_step 238 = .ok (.aload_n 0, 1) := by decide +kernel
theorem dX4_step_239 : decode cX4_step 239 = .ok (.aload_n 0, 1) := by decide +kernel
theorem dX4_step_240 : decode cX4_step 240 = .ok (.getfield 11, 3) := by decide +kernel
theorem dX4_step_243 : decode cX4_step 243 = .ok (.aload_n 0, 1) := by decide +kernel
theorem dX4_step_244 : decode cX4_step 244 = .ok (.getfield 112, 3) := by decide +kernel
theorem dX4_step_247 : decode cX4_step 247 = .ok (.iaload, 1) := by decide +kernel
theorem dX4_step_248 : decode cX4_step 248 = .ok (.bipush 59, 2) := by decide +kernel
theorem dX4_step_250 : decode cX4_step 250 = .ok (.if_icmp .ne 7, 3) := by decide +kernel
theorem dX4_step_253 : decode cX4_step 253 = .ok (.iconst 3, 1) := by decide +kernel
theorem dX4_step_254 : decode cX4_step 254 = .ok (.goto 4, 3) := by decide +kernel
theorem dX4_step_257 : decode cX4_step 257 = .ok (.iconst 4, 1) := by decide +kernel
theorem dX4_step_258 : decode cX4_step 258 = .ok (.putfield 43, 3) := by decide +kernel
theorem dX4_step_261 : decode cX4_step 261 = .ok (.return_, 1) := by decide +kernel
theorem dX4_isLetter_0 : decode cX4_isLetter 0 = .ok (.iload_n 0, 1) := by decide +kernel
theorem dX4_isLetter_1 : decode cX4_isLetter 1 = .ok (.bipush 97, 2) := by decide +kernel
theorem dX4_isLetter_3 : decode cX4_isLetter 3 = .ok (.if_icmp .lt 13, 3) := by decide +kernel
theorem dX4_isLetter_6 : decode cX4_isLetter 6 = .ok (.iload_n 0, 1) := by decide +kernel
theorem dX4_isLetter_7 : decode cX4_isLetter 7 = .ok (.bipush 122, 2) := by decide +kernel
theorem dX4_isLetter_9 : decode cX4_isLetter 9 = .ok (.if_icmp .gt 7, 3) := by decide +kernel
theorem dX4_isLetter_12 : decode cX4_isLetter 12 = .ok (.iconst 1, 1) := by decide +kernel
theorem dX4_isLetter_13 : decode cX4_isLetter 13 = .ok (.goto 4, 3) := by decide +kernel
theorem dX4_isLetter_16 : decode cX4_isLetter 16 = .ok (.iconst 0, 1) := by decide +kernel
theorem dX4_isLetter_17 : decode cX4_isLetter 17 = .ok (.ireturn, 1) := by decide +kernel
theorem dX4_isFigure_0 : decode cX4_isFigure 0 = .ok (.iload_n 0, 1) := by decide +kernel
theorem dX4_isFigure_1 : decode cX4_isFigure 1 = .ok (.bipush 48, 2) := by decide +kernel
theorem dX4_isFigure_3 : decode cX4_isFigure 3 = .ok (.if_icmp .lt 13, 3) := by decide +kernel
theorem dX4_isFigure_6 : decode cX4_isFigure 6 = .ok (.iload_n 0, 1) := by decide +kernel
theorem dX4_isFigure_7 : decode cX4_isFigure 7 = .ok (.bipush 57, 2) := by decide +kernel
theorem dX4_isFigure_9 : decode cX4_isFigure 9 = .ok (.if_icmp .gt 7, 3) := by decide +kernel
theorem dX4_isFigure_12 : decode cX4_isFigure 12 = .ok (.iconst 1, 1) := by decide +kernel
theorem dX4_isFigure_13 : decode cX4_isFigure 13 = .ok (.goto 4, 3) := by decide +kernel
theorem dX4_isFigure_16 : decode cX4_isFigure 16 = .ok (.iconst 0, 1) := by decide +kernel
theorem dX4_isFigure_17 : decode cX4_isFigure 17 = .ok (.ireturn, 1) := by decide +kernel
theorem dX5_init_0 : decode cX5_init 0 = .ok (.aload_n 0, 1) := by decide +kernel
theorem dX5_init_1 : decode cX5_init 1 = .ok (.invokespecial 1, 3) := by decide +kernel
theorem dX5_init_4 : decode cX5_init 4 = .ok (.aload_n 0, 1) := by decide +kernel
theorem dX5_init_5 : decode cX5_init 5 = .ok (.bipush 40, 2) := by decide +kernel
theorem dX5_init_7 : decode cX5_init 7 = .ok (.newarray .int, 2) := by decide +kernel
theorem dX5_init_9 : decode cX5_init 9 = .ok (.putfield 9, 3) := by decide +kernel
theorem dX5_init_12 : decode cX5_init 12 = .ok (.aload_n 0, 1) := by decide +kernel
theorem dX5_init_13 : decode cX5_init 13 = .ok (.iconst 1, 1) := by decide +kernel
theorem dX5_init_14 : decode cX5_init 14 = .ok (.putfield 13, 3) := by decide +kernel
theorem dX5_init_17 : decode cX5_init 17 = .ok (.return_, 1) := by decide +kernel
theorem dX5_lay_0 : decode cX5_lay 0 = .ok (.aload_n 0, 1) := by decide +kernel
theorem dX5_lay_1 : decode cX5_lay 1 = .ok (.iconst 0, 1) := by decide +kernel
theorem dX5_lay_2 : decode cX5_lay 2 = .ok (.putfield 13, 3) := by decide +kernel
theorem dX5_lay_5 : decode cX5_lay 5 = .ok (.aload_n 0, 1) := by decide +kernel
theorem dX5_lay_6 : decode cX5_lay 6 = .ok (.iload_n 1, 1) := by decide +kernel
theorem dX5_lay_7 : decode cX5_lay 7 = .ok (.putfield 17, 3) := by decide +kernel
theorem dX5_lay_10 : decode cX5_lay 10 = .ok (.aload_n 0, 1) := by decide +kernel
theorem dX5_lay_11 : decode cX5_lay 11 = .ok (.iload_n 2, 1) := by decide +kernel
theorem dX5_lay_12 : decode cX5_lay 12 = .ok (.putfield 21, 3) := by decide +kernel
theorem dX5_lay_15 : decode cX5_lay 15 = .ok (.iconst 0, 1) := by decide +kernel
theorem dX5_lay_16 : decode cX5_lay 16 = .ok (.istore_n 3, 1) := by decide +kernel
theorem dX5_lay_17 : decode cX5_lay 17 = .ok (.iload_n 3, 1) := by decide +kernel
theorem dX5_lay_18 : decode cX5_lay 18 = .ok (.bipush 40, 2) := by decide +kernel
theorem dX5_lay_20 : decode cX5_lay 20 = .ok (.if_icmp .ge 16, 3) := by decide +kernel
theorem dX5_lay_23 : decode cX5_lay 23 = .ok (.aload_n 0, 1) := by decide +kernel
theorem dX5_lay_24 : decode cX5_lay 24 = .ok (.getfield 9, 3) := by decide +kernel
theorem dX5_lay_27 : decode cX5_lay 27 = .ok (.iload_n 3, 1) := by decide +kernel
theorem dX5_lay_28 : decode cX5_lay 28 = .ok (.iconst 0, 1) := by decide +kernel
theorem dX5_lay_29 : decode cX5_lay 29 = .ok (.iastore, 1) := by decide +kernel
theorem dX5_lay_30 : decode cX5_lay 30 = .ok (.iinc 3 1, 3) := by decide +kernel
theorem dX5_lay_33 : decode cX5_lay 33 = .ok (.goto (-16), 3) := by decide +kernel
theorem dX5_lay_36 : decode cX5_lay 36 = .ok (.return_, 1) := by decide +kernel
theorem dX5_put_0 : decode cX5_put 0 = .ok (.iload_n 2, 1) := by decide +kernel
theorem dX5_put_1 : decode cX5_put 1 = .ok (.istore_n 3, 1) := by decide +kernel
theorem dX5_put_2 : decode cX5_put 2 = .ok (.aload_n 0, 1) := by decide +kernel
theorem dX5_put_3 : decode cX5_put 3 = .ok (.getfield 17, 3) := by decide +kernel
theorem dX5_put_6 : decode cX5_put 6 = .ok (.ifCond .ne 9, 3) := by decide +kernel
theorem dX5_put_9 : decode cX5_put 9 = .ok (.iload_n 2, 1) := by decide +kernel
theorem dX5_put_10 : decode cX5_put 10 = .ok (.i2b, 1) := by decide +kernel
theorem dX5_put_11 : decode cX5_put 11 = .ok (.istore_n 3, 1) := by decide +kernel
theorem dX5_put_12 : decode cX5_put 12 = .ok (.goto 14, 3) := by decide +kernel
theorem dX5_put_15 : decode cX5_put 15 = .ok (.aload_n 0, 1) := by decide +kernel
theorem dX5_put_16 : decode cX5_put 16 = .ok (.getfield 17, 3) := by decide +kernel
theorem dX5_put_19 : decode cX5_put 19 = .ok (.iconst 1, 1) := by decide +kernel
theorem dX5_put_20 : decode cX5_put 20 = .ok (.if_icmp .ne 6, 3) := by decide +kernel
theorem dX5_put_23 : decode cX5_put 23 = .ok (.iload_n 2, 1) := by decide +kernel
theorem dX5_put_24 : decode cX5_put 24 = .ok (.i2s, 1) := by decide +kernel
theorem dX5_put_25 : decode cX5_put 25 = .ok (.istore_n 3, 1) := by decide +kernel
theorem dX5_put_26 : decode cX5_put 26 = .ok (.aload_n 0, 1) := by decide +kernel
theorem dX5_put_27 : decode cX5_put 27 = .ok (.getfield 9, 3) := by decide +kernel
theorem dX5_put_30 : decode cX5_put 30 = .ok (.iload_n 1, 1) := by decide +kernel
theorem dX5_put_31 : decode cX5_put 31 = .ok (.iload_n 3, 1) := by decide +kernel
theorem dX5_put_32 : decode cX5_put 32 = .ok (.iastore, 1) := by decide +kernel
theorem dX5_put_33 : decode cX5_put 33 = .ok (.iload_n 3, 1) := by decide +kernel
theorem dX5_put_34 : decode cX5_put 34 = .ok (.ireturn, 1) := by decide +kernel
theorem dX5_has_0 : decode cX5_has 0 = .ok (.iload_n 1, 1) := by decide +kernel
theorem dX5_has_1 : decode cX5_has 1 = .ok (.ifCond .lt 21, 3) := by decide +kernel
theorem dX5_has_4 : decode cX5_has 4 = .ok (.iload_n 2, 1) := by decide +kernel
theorem dX5_has_5 : decode cX5_has 5 = .ok (.ifCond .lt 17, 3) := by decide +kernel
theorem dX5_has_8 : decode cX5_has 8 = .ok (.iload_n 1, 1) := by decide +kernel
theorem dX5_has_9 : decode cX5_has 9 = .ok (.aload_n 0, 1) := by decide +kernel
theorem dX5_has_10 : decode cX5_has 10 = .ok (.getfield 21, 3) := by decide +kernel
theorem dX5_has_13 : decode cX5_has 13 = .ok (.iload_n 2, 1) := by decide +kernel
theorem dX5_has_14 : decode cX5_has 14 = .ok (.isub, 1) := by decide +kernel
theorem dX5_has_15 : decode cX5_has 15 = .ok (.if_icmp .gt 7, 3) := by decide +kernel
theorem dX5_has_18 : decode cX5_has 18 = .ok (.iconst 1, 1) := by decide +kernel
theorem dX5_has_19 : decode cX5_has 19 = .ok (.goto 4, 3) := by decide +kernel
theorem dX5_has_22 : decode cX5_has 22 = .ok (.iconst 0, 1) := by decide +kernel
theorem dX5_has_23 : decode cX5_has 23 = .ok (.ireturn, 1) := by decide +kernel
theorem dX6_init_0 : decode cX6_init 0 = .ok (.aload_n 0, 1) := by decide +kernel
theorem dX6_init_1 : decode cX6_init 1 = .ok (.invokespecial 1, 3) := by decide +kernel
theorem dX6_init_4 : decode cX6_init 4 = .ok (.aload_n 0, 1) := by decide +kernel
theorem dX6_init_5 : decode cX6_init 5 = .ok (.iconst 4, 1) := by decide +kernel
theorem dX6_init_6 : decode cX6_init 6 = .ok (.newarray .int, 2) := by decide +kernel
theorem dX6_init_8 : decode cX6_init 8 = .ok (.putfield 9, 3) := by decide +kernel
theorem dX6_init_11 : decode cX6_init 11 = .ok (.return_, 1) := by decide +kernel
theorem dX6_sayTold_0 : decode cX6_sayTold 0 = .ok (.aload_n 0, 1) := by decide +kernel
theorem dX6_sayTold_1 : decode cX6_sayTold 1 = .ok (.iload_n 2, 1) := by decide +kernel
theorem dX6_sayTold_2 : decode cX6_sayTold 2 = .ok (.putfield 15, 3) := by decide +kernel
theorem dX6_sayTold_5 : decode cX6_sayTold 5 = .ok (.aload_n 1, 1) := by decide +kernel
theorem dX6_sayTold_6 : decode cX6_sayTold 6 = .ok (.iconst 0, 1) := by decide +kernel
theorem dX6_sayTold_7 : decode cX6_sayTold 7 = .ok (.aload_n 0, 1) := by decide +kernel
theorem dX6_sayTold_8 : decode cX6_sayTold 8 = .ok (.getfield 9, 3) := by decide +kernel
theorem dX6_sayTold_11 : decode cX6_sayTold 11 = .ok (.iconst 0, 1) := by decide +kernel
theorem dX6_sayTold_12 : decode cX6_sayTold 12 = .ok (.iload_n 2, 1) := by decide +kernel
theorem dX6_sayTold_13 : decode cX6_sayTold 13 = .ok (.invokestatic 19, 3) := by decide +kernel
theorem dX6_sayTold_16 : decode cX6_sayTold 16 = .ok (.return_, 1) := by decide +kernel
theorem dX6_sayOwn_0 : decode cX6_sayOwn 0 = .ok (.aload_n 0, 1) := by decide +kernel
theorem dX6_sayOwn_1 : decode cX6_sayOwn 1 = .ok (.aload_n 1, 1) := by decide +kernel
theorem dX6_sayOwn_2 : decode cX6_sayOwn 2 = .ok (.getfield 25, 3) := by decide +kernel
theorem dX6_sayOwn_5 : decode cX6_sayOwn 5 = .ok (.putfield 15, 3) := by decide +kernel
theorem dX6_sayOwn_8 : decode cX6_sayOwn 8 = .ok (.iconst 0, 1) := by decide +kernel
theorem dX6_sayOwn_9 : decode cX6_sayOwn 9 = .ok (.istore_n 3, 1) := by decide +kernel
theorem dX6_sayOwn_10 : decode cX6_sayOwn 10 = .ok (.iload_n 3, 1) := by decide +kernel
theorem dX6_sayOwn_11 : decode cX6_sayOwn 11 = .ok (.aload_n 0, 1) := by decide +kernel
theorem dX6_sayOwn_12 : decode cX6_sayOwn 12 = .ok (.getfield 15, 3) := by decide +kernel
theorem dX6_sayOwn_15 : decode cX6_sayOwn 15 = .ok (.if_icmp .ge 21, 3) := by decide +kernel
theorem dX6_sayOwn_18 : decode cX6_sayOwn 18 = .ok (.aload_n 0, 1) := by decide +kernel
theorem dX6_sayOwn_19 : decode cX6_sayOwn 19 = .ok (.getfield 9, 3) := by decide +kernel
theorem dX6_sayOwn_22 : decode cX6_sayOwn 22 = .ok (.iload_n 3, 1) := by decide +kernel
theorem dX6_sayOwn_23 : decode cX6_sayOwn 23 = .ok (.aload_n 1, 1) := by decide +kernel
theorem dX6_sayOwn_24 : decode cX6_sayOwn 24 = .ok (.iload_n 2, 1) := by decide +kernel
theorem dX6_sayOwn_25 : decode cX6_sayOwn 25 = .ok (.iload_n 3, 1) := by decide +kernel
theorem dX6_sayOwn_26 : decode cX6_sayOwn 26 = .ok (.invokevirtual 26, 3) := by decide +kernel
theorem dX6_sayOwn_29 : decode cX6_sayOwn 29 = .ok (.iastore, 1) := by decide +kernel
theorem dX6_sayOwn_30 : decode cX6_sayOwn 30 = .ok (.iinc 3 1, 3) := by decide +kernel
theorem dX6_sayOwn_33 : decode cX6_sayOwn 33 = .ok (.goto (-23), 3) := by decide +kernel
theorem dX6_sayOwn_36 : decode cX6_sayOwn 36 = .ok (.return_, 1) := by decide +kernel
theorem dX6_lowest_0 : decode cX6_lowest 0 = .ok (.bipush 6, 2) := by decide +kernel
theorem dX6_lowest_2 : decode cX6_lowest 2 = .ok (.istore_n 2, 1) := by decide +kernel
theorem dX6_lowest_3 : decode cX6_lowest 3 = .ok (.iconst 0, 1) := by decide +kernel
theorem dX6_lowest_4 : decode cX6_lowest 4 = .ok (.istore_n 3, 1) := by decide +kernel
theorem dX6_lowest_5 : decode cX6_lowest 5 = .ok (.iload_n 3, 1) := by decide +kernel
theorem dX6_lowest_6 : decode cX6_lowest 6 = .ok (.aload_n 0, 1) := by decide +kernel
theorem dX6_lowest_7 : decode cX6_lowest 7 = .ok (.getfield 15, 3) := by decide +kernel
theorem dX6_lowest_10 : decode cX6_lowest 10 = .ok (.if_icmp .ge 31, 3) := by decide +kernel
theorem dX6_lowest_13 : decode cX6_lowest 13 = .ok (.iload_n 3, 1) := by decide +kernel
theorem dX6_lowest_14 : decode cX6_lowest 14 = .ok (.iload_n 1, 1) := by decide +kernel
theorem dX6_lowest_15 : decode cX6_lowest 15 = .ok (.if_icmp .eq 20, 3) := by decide +kernel
theorem dX6_lowest_18 : decode cX6_lowest 18 = .ok (.aload_n 0, 1) := by decide +kernel
theorem dX6_lowest_19 : decode cX6_lowest 19 = .ok (.getfield 9, 3) := by decide +kernel
theorem dX6_lowest_22 : decode cX6_lowest 22 = .ok (.iload_n 3, 1) := by decide +kernel
theorem dX6_lowest_23 : decode cX6_lowest 23 = .ok (.iaload, 1) := by decide +kernel
theorem dX6_lowest_24 : decode cX6_lowest 24 = .ok (.iload_n 2, 1) := by decide +kernel
theorem dX6_lowest_25 : decode cX6_lowest 25 = .ok (.if_icmp .ge 10, 3) := by decide +kernel
theorem dX6_lowest_28 : decode cX6_lowest 28 = .ok (.aload_n 0, 1) := by decide +kernel
theorem dX6_lowest_29 : decode cX6_lowest 29 = .ok (.getfield 9, 3) := by decide +kernel
theorem dX6_lowest_32 : decode cX6_lowest 32 = .ok (.iload_n 3, 1) := by decide +kernel
theorem dX6_lowest_33 : decode cX6_lowest 33 = .ok (.iaload, 1) := by decide +kernel
theorem dX6_lowest_34 : decode cX6_lowest 34 = .ok (.istore_n 2, 1) := by decide +kernel
theorem dX6_lowest_35 : decode cX6_lowest 35 = .ok (.iinc 3 1, 3) := by decide +kernel
theorem dX6_lowest_38 : decode cX6_lowest 38 = .ok (.goto (-33), 3) := by decide +kernel
theorem dX6_lowest_41 : decode cX6_lowest 41 = .ok (.iload_n 2, 1) := by decide +kernel
theorem dX6_lowest_42 : decode cX6_lowest 42 = .ok (.ireturn, 1) := by decide +kernel
theorem dX6_manyAt_0 : decode cX6_manyAt 0 = .ok (.iconst 0, 1) := by decide +kernel
theorem dX6_manyAt_1 : decode cX6_manyAt 1 = .ok (.istore_n 3, 1) := by decide +kernel
theorem dX6_manyAt_2 : decode cX6_manyAt 2 = .ok (.iconst 0, 1) := by decide +kernel
theorem dX6_manyAt_3 : decode cX6_manyAt 3 = .ok (.istore 4, 2) := by decide +kernel
theorem dX6_manyAt_5 : decode cX6_manyAt 5 = .ok (.iload 4, 2) := by decide +kernel
theorem dX6_manyAt_7 : decode cX6_manyAt 7 = .ok (.aload_n 0, 1) := by decide +kernel
theorem dX6_manyAt_8 : decode cX6_manyAt 8 = .ok (.getfield 15, 3) := by decide +kernel
theorem dX6_manyAt_11 : decode cX6_manyAt 11 = .ok (.if_icmp .ge 29, 3) := by decide +kernel
theorem dX6_manyAt_14 : decode cX6_manyAt 14 = .ok (.iload 4, 2) := by decide +kernel
theorem dX6_manyAt_16 : decode cX6_manyAt 16 = .ok (.iload_n 2, 1) := by decide +kernel
theorem dX6_manyAt_17 : decode cX6_manyAt 17 = .ok (.if_icmp .eq 17, 3) := by decide +kernel
theorem dX6_manyAt_20 : decode cX6_manyAt 20 = .ok (.aload_n 0, 1) := by decide +kernel
theorem dX6_manyAt_21 : decode cX6_manyAt 21 = .ok (.getfield 9, 3) := by decide +kernel
theorem dX6_manyAt_24 : decode cX6_manyAt 24 = .ok (.iload 4, 2) := by decide +kernel
theorem dX6_manyAt_26 : decode cX6_manyAt 26 = .ok (.iaload, 1) := by decide +kernel
theorem dX6_manyAt_27 : decode cX6_manyAt 27 = .ok (.iload_n 1, 1) := by decide +kernel
theorem dX6_manyAt_28 : decode cX6_manyAt 28 = .ok (.if_icmp .ne 6, 3) := by decide +kernel
theorem dX6_manyAt_31 : decode cX6_manyAt 31 = .ok (.iinc 3 1, 3) := by decide +kernel
theorem dX6_manyAt_34 : decode cX6_manyAt 34 = .ok (.iinc 4 1, 3) := by decide +kernel
theorem dX6_manyAt_37 : decode cX6_manyAt 37 = .ok (.goto (-32), 3) := by decide +kernel
theorem dX6_manyAt_40 : decode cX6_manyAt 40 = .ok (.iload_n 3, 1) := by decide +kernel
theorem dX6_manyAt_41 : decode cX6_manyAt 41 = .ok (.ireturn, 1) := by decide +kernel
theorem dX6_sayer_0 : decode cX6_sayer 0 = .ok (.iconst 0, 1) := by decide +kernel
theorem dX6_sayer_1 : decode cX6_sayer 1 = .ok (.istore_n 3, 1) := by decide +kernel
theorem dX6_sayer_2 : decode cX6_sayer 2 = .ok (.iconst 0, 1) := by decide +kernel
theorem dX6_sayer_3 : decode cX6_sayer 3 = .ok (.istore 4, 2) := by decide +kernel
theorem dX6_sayer_5 : decode cX6_sayer 5 = .ok (.iload 4, 2) := by decide +kernel
theorem dX6_sayer_7 : decode cX6_sayer 7 = .ok (.aload_n 0, 1) := by decide +kernel
theorem dX6_sayer_8 : decode cX6_sayer 8 = .ok (.getfield 15, 3) := by decide +kernel
theorem dX6_sayer_11 : decode cX6_sayer 11 = .ok (.if_icmp .ge 31, 3) := by decide +kernel
theorem dX6_sayer_14 : decode cX6_sayer 14 = .ok (.aload_n 0, 1) := by decide +kernel
theorem dX6_sayer_15 : decode cX6_sayer 15 = .ok (.getfield 9, 3) := by decide +kernel
theorem dX6_sayer_18 : decode cX6_sayer 18 = .ok (.iload 4, 2) := by decide +kernel
theorem dX6_sayer_20 : decode cX6_sayer 20 = .ok (.iaload, 1) := by decide +kernel
theorem dX6_sayer_21 : decode cX6_sayer 21 = .ok (.iload_n 1, 1) := by decide +kernel
theorem dX6_sayer_22 : decode cX6_sayer 22 = .ok (.if_icmp .ne 14, 3) := by decide +kernel
theorem dX6_sayer_25 : decode cX6_sayer 25 = .ok (.iload_n 3, 1) := by decide +kernel
theorem dX6_sayer_26 : decode cX6_sayer 26 = .ok (.iload_n 2, 1) := by decide +kernel
theorem dX6_sayer_27 : decode cX6_sayer 27 = .ok (.if_icmp .ne 6, 3) := by decide +kernel
theorem dX6_sayer_30 : decode cX6_sayer 30 = .ok (.iload 4, 2) := by decide +kernel
theorem dX6_sayer_32 : decode cX6_sayer 32 = .ok (.ireturn, 1) := by decide +kernel
theorem dX6_sayer_33 : decode cX6_sayer 33 = .ok (.iinc 3 1, 3) := by decide +kernel
theorem dX6_sayer_36 : decode cX6_sayer 36 = .ok (.iinc 4 1, 3) := by decide +kernel
theorem dX6_sayer_39 : decode cX6_sayer 39 = .ok (.goto (-34), 3) := by decide +kernel
theorem dX6_sayer_42 : decode cX6_sayer 42 = .ok (.iconst 0, 1) := by decide +kernel
theorem dX6_sayer_43 : decode cX6_sayer 43 = .ok (.ireturn, 1) := by decide +kernel
theorem dX6_next_0 : decode cX6_next 0 = .ok (.aload_n 0, 1) := by decide +kernel
theorem dX6_next_1 : decode cX6_next 1 = .ok (.getfield 15, 3) := by decide +kernel
theorem dX6_next_4 : decode cX6_next 4 = .ok (.iconst 1, 1) := by decide +kernel
theorem dX6_next_5 : decode cX6_next 5 = .ok (.if_icmp .le 11, 3) := by decide +kernel
theorem dX6_next_8 : decode cX6_next 8 = .ok (.aload_n 0, 1) := by decide +kernel
theorem dX6_next_9 : decode cX6_next 9 = .ok (.iload_n 1, 1) := by decide +kernel
theorem dX6_next_10 : decode cX6_next 10 = .ok (.invokevirtual 30, 3) := by decide +kernel
theorem dX6_next_13 : decode cX6_next 13 = .ok (.goto 4, 3) := by decide +kernel
theorem dX6_next_16 : decode cX6_next 16 = .ok (.iconst 0, 1) := by decide +kernel
theorem dX6_next_17 : decode cX6_next 17 = .ok (.ireturn, 1) := by decide +kernel
theorem dX7_init_0 : decode cX7_init 0 = .ok (.aload_n 0, 1) := by decide +kernel
theorem dX7_init_1 : decode cX7_init 1 = .ok (.invokespecial 3, 3) := by decide +kernel
theorem dX7_init_4 : decode cX7_init 4 = .ok (.aload_n 0, 1) := by decide +kernel
theorem dX7_init_5 : decode cX7_init 5 = .ok (.iconst 4, 1) := by decide +kernel
theorem dX7_init_6 : decode cX7_init 6 = .ok (.newarray .int, 2) := by decide +kernel
theorem dX7_init_8 : decode cX7_init 8 = .ok (.putfield 11, 3) := by decide +kernel
theorem dX7_init_11 : decode cX7_init 11 = .ok (.aload_n 0, 1) := by decide +kernel
theorem dX7_init_12 : decode cX7_init 12 = .ok (.iconst 4, 1) := by decide +kernel
theorem dX7_init_13 : decode cX7_init 13 = .ok (.newarray .int, 2) := by decide +kernel
theorem dX7_init_15 : decode cX7_init 15 = .ok (.putfield 15, 3) := by decide +kernel
theorem dX7_init_18 : decode cX7_init 18 = .ok (.aload_n 0, 1) := by decide +kernel
theorem dX7_init_19 : decode cX7_init 19 = .ok (.bipush 20, 2) := by decide +kernel
theorem dX7_init_21 : decode cX7_init 21 = .ok (.newarray .int, 2) := by decide +kernel
theorem dX7_init_23 : decode cX7_init 23 = .ok (.putfield 18, 3) := by decide +kernel
theorem dX7_init_26 : decode cX7_init 26 = .ok (.aload_n 0, 1) := by decide +kernel
theorem dX7_init_27 : decode cX7_init 27 = .ok (.iconst 5, 1) := by decide +kernel
theorem dX7_init_28 : decode cX7_init 28 = .ok (.newarray .int, 2) := by decide +kernel
theorem dX7_init_30 : decode cX7_init 30 = .ok (.putfield 21, 3) := by decide +kernel
theorem dX7_init_33 : decode cX7_init 33 = .ok (.aload_n 0, 1) := by decide +kernel
theorem dX7_init_34 : decode cX7_init 34 = .ok (.iconst 5, 1) := by decide +kernel
theorem dX7_init_35 : decode cX7_init 35 = .ok (.newarray .int, 2) := by decide +kernel
theorem dX7_init_37 : decode cX7_init 37 = .ok (.putfield 24, 3) := by decide +kernel
theorem dX7_init_40 : decode cX7_init 40 = .ok (.return_, 1) := by decide +kernel
theorem dX7_becomeEmpty_0 : decode cX7_becomeEmpty 0 = .ok (.aload_n 0, 1) := by decide +kernel
theorem dX7_becomeEmpty_1 : decode cX7_becomeEmpty 1 = .ok (.iconst 0, 1) := by decide +kernel
theorem dX7_becomeEmpty_2 : decode cX7_becomeEmpty 2 = .ok (.putfield 27, 3) := by decide +kernel
theorem dX7_becomeEmpty_5 : decode cX7_becomeEmpty 5 = .ok (.aload_n 0, 1) := by decide +kernel
theorem dX7_becomeEmpty_6 : decode cX7_becomeEmpty 6 = .ok (.iconst 0, 1) := by decide +kernel
theorem dX7_becomeEmpty_7 : decode cX7_becomeEmpty 7 = .ok (.putfield 31, 3) := by decide +kernel
theorem dX7_becomeEmpty_10 : decode cX7_becomeEmpty 10 = .ok (.aload_n 0, 1) := by decide +kernel
theorem dX7_becomeEmpty_11 : decode cX7_becomeEmpty 11 = .ok (.iconst 0, 1) := by decide +kernel
theorem dX7_becomeEmpty_12 : decode cX7_becomeEmpty 12 = .ok (.putfield 34, 3) := by decide +kernel
theorem dX7_becomeEmpty_15 : decode cX7_becomeEmpty 15 = .ok (.aload_n 0, 1) := by decide +kernel
theorem dX7_becomeEmpty_16 : decode cX7_becomeEmpty 16 = .ok (.iconst 0, 1) := by decide +kernel
theorem dX7_becomeEmpty_17 : decode cX7_becomeEmpty 17 = .ok (.putfield 37, 3) := by decide +kernel
theorem dX7_becomeEmpty_20 : decode cX7_becomeEmpty 20 = .ok (.iconst 0, 1) := by decide +kernel
theorem dX7_becomeEmpty_21 : decode cX7_becomeEmpty 21 = .ok (.istore_n 1, 1) := by decide +kernel
theorem dX7_becomeEmpty_22 : decode cX7_becomeEmpty 22 = .ok (.iload_n 1, 1) := by decide +kernel
theorem dX7_becomeEmpty_23 : decode cX7_becomeEmpty 23 = .ok (.iconst 4, 1) := by decide +kernel
theorem dX7_becomeEmpty_24 : decode cX7_becomeEmpty 24 = .ok (.if_icmp .ge 16, 3) := by decide +kernel
theorem dX7_becomeEmpty_27 : decode cX7_becomeEmpty 27 = .ok (.aload_n 0, 1) := by decide +kernel
theorem dX7_becomeEmpty_28 : decode cX7_becomeEmpty 28 = .ok (.getfield 15, 3) := by decide +kernel
theorem dX7_becomeEmpty_31 : decode cX7_becomeEmpty 31 = .ok (.iload_n 1, 1) := by decide +kernel
theorem dX7_becomeEmpty_32 : decode cX7_becomeEmpty 32 = .ok (.iconst 0, 1) := by decide +kernel
theorem dX7_becomeEmpty_33 : decode cX7_becomeEmpty 33 = .ok (.iastore, 1) := by decide +kernel
theorem dX7_becomeEmpty_34 : decode cX7_becomeEmpty 34 = .ok (.iinc 1 1, 3) := by decide +kernel
theorem dX7_becomeEmpty_37 : decode cX7_becomeEmpty 37 = .ok (.goto (-15), 3) := by decide +kernel
theorem dX7_becomeEmpty_40 : decode cX7_becomeEmpty 40 = .ok (.iconst 0, 1) := by decide +kernel
theorem dX7_becomeEmpty_41 : decode cX7_becomeEmpty 41 = .ok (.istore_n 1, 1) := by decide +kernel
theorem dX7_becomeEmpty_42 : decode cX7_becomeEmpty 42 = .ok (.iload_n 1, 1) := by decide +kernel
theorem dX7_becomeEmpty_43 : decode cX7_becomeEmpty 43 = .ok (.iconst 5, 1) := by decide +kernel
theorem dX7_becomeEmpty_44 : decode cX7_becomeEmpty 44 = .ok (.if_icmp .ge 24, 3) := by decide +kernel
theorem dX7_becomeEmpty_47 : decode cX7_becomeEmpty 47 = .ok (.aload_n 0, 1) := by decide +kernel
theorem dX7_becomeEmpty_48 : decode cX7_becomeEmpty 48 = .ok (.getfield 21, 3) := by decide +kernel
theorem dX7_becomeEmpty_51 : decode cX7_becomeEmpty 51 = .ok (.iload_n 1, 1) := by decide +kernel
theorem dX7_becomeEmpty_52 : decode cX7_becomeEmpty 52 = .ok (.ldc 40, 2) := by decide +kernel
theorem dX7_becomeEmpty_54 : decode cX7_becomeEmpty 54 = .ok (.iastore, 1) := by decide +kernel
theorem dX7_becomeEmpty_55 : decode cX7_becomeEmpty 55 = .ok (.aload_n 0, 1) := by decide +kernel
theorem dX7_becomeEmpty_56 : decode cX7_becomeEmpty 56 = .ok (.getfield 24, 3) := by decide +kernel
theorem dX7_becomeEmpty_59 : decode cX7_becomeEmpty 59 = .ok (.iload_n 1, 1) := by decide +kernel
theorem dX7_becomeEmpty_60 : decode cX7_becomeEmpty 60 = .ok (.iconst 0, 1) := by decide +kernel
theorem dX7_becomeEmpty_61 : decode cX7_becomeEmpty 61 = .ok (.iastore, 1) := by decide +kernel
theorem dX7_becomeEmpty_62 : decode cX7_becomeEmpty 62 = .ok (.iinc 1 1, 3) := by decide +kernel
theorem dX7_becomeEmpty_65 : decode cX7_becomeEmpty 65 = .ok (.goto (-23), 3) := by decide +kernel
theorem dX7_becomeEmpty_68 : decode cX7_becomeEmpty 68 = .ok (.return_, 1) := by decide +kernel
theorem dX7_becomeLike_0 : decode cX7_becomeLike 0 = .ok (.aload_n 0, 1) := by decide +kernel
theorem dX7_becomeLike_1 : decode cX7_becomeLike 1 = .ok (.aload_n 1, 1) := by decide +kernel
theorem dX7_becomeLike_2 : decode cX7_becomeLike 2 = .ok (.getfield 27, 3) := by decide +kernel
theorem dX7_becomeLike_5 : decode cX7_becomeLike 5 = .ok (.putfield 27, 3) := by decide +kernel
theorem dX7_becomeLike_8 : decode cX7_becomeLike 8 = .ok (.aload_n 0, 1) := by decide +kernel
theorem dX7_becomeLike_9 : decode cX7_becomeLike 9 = .ok (.aload_n 1, 1) := by decide +kernel
theorem dX7_becomeLike_10 : decode cX7_becomeLike 10 = .ok (.getfield 31, 3) := by decide +kernel
theorem dX7_becomeLike_13 : decode cX7_becomeLike 13 = .ok (.putfield 31, 3) := by decide +kernel
theorem dX7_becomeLike_16 : decode cX7_becomeLike 16 = .ok (.aload_n 0, 1) := by decide +kernel
theorem dX7_becomeLike_17 : decode cX7_becomeLike 17 = .ok (.aload_n 1, 1) := by decide +kernel
theorem dX7_becomeLike_18 : decode cX7_becomeLike 18 = .ok (.getfield 34, 3) := by decide +kernel
theorem dX7_becomeLike_21 : decode cX7_becomeLike 21 = .ok (.putfield 34, 3) := by decide +kernel
theorem dX7_becomeLike_24 : decode cX7_becomeLike 24 = .ok (.aload_n 0, 1) := by decide +kernel
theorem dX7_becomeLike_25 : decode cX7_becomeLike 25 = .ok (.aload_n 1, 1) := by decide +kernel
theorem dX7_becomeLike_26 : decode cX7_becomeLike 26 = .ok (.getfield 37, 3) := by decide +kernel
theorem dX7_becomeLike_29 : decode cX7_becomeLike 29 = .ok (.putfield 37, 3) := by decide +kernel
theorem dX7_becomeLike_32 : decode cX7_becomeLike 32 = .ok (.aload_n 1, 1) := by decide +kernel
theorem dX7_becomeLike_33 : decode cX7_becomeLike 33 = .ok (.getfield 11, 3) := by decide +kernel
theorem dX7_becomeLike_36 : decode cX7_becomeLike 36 = .ok (.iconst 0, 1) := by decide +kernel
theorem dX7_becomeLike_37 : decode cX7_becomeLike 37 = .ok (.aload_n 0, 1) := by decide +kernel
theorem dX7_becomeLike_38 : decode cX7_becomeLike 38 = .ok (.getfield 11, 3) := by decide +kernel
theorem dX7_becomeLike_41 : decode cX7_becomeLike 41 = .ok (.iconst 0, 1) := by decide +kernel
theorem dX7_becomeLike_42 : decode cX7_becomeLike 42 = .ok (.iconst 4, 1) := by decide +kernel
theorem dX7_becomeLike_43 : decode cX7_becomeLike 43 = .ok (.invokestatic 41, 3) := by decide +kernel
theorem dX7_becomeLike_46 : decode cX7_becomeLike 46 = .ok (.aload_n 1, 1) := by decide +kernel
theorem dX7_becomeLike_47 : decode cX7_becomeLike 47 = .ok (.getfield 15, 3) := by decide +kernel
theorem dX7_becomeLike_50 : decode cX7_becomeLike 50 = .ok (.iconst 0, 1) := by decide +kernel
theorem dX7_becomeLike_51 : decode cX7_becomeLike 51 = .ok (.aload_n 0, 1) := by decide +kernel
theorem dX7_becomeLike_52 : decode cX7_becomeLike 52 = .ok (.getfield 15, 3) := by decide +kernel
theorem dX7_becomeLike_55 : decode cX7_becomeLike 55 = .ok (.iconst 0, 1) := by decide +kernel
theorem dX7_becomeLike_56 : decode cX7_becomeLike 56 = .ok (.iconst 4, 1) := by decide +kernel
theorem dX7_becomeLike_57 : decode cX7_becomeLike 57 = .ok (.invokestatic 41, 3) := by decide +kernel
theorem dX7_becomeLike_60 : decode cX7_becomeLike 60 = .ok (.aload_n 1, 1) := by decide +kernel
theorem dX7_becomeLike_61 : decode cX7_becomeLike 61 = .ok (.getfield 18, 3) := by decide +kernel
theorem dX7_becomeLike_64 : decode cX7_becomeLike 64 = .ok (.iconst 0, 1) := by decide +kernel
theorem dX7_becomeLike_65 : decode cX7_becomeLike 65 = .ok (.aload_n 0, 1) := by decide +kernel
theorem dX7_becomeLike_66 : decode cX7_becomeLike 66 = .ok (.getfield 18, 3) := by decide +kernel
theorem dX7_becomeLike_69 : decode cX7_becomeLike 69 = .ok (.iconst 0, 1) := by decide +kernel
theorem dX7_becomeLike_70 : decode cX7_becomeLike 70 = .ok (.bipush 20, 2) := by decide +kernel
theorem dX7_becomeLike_72 : decode cX7_becomeLike 72 = .ok (.invokestatic 41, 3) := by decide +kernel
theorem dX7_becomeLike_75 : decode cX7_becomeLike 75 = .ok (.aload_n 1, 1) := by decide +kernel
theorem dX7_becomeLike_76 : decode cX7_becomeLike 76 = .ok (.getfield 21, 3) := by decide +kernel
theorem dX7_becomeLike_79 : decode cX7_becomeLike 79 = .ok (.iconst 0, 1) := by decide +kernel
theorem dX7_becomeLike_80 : decode cX7_becomeLike 80 = .ok (.aload_n 0, 1) := by decide +kernel
theorem dX7_becomeLike_81 : decode cX7_becomeLike 81 = .ok (.getfield 21, 3) := by decide +kernel
theorem dX7_becomeLike_84 : decode cX7_becomeLike 84 = .ok (.iconst 0, 1) := by decide +kernel
theorem dX7_becomeLike_85 : decode cX7_becomeLike 85 = .ok (.iconst 5, 1) := by decide +kernel
theorem dX7_becomeLike_86 : decode cX7_becomeLike 86 = .ok (.invokestatic 41, 3) := by decide +kernel
theorem dX7_becomeLike_89 : decode cX7_becomeLike 89 = .ok (.aload_n 1, 1) := by decide +kernel
theorem dX7_becomeLike_90 : decode cX7_becomeLike 90 = .ok (.getfield 24, 3) := by decide +kernel
theorem dX7_becomeLike_93 : decode cX7_becomeLike 93 = .ok (.iconst 0, 1) := by decide +kernel
theorem dX7_becomeLike_94 : decode cX7_becomeLike 94 = .ok (.aload_n 0, 1) := by decide +kernel
theorem dX7_becomeLike_95 : decode cX7_becomeLike 95 = .ok (.getfield 24, 3) := by decide +kernel
theorem dX7_becomeLike_98 : decode cX7_becomeLike 98 = .ok (.iconst 0, 1) := by decide +kernel
theorem dX7_becomeLike_99 : decode cX7_becomeLike 99 = .ok (.iconst 5, 1) := by decide +kernel
theorem dX7_becomeLike_100 : decode cX7_becomeLike 100 = .ok (.invokestatic 41, 3) := by decide +kernel
theorem dX7_becomeLike_103 : decode cX7_becomeLike 103 = .ok (.return_, 1) := by decide +kernel
theorem dX7_worthOf_0 : decode cX7_worthOf 0 = .ok (.aload_n 0, 1) := by decide +kernel
theorem dX7_worthOf_1 : decode cX7_worthOf 1 = .ok (.getfield 18, 3) := by decide +kernel
theorem dX7_worthOf_4 : decode cX7_worthOf 4 = .ok (.iload_n 1, 1) := by decide +kernel
theorem dX7_worthOf_5 : decode cX7_worthOf 5 = .ok (.iconst 4, 1) := by decide +kernel
theorem dX7_worthOf_6 : decode cX7_worthOf 6 = .ok (.imul, 1) := by decide +kernel
theorem dX7_worthOf_7 : decode cX7_worthOf 7 = .ok (.iload_n 2, 1) := by decide +kernel
theorem dX7_worthOf_8 : decode cX7_worthOf 8 = .ok (.iadd, 1) := by decide +kernel
theorem dX7_worthOf_9 : decode cX7_worthOf 9 = .ok (.iaload, 1) := by decide +kernel
theorem dX7_worthOf_10 : decode cX7_worthOf 10 = .ok (.iconst 2, 1) := by decide +kernel
theorem dX7_worthOf_11 : decode cX7_worthOf 11 = .ok (.aload_n 0, 1) := by decide +kernel
theorem dX7_worthOf_12 : decode cX7_worthOf 12 = .ok (.getfield 24, 3) := by decide +kernel
theorem dX7_worthOf_15 : decode cX7_worthOf 15 = .ok (.iload_n 1, 1) := by decide +kernel
theorem dX7_worthOf_16 : decode cX7_worthOf 16 = .ok (.iaload, 1) := by decide +kernel
theorem dX7_worthOf_17 : decode cX7_worthOf 17 = .ok (.imul, 1) := by decide +kernel
theorem dX7_worthOf_18 : decode cX7_worthOf 18 = .ok (.isub, 1) := by decide +kernel
theorem dX7_worthOf_19 : decode cX7_worthOf 19 = .ok (.ireturn, 1) := by decide +kernel
theorem dX7_ownSaying_0 : decode cX7_ownSaying 0 = .ok (.iconst 0, 1) := by decide +kernel
theorem dX7_ownSaying_1 : decode cX7_ownSaying 1 = .ok (.iconst 5, 1) := by decide +kernel
theorem dX7_ownSaying_2 : decode cX7_ownSaying 2 = .ok (.bipush 30, 2) := by decide +kernel
theorem dX7_ownSaying_4 : decode cX7_ownSaying 4 = .ok (.aload_n 0, 1) := by decide +kernel
theorem dX7_ownSaying_5 : decode cX7_ownSaying 5 = .ok (.iload_n 1, 1) := by decide +kernel
theorem dX7_ownSaying_6 : decode cX7_ownSaying 6 = .ok (.iload_n 2, 1) := by decide +kernel
theorem dX7_ownSaying_7 : decode cX7_ownSaying 7 = .ok (.invokevirtual 49, 3) := by decide +kernel
theorem dX7_ownSaying_10 : decode cX7_ownSaying 10 = .ok (.iadd, 1) := by decide +kernel
theorem dX7_ownSaying_11 : decode cX7_ownSaying 11 = .ok (.bipush 10, 2) := by decide +kernel
theorem dX7_ownSaying_13 : decode cX7_ownSaying 13 = .ok (.idiv, 1) := by decide +kernel
theorem dX7_ownSaying_14 : decode cX7_ownSaying 14 = .ok (.invokestatic 53, 3) := by decide +kernel
theorem dX7_ownSaying_17 : decode cX7_ownSaying 17 = .ok (.invokestatic 58, 3) := by decide +kernel
theorem dX7_ownSaying_20 : decode cX7_ownSaying 20 = .ok (.istore_n 3, 1) := by decide +kernel
theorem dX7_ownSaying_21 : decode cX7_ownSaying 21 = .ok (.aload_n 0, 1) := by decide +kernel
theorem dX7_ownSaying_22 : decode cX7_ownSaying 22 = .ok (.getfield 11, 3) := by decide +kernel
theorem dX7_ownSaying_25 : decode cX7_ownSaying 25 = .ok (.iload_n 2, 1) := by decide +kernel
theorem dX7_ownSaying_26 : decode cX7_ownSaying 26 = .ok (.iaload, 1) := by decide +kernel
theorem dX7_ownSaying_27 : decode cX7_ownSaying 27 = .ok (.tableswitch 49 2 5 #[29, 33, 41, 47], 29) := by decide +kernel
theorem dX7_ownSaying_56 : decode cX7_ownSaying 56 = .ok (.iconst 5, 1) := by decide +kernel
theorem dX7_ownSaying_57 : decode cX7_ownSaying 57 = .ok (.iload_n 3, 1) := by decide +kernel
theorem dX7_ownSaying_58 : decode cX7_ownSaying 58 = .ok (.isub, 1) := by decide +kernel
theorem dX7_ownSaying_59 : decode cX7_ownSaying 59 = .ok (.ireturn, 1) := by decide +kernel
theorem dX7_ownSaying_60 : decode cX7_ownSaying 60 = .ok (.iconst 0, 1) := by decide +kernel
theorem dX7_ownSaying_61 : decode cX7_ownSaying 61 = .ok (.iload_n 3, 1) := by decide +kernel
theorem dX7_ownSaying_62 : decode cX7_ownSaying 62 = .ok (.iconst 1, 1) := by decide +kernel
theorem dX7_ownSaying_63 : decode cX7_ownSaying 63 = .ok (.isub, 1) := by decide +kernel
theorem dX7_ownSaying_64 : decode cX7_ownSaying 64 = .ok (.invokestatic 58, 3) := by decide +kernel
theorem dX7_ownSaying_67 : decode cX7_ownSaying 67 = .ok (.ireturn, 1) := by decide +kernel
theorem dX7_ownSaying_68 : decode cX7_ownSaying 68 = .ok (.iconst 3, 1) := by decide +kernel
theorem dX7_ownSaying_69 : decode cX7_ownSaying 69 = .ok (.iload_n 3, 1) := by decide +kernel
theorem dX7_ownSaying_70 : decode cX7_ownSaying 70 = .ok (.invokestatic 58, 3) := by decide +kernel
theorem dX7_ownSaying_73 : decode cX7_ownSaying 73 = .ok (.ireturn, 1) := by decide +kernel
theorem dX7_ownSaying_74 : decode cX7_ownSaying 74 = .ok (.iconst 0, 1) := by decide +kernel
theorem dX7_ownSaying_75 : decode cX7_ownSaying 75 = .ok (.ireturn, 1) := by decide +kernel
theorem dX7_ownSaying_76 : decode cX7_ownSaying 76 = .ok (.iload_n 3, 1) := by decide +kernel
theorem dX7_ownSaying_77 : decode cX7_ownSaying 77 = .ok (.ireturn, 1) := by decide +kernel
theorem dX7_winnerGets_0 : decode cX7_winnerGets 0 = .ok (.iload_n 1, 1) := by decide +kernel
theorem dX7_winnerGets_1 : decode cX7_winnerGets 1 = .ok (.tableswitch 54 1 3 #[27, 35, 42], 27) := by decide +kernel
theorem dX7_winnerGets_28 : decode cX7_winnerGets 28 = .ok (.aload_n 0, 1) := by decide +kernel
theorem dX7_winnerGets_29 : decode cX7_winnerGets 29 = .ok (.getfield 31, 3) := by decide +kernel
theorem dX7_winnerGets_32 : decode cX7_winnerGets 32 = .ok (.ineg, 1) := by decide +kernel
theorem dX7_winnerGets_33 : decode cX7_winnerGets 33 = .ok (.iload_n 2, 1) := by decide +kernel
theorem dX7_winnerGets_34 : decode cX7_winnerGets 34 = .ok (.imul, 1) := by decide +kernel
theorem dX7_winnerGets_35 : decode cX7_winnerGets 35 = .ok (.ireturn, 1) := by decide +kernel
theorem dX7_winnerGets_36 : decode cX7_winnerGets 36 = .ok (.aload_n 0, 1) := by decide +kernel
theorem dX7_winnerGets_37 : decode cX7_winnerGets 37 = .ok (.getfield 31, 3) := by decide +kernel
theorem dX7_winnerGets_40 : decode cX7_winnerGets 40 = .ok (.iload_n 2, 1) := by decide +kernel
theorem dX7_winnerGets_41 : decode cX7_winnerGets 41 = .ok (.imul, 1) := by decide +kernel
theorem dX7_winnerGets_42 : decode cX7_winnerGets 42 = .ok (.ireturn, 1) := by decide +kernel
theorem dX7_winnerGets_43 : decode cX7_winnerGets 43 = .ok (.aload_n 0, 1) := by decide +kernel
theorem dX7_winnerGets_44 : decode cX7_winnerGets 44 = .ok (.getfield 31, 3) := by decide +kernel
theorem dX7_winnerGets_47 : decode cX7_winnerGets 47 = .ok (.aload_n 0, 1) := by decide +kernel
theorem dX7_winnerGets_48 : decode cX7_winnerGets 48 = .ok (.getfield 34, 3) := by decide +kernel
theorem dX7_winnerGets_51 : decode cX7_winnerGets 51 = .ok (.iconst 1, 1) := by decide +kernel
theorem dX7_winnerGets_52 : decode cX7_winnerGets 52 = .ok (.isub, 1) := by decide +kernel
theorem dX7_winnerGets_53 : decode cX7_winnerGets 53 = .ok (.imul, 1) := by decide +kernel
theorem dX7_winnerGets_54 : decode cX7_winnerGets 54 = .ok (.ireturn, 1) := by decide +kernel
theorem dX7_winnerGets_55 : decode cX7_winnerGets 55 = .ok (.iconst 0, 1) := by decide +kernel
theorem dX7_winnerGets_56 : decode cX7_winnerGets 56 = .ok (.ireturn, 1) := by decide +kernel
theorem dX7_othersGet_0 : decode cX7_othersGet 0 = .ok (.iload_n 1, 1) := by decide +kernel
theorem dX7_othersGet_1 : decode cX7_othersGet 1 = .ok (.iconst 3, 1) := by decide +kernel
theorem dX7_othersGet_2 : decode cX7_othersGet 2 = .ok (.if_icmp .ne 11, 3) := by decide +kernel
theorem dX7_othersGet_5 : decode cX7_othersGet 5 = .ok (.aload_n 0, 1) := by decide +kernel
theorem dX7_othersGet_6 : decode cX7_othersGet 6 = .ok (.getfield 31, 3) := by decide +kernel
theorem dX7_othersGet_9 : decode cX7_othersGet 9 = .ok (.ineg, 1) := by decide +kernel
theorem dX7_othersGet_10 : decode cX7_othersGet 10 = .ok (.goto 4, 3) := by decide +kernel
theorem dX7_othersGet_13 : decode cX7_othersGet 13 = .ok (.iconst 0, 1) := by decide +kernel
theorem dX7_othersGet_14 : decode cX7_othersGet 14 = .ok (.ireturn, 1) := by decide +kernel
theorem dX7_pass_0 : decode cX7_pass 0 = .ok (.aload_n 0, 1) := by decide +kernel
theorem dX7_pass_1 : decode cX7_pass 1 = .ok (.getfield 21, 3) := by decide +kernel
theorem dX7_pass_4 : decode cX7_pass 4 = .ok (.iload_n 1, 1) := by decide +kernel
theorem dX7_pass_5 : decode cX7_pass 5 = .ok (.iload_n 2, 1) := by decide +kernel
theorem dX7_pass_6 : decode cX7_pass 6 = .ok (.iastore, 1) := by decide +kernel
theorem dX7_pass_7 : decode cX7_pass 7 = .ok (.iconst 0, 1) := by decide +kernel
theorem dX7_pass_8 : decode cX7_pass 8 = .ok (.istore 4, 2) := by decide +kernel
theorem dX7_pass_10 : decode cX7_pass 10 = .ok (.iload 4, 2) := by decide +kernel
theorem dX7_pass_12 : decode cX7_pass 12 = .ok (.aload_n 0, 1) := by decide +kernel
theorem dX7_pass_13 : decode cX7_pass 13 = .ok (.getfield 34, 3) := by decide +kernel
theorem dX7_pass_16 : decode cX7_pass 16 = .ok (.if_icmp .ge 45, 3) := by decide +kernel
theorem dX7_pass_19 : decode cX7_pass 19 = .ok (.aload_n 0, 1) := by decide +kernel
theorem dX7_pass_20 : decode cX7_pass 20 = .ok (.getfield 15, 3) := by decide +kernel
theorem dX7_pass_23 : decode cX7_pass 23 = .ok (.iload 4, 2) := by decide +kernel
theorem dX7_pass_25 : decode cX7_pass 25 = .ok (.dup2, 1) := by decide +kernel
theorem dX7_pass_26 : decode cX7_pass 26 = .ok (.iaload, 1) := by decide +kernel
theorem dX7_pass_27 : decode cX7_pass 27 = .ok (.iload 4, 2) := by decide +kernel
theorem dX7_pass_29 : decode cX7_pass 29 = .ok (.iload_n 2, 1) := by decide +kernel
theorem dX7_pass_30 : decode cX7_pass 30 = .ok (.if_icmp .ne 15, 3) := by decide +kernel
theorem dX7_pass_33 : decode cX7_pass 33 = .ok (.aload_n 0, 1) := by decide +kernel
theorem dX7_pass_34 : decode cX7_pass 34 = .ok (.aload_n 0, 1) := by decide +kernel
theorem dX7_pass_35 : decode cX7_pass 35 = .ok (.getfield 27, 3) := by decide +kernel
theorem dX7_pass_38 : decode cX7_pass 38 = .ok (.iload_n 3, 1) := by decide +kernel
theorem dX7_pass_39 : decode cX7_pass 39 = .ok (.invokevirtual 61, 3) := by decide +kernel
theorem dX7_pass_42 : decode cX7_pass 42 = .ok (.goto 11, 3) := by decide +kernel
theorem dX7_pass_45 : decode cX7_pass 45 = .ok (.aload_n 0, 1) := by decide +kernel
theorem dX7_pass_46 : decode cX7_pass 46 = .ok (.aload_n 0, 1) := by decide +kernel
theorem dX7_pass_47 : decode cX7_pass 47 = .ok (.getfield 27, 3) := by decide +kernel
theorem dX7_pass_50 : decode cX7_pass 50 = .ok (.invokevirtual 64, 3) := by decide +kernel
theorem dX7_pass_53 : decode cX7_pass 53 = .ok (.iadd, 1) := by decide +kernel
theorem dX7_pass_54 : decode cX7_pass 54 = .ok (.iastore, 1) := by decide +kernel
theorem dX7_pass_55 : decode cX7_pass 55 = .ok (.iinc 4 1, 3) := by decide +kernel
theorem dX7_pass_58 : decode cX7_pass 58 = .ok (.goto (-48), 3) := by decide +kernel
theorem dX7_pass_61 : decode cX7_pass 61 = .ok (.return_, 1) := by decide +kernel
theorem dX7_wantsLeast_0 : decode cX7_wantsLeast 0 = .ok (.iconst 0, 1) := by decide +kernel
theorem dX7_wantsLeast_1 : decode cX7_wantsLeast 1 = .ok (.istore_n 2, 1) := by decide +kernel
theorem dX7_wantsLeast_2 : decode cX7_wantsLeast 2 = .ok (.iconst 1, 1) := by decide +kernel
theorem dX7_wantsLeast_3 : decode cX7_wantsLeast 3 = .ok (.istore_n 3, 1) := by decide +kernel
theorem dX7_wantsLeast_4 : decode cX7_wantsLeast 4 = .ok (.iload_n 3, 1) := by decide +kernel
theorem dX7_wantsLeast_5 : decode cX7_wantsLeast 5 = .ok (.aload_n 0, 1) := by decide +kernel
theorem dX7_wantsLeast_6 : decode cX7_wantsLeast 6 = .ok (.getfield 34, 3) := by decide +kernel
theorem dX7_wantsLeast_9 : decode cX7_wantsLeast 9 = .ok (.if_icmp .ge 26, 3) := by decide +kernel
theorem dX7_wantsLeast_12 : decode cX7_wantsLeast 12 = .ok (.aload_n 0, 1) := by decide +kernel
theorem dX7_wantsLeast_13 : decode cX7_wantsLeast 13 = .ok (.iload_n 1, 1) := by decide +kernel
theorem dX7_wantsLeast_14 : decode cX7_wantsLeast 14 = .ok (.iload_n 3, 1) := by decide +kernel
theorem dX7_wantsLeast_15 : decode cX7_wantsLeast 15 = .ok (.invokevirtual 49, 3) := by decide +kernel
theorem dX7_wantsLeast_18 : decode cX7_wantsLeast 18 = .ok (.aload_n 0, 1) := by decide +kernel
theorem dX7_wantsLeast_19 : decode cX7_wantsLeast 19 = .ok (.iload_n 1, 1) := by decide +kernel
theorem dX7_wantsLeast_20 : decode cX7_wantsLeast 20 = .ok (.iload_n 2, 1) := by decide +kernel
theorem dX7_wantsLeast_21 : decode cX7_wantsLeast 21 = .ok (.invokevirtual 49, 3) := by decide +kernel
theorem dX7_wantsLeast_24 : decode cX7_wantsLeast 24 = .ok (.if_icmp .ge 5, 3) := by decide +kernel
theorem dX7_wantsLeast_27 : decode cX7_wantsLeast 27 = .ok (.iload_n 3, 1) := by decide +kernel
theorem dX7_wantsLeast_28 : decode cX7_wantsLeast 28 = .ok (.istore_n 2, 1) := by decide +kernel
theorem dX7_wantsLeast_29 : decode cX7_wantsLeast 29 = .ok (.iinc 3 1, 3) := by decide +kernel
theorem dX7_wantsLeast_32 : decode cX7_wantsLeast 32 = .ok (.goto (-28), 3) := by decide +kernel
theorem dX7_wantsLeast_35 : decode cX7_wantsLeast 35 = .ok (.iload_n 2, 1) := by decide +kernel
theorem dX7_wantsLeast_36 : decode cX7_wantsLeast 36 = .ok (.ireturn, 1) := by decide +kernel
theorem dX7_wantsMost_0 : decode cX7_wantsMost 0 = .ok (.iconst 0, 1) := by decide +kernel
theorem dX7_wantsMost_1 : decode cX7_wantsMost 1 = .ok (.istore_n 2, 1) := by decide +kernel
theorem dX7_wantsMost_2 : decode cX7_wantsMost 2 = .ok (.iconst 1, 1) := by decide +kernel
theorem dX7_wantsMost_3 : decode cX7_wantsMost 3 = .ok (.istore_n 3, 1) := by decide +kernel
theorem dX7_wantsMost_4 : decode cX7_wantsMost 4 = .ok (.iload_n 3, 1) := by decide +kernel
theorem dX7_wantsMost_5 : decode cX7_wantsMost 5 = .ok (.aload_n 0, 1) := by decide +kernel
theorem dX7_wantsMost_6 : decode cX7_wantsMost 6 = .ok (.getfield 34, 3) := by decide +kernel
theorem dX7_wantsMost_9 : decode cX7_wantsMost 9 = .ok (.if_icmp .ge 26, 3) := by decide +kernel
theorem dX7_wantsMost_12 : decode cX7_wantsMost 12 = .ok (.aload_n 0, 1) := by decide +kernel
theorem dX7_wantsMost_13 : decode cX7_wantsMost 13 = .ok (.iload_n 1, 1) := by decide +kernel
theorem dX7_wantsMost_14 : decode cX7_wantsMost 14 = .ok (.iload_n 3, 1) := by decide +kernel
theorem dX7_wantsMost_15 : decode cX7_wantsMost 15 = .ok (.invokevirtual 49, 3) := by decide +kernel
theorem dX7_wantsMost_18 : decode cX7_wantsMost 18 = .ok (.aload_n 0, 1) := by decide +kernel
theorem dX7_wantsMost_19 : decode cX7_wantsMost 19 = .ok (.iload_n 1, 1) := by decide +kernel
theorem dX7_wantsMost_20 : decode cX7_wantsMost 20 = .ok (.iload_n 2, 1) := by decide +kernel
theorem dX7_wantsMost_21 : decode cX7_wantsMost 21 = .ok (.invokevirtual 49, 3) := by decide +kernel
theorem dX7_wantsMost_24 : decode cX7_wantsMost 24 = .ok (.if_icmp .le 5, 3) := by decide +kernel
theorem dX7_wantsMost_27 : decode cX7_wantsMost 27 = .ok (.iload_n 3, 1) := by decide +kernel
theorem dX7_wantsMost_28 : decode cX7_wantsMost 28 = .ok (.istore_n 2, 1) := by decide +kernel
theorem dX7_wantsMost_29 : decode cX7_wantsMost 29 = .ok (.iinc 3 1, 3) := by decide +kernel
theorem dX7_wantsMost_32 : decode cX7_wantsMost 32 = .ok (.goto (-28), 3) := by decide +kernel
theorem dX7_wantsMost_35 : decode cX7_wantsMost 35 = .ok (.iload_n 2, 1) := by decide +kernel
theorem dX7_wantsMost_36 : decode cX7_wantsMost 36 = .ok (.ireturn, 1) := by decide +kernel
theorem dX7_countHeld_0 : decode cX7_countHeld 0 = .ok (.iconst 0, 1) := by decide +kernel
theorem dX7_countHeld_1 : decode cX7_countHeld 1 = .ok (.istore_n 1, 1) := by decide +kernel
theorem dX7_countHeld_2 : decode cX7_countHeld 2 = .ok (.iconst 0, 1) := by decide +kernel
theorem dX7_countHeld_3 : decode cX7_countHeld 3 = .ok (.istore_n 2, 1) := by decide +kernel
theorem dX7_countHeld_4 : decode cX7_countHeld 4 = .ok (.iload_n 2, 1) := by decide +kernel
theorem dX7_countHeld_5 : decode cX7_countHeld 5 = .ok (.aload_n 0, 1) := by decide +kernel
theorem dX7_countHeld_6 : decode cX7_countHeld 6 = .ok (.getfield 37, 3) := by decide +kernel
theorem dX7_countHeld_9 : decode cX7_countHeld 9 = .ok (.if_icmp .ge 23, 3) := by decide +kernel
theorem dX7_countHeld_12 : decode cX7_countHeld 12 = .ok (.aload_n 0, 1) := by decide +kernel
theorem dX7_countHeld_13 : decode cX7_countHeld 13 = .ok (.getfield 21, 3) := by decide +kernel
theorem dX7_countHeld_16 : decode cX7_countHeld 16 = .ok (.iload_n 2, 1) := by decide +kernel
theorem dX7_countHeld_17 : decode cX7_countHeld 17 = .ok (.iaload, 1) := by decide +kernel
theorem dX7_countHeld_18 : decode cX7_countHeld 18 = .ok (.ldc 40, 2) := by decide +kernel
theorem dX7_countHeld_20 : decode cX7_countHeld 20 = .ok (.if_icmp .eq 6, 3) := by decide +kernel
theorem dX7_countHeld_23 : decode cX7_countHeld 23 = .ok (.iinc 1 1, 3) := by decide +kernel
theorem dX7_countHeld_26 : decode cX7_countHeld 26 = .ok (.iinc 2 1, 3) := by decide +kernel
theorem dX7_countHeld_29 : decode cX7_countHeld 29 = .ok (.goto (-25), 3) := by decide +kernel
theorem dX7_countHeld_32 : decode cX7_countHeld 32 = .ok (.iload_n 1, 1) := by decide +kernel
theorem dX7_countHeld_33 : decode cX7_countHeld 33 = .ok (.ireturn, 1) := by decide +kernel
theorem dX7_countHeldBy_0 : decode cX7_countHeldBy 0 = .ok (.iconst 0, 1) := by decide +kernel
theorem dX7_countHeldBy_1 : decode cX7_countHeldBy 1 = .ok (.istore_n 2, 1) := by decide +kernel
theorem dX7_countHeldBy_2 : decode cX7_countHeldBy 2 = .ok (.iconst 0, 1) := by decide +kernel
theorem dX7_countHeldBy_3 : decode cX7_countHeldBy 3 = .ok (.istore_n 3, 1) := by decide +kernel
theorem dX7_countHeldBy_4 : decode cX7_countHeldBy 4 = .ok (.iload_n 3, 1) := by decide +kernel
theorem dX7_countHeldBy_5 : decode cX7_countHeldBy 5 = .ok (.aload_n 0, 1) := by decide +kernel
theorem dX7_countHeldBy_6 : decode cX7_countHeldBy 6 = .ok (.getfield 37, 3) := by decide +kernel
theorem dX7_countHeldBy_9 : decode cX7_countHeldBy 9 = .ok (.if_icmp .ge 22, 3) := by decide +kernel
theorem dX7_countHeldBy_12 : decode cX7_countHeldBy 12 = .ok (.aload_n 0, 1) := by decide +kernel
theorem dX7_countHeldBy_13 : decode cX7_countHeldBy 13 = .ok (.getfield 21, 3) := by decide +kernel
theorem dX7_countHeldBy_16 : decode cX7_countHeldBy 16 = .ok (.iload_n 3, 1) := by decide +kernel
theorem dX7_countHeldBy_17 : decode cX7_countHeldBy 17 = .ok (.iaload, 1) := by decide +kernel
theorem dX7_countHeldBy_18 : decode cX7_countHeldBy 18 = .ok (.iload_n 1, 1) := by decide +kernel
theorem dX7_countHeldBy_19 : decode cX7_countHeldBy 19 = .ok (.if_icmp .ne 6, 3) := by decide +kernel
theorem dX7_countHeldBy_22 : decode cX7_countHeldBy 22 = .ok (.iinc 2 1, 3) := by decide +kernel
theorem dX7_countHeldBy_25 : decode cX7_countHeldBy 25 = .ok (.iinc 3 1, 3) := by decide +kernel
theorem dX7_countHeldBy_28 : decode cX7_countHeldBy 28 = .ok (.goto (-24), 3) := by decide +kernel
theorem dX7_countHeldBy_31 : decode cX7_countHeldBy 31 = .ok (.iload_n 2, 1) := by decide +kernel
theorem dX7_countHeldBy_32 : decode cX7_countHeldBy 32 = .ok (.ireturn, 1) := by decide +kernel
end
section
theorem dX8_init_0 : decode cX8_init 0 = .ok (.aload_n 0, 1) := by decide +kernel
theorem dX8_init_1 : decode cX8_init 1 = .ok (.invokespecial 1, 3) := by decide +kernel
theorem dX8_init_4 : decode cX8_init 4 = .ok (.aload_n 0, 1) := by decide +kernel
theorem dX8_init_5 : decode cX8_init 5 = .ok (.bipush 8, 2) := by decide +kernel
theorem dX8_init_7 : decode cX8_init 7 = .ok (.anewarray 9, 3) := by decide +kernel
theorem dX8_init_10 : decode cX8_init 10 = .ok (.putfield 11, 3) := by decide +kernel
theorem dX8_init_13 : decode cX8_init 13 = .ok (.iconst 0, 1) := by decide +kernel
theorem dX8_init_14 : decode cX8_init 14 = .ok (.istore_n 1, 1) := by decide +kernel
theorem dX8_init_15 : decode cX8_init 15 = .ok (.iload_n 1, 1) := by decide +kernel
theorem dX8_init_16 : decode cX8_init 16 = .ok (.bipush 8, 2) := by decide +kernel
theorem dX8_init_18 : decode cX8_init 18 = .ok (.if_icmp .ge 22, 3) := by decide +kernel
theorem dX8_init_21 : decode cX8_init 21 = .ok (.aload_n 0, 1) := by decide +kernel
theorem dX8_init_22 : decode cX8_init 22 = .ok (.getfield 11, 3) := by decide +kernel
theorem dX8_init_25 : decode cX8_init 25 = .ok (.iload_n 1, 1) := by decide +kernel
theorem dX8_init_26 : decode cX8_init 26 = .ok (.new 9, 3) := by decide +kernel
theorem dX8_init_29 : decode cX8_init 29 = .ok (.dup, 1) := by decide +kernel
theorem dX8_init_30 : decode cX8_init 30 = .ok (.invokespecial 15, 3) := by decide +kernel
theorem dX8_init_33 : decode cX8_init 33 = .ok (.aastore, 1) := by decide +kernel
theorem dX8_init_34 : decode cX8_init 34 = .ok (.iinc 1 1, 3) := by decide +kernel
theorem dX8_init_37 : decode cX8_init 37 = .ok (.goto (-22), 3) := by decide +kernel
theorem dX8_init_40 : decode cX8_init 40 = .ok (.aload_n 0, 1) := by decide +kernel
theorem dX8_init_41 : decode cX8_init 41 = .ok (.iconst 2, 1) := by decide +kernel
theorem dX8_init_42 : decode cX8_init 42 = .ok (.anewarray 16, 3) := by decide +kernel
theorem dX8_init_45 : decode cX8_init 45 = .ok (.putfield 18, 3) := by decide +kernel
theorem dX8_init_48 : decode cX8_init 48 = .ok (.iconst 0, 1) := by decide +kernel
theorem dX8_init_49 : decode cX8_init 49 = .ok (.istore_n 1, 1) := by decide +kernel
theorem dX8_init_50 : decode cX8_init 50 = .ok (.iload_n 1, 1) := by decide +kernel
theorem dX8_init_51 : decode cX8_init 51 = .ok (.iconst 2, 1) := by decide +kernel
theorem dX8_init_52 : decode cX8_init 52 = .ok (.if_icmp .ge 22, 3) := by decide +kernel
theorem dX8_init_55 : decode cX8_init 55 = .ok (.aload_n 0, 1) := by decide +kernel
theorem dX8_init_56 : decode cX8_init 56 = .ok (.getfield 18, 3) := by decide +kernel
theorem dX8_init_59 : decode cX8_init 59 = .ok (.iload_n 1, 1) := by decide +kernel
theorem dX8_init_60 : decode cX8_init 60 = .ok (.new 16, 3) := by decide +kernel
theorem dX8_init_63 : decode cX8_init 63 = .ok (.dup, 1) := by decide +kernel
theorem dX8_init_64 : decode cX8_init 64 = .ok (.invokespecial 22, 3) := by decide +kernel
theorem dX8_init_67 : decode cX8_init 67 = .ok (.aastore, 1) := by decide +kernel
theorem dX8_init_68 : decode cX8_init 68 = .ok (.iinc 1 1, 3) := by decide +kernel
theorem dX8_init_71 : decode cX8_init 71 = .ok (.goto (-21), 3) := by decide +kernel
theorem dX8_init_74 : decode cX8_init 74 = .ok (.aload_n 0, 1) := by decide +kernel
theorem dX8_init_75 : decode cX8_init 75 = .ok (.new 23, 3) := by decide +kernel
theorem dX8_init_78 : decode cX8_init 78 = .ok (.dup, 1) := by decide +kernel
theorem dX8_init_79 : decode cX8_init 79 = .ok (.invokespecial 25, 3) := by decide +kernel
theorem dX8_init_82 : decode cX8_init 82 = .ok (.putfield 26, 3) := by decide +kernel
theorem dX8_init_85 : decode cX8_init 85 = .ok (.aload_n 0, 1) := by decide +kernel
theorem dX8_init_86 : decode cX8_init 86 = .ok (.new 30, 3) := by decide +kernel
theorem dX8_init_89 : decode cX8_init 89 = .ok (.dup, 1) := by decide +kernel
theorem dX8_init_90 : decode cX8_init 90 = .ok (.invokespecial 32, 3) := by decide +kernel
theorem dX8_init_93 : decode cX8_init 93 = .ok (.putfield 33, 3) := by decide +kernel
theorem dX8_init_96 : decode cX8_init 96 = .ok (.aload_n 0, 1) := by decide +kernel
theorem dX8_init_97 : decode cX8_init 97 = .ok (.new 37, 3) := by decide +kernel
theorem dX8_init_100 : decode cX8_init 100 = .ok (.dup, 1) := by decide +kernel
theorem dX8_init_101 : decode cX8_init 101 = .ok (.invokespecial 39, 3) := by decide +kernel
theorem dX8_init_104 : decode cX8_init 104 = .ok (.putfield 40, 3) := by decide +kernel
theorem dX8_init_107 : decode cX8_init 107 = .ok (.aload_n 0, 1) := by decide +kernel
theorem dX8_init_108 : decode cX8_init 108 = .ok (.new 44, 3) := by decide +kernel
theorem dX8_init_111 : decode cX8_init 111 = .ok (.dup, 1) := by decide +kernel
theorem dX8_init_112 : decode cX8_init 112 = .ok (.invokespecial 46, 3) := by decide +kernel
theorem dX8_init_115 : decode cX8_init 115 = .ok (.putfield 47, 3) := by decide +kernel
theorem dX8_init_118 : decode cX8_init 118 = .ok (.aload_n 0, 1) := by decide +kernel
theorem dX8_init_119 : decode cX8_init 119 = .ok (.new 51, 3) := by decide +kernel
theorem dX8_init_122 : decode cX8_init 122 = .ok (.dup, 1) := by decide +kernel
theorem dX8_init_123 : decode cX8_init 123 = .ok (.invokespecial 53, 3) := by decide +kernel
theorem dX8_init_126 : decode cX8_init 126 = .ok (.putfield 54, 3) := by decide +kernel
theorem dX8_init_129 : decode cX8_init 129 = .ok (.aload_n 0, 1) := by decide +kernel
theorem dX8_init_130 : decode cX8_init 130 = .ok (.new 58, 3) := by decide +kernel
theorem dX8_init_133 : decode cX8_init 133 = .ok (.dup, 1) := by decide +kernel
theorem dX8_init_134 : decode cX8_init 134 = .ok (.invokespecial 60, 3) := by decide +kernel
theorem dX8_init_137 : decode cX8_init 137 = .ok (.putfield 61, 3) := by decide +kernel
theorem dX8_init_140 : decode cX8_init 140 = .ok (.aload_n 0, 1) := by decide +kernel
theorem dX8_init_141 : decode cX8_init 141 = .ok (.new 16, 3) := by decide +kernel
theorem dX8_init_144 : decode cX8_init 144 = .ok (.dup, 1) := by decide +kernel
theorem dX8_init_145 : decode cX8_init 145 = .ok (.invokespecial 22, 3) := by decide +kernel
theorem dX8_init_148 : decode cX8_init 148 = .ok (.putfield 65, 3) := by decide +kernel
theorem dX8_init_151 : decode cX8_init 151 = .ok (.aload_n 0, 1) := by decide +kernel
theorem dX8_init_152 : decode cX8_init 152 = .ok (.new 16, 3) := by decide +kernel
theorem dX8_init_155 : decode cX8_init 155 = .ok (.dup, 1) := by decide +kernel
theorem dX8_init_156 : decode cX8_init 156 = .ok (.invokespecial 22, 3) := by decide +kernel
theorem dX8_init_159 : decode cX8_init 159 = .ok (.putfield 69, 3) := by decide +kernel
theorem dX8_init_162 : decode cX8_init 162 = .ok (.return_, 1) := by decide +kernel
theorem dX8_row_0 : decode cX8_row 0 = .ok (.aload_n 0, 1) := by decide +kernel
theorem dX8_row_1 : decode cX8_row 1 = .ok (.iload_n 1, 1) := by decide +kernel
theorem dX8_row_2 : decode cX8_row 2 = .ok (.invokevirtual 72, 3) := by decide +kernel
theorem dX8_row_5 : decode cX8_row 5 = .ok (.ifCond .eq 18, 3) := by decide +kernel
theorem dX8_row_8 : decode cX8_row 8 = .ok (.iload_n 2, 1) := by decide +kernel
theorem dX8_row_9 : decode cX8_row 9 = .ok (.ifCond .lt 14, 3) := by decide +kernel
theorem dX8_row_12 : decode cX8_row 12 = .ok (.iload_n 2, 1) := by decide +kernel
theorem dX8_row_13 : decode cX8_row 13 = .ok (.iconst 3, 1) := by decide +kernel
theorem dX8_row_14 : decode cX8_row 14 = .ok (.if_icmp .ge 9, 3) := by decide +kernel
theorem dX8_row_17 : decode cX8_row 17 = .ok (.iload_n 3, 1) := by decide +kernel
theorem dX8_row_18 : decode cX8_row 18 = .ok (.bipush 40, 2) := by decide +kernel
theorem dX8_row_20 : decode cX8_row 20 = .ok (.if_icmp .le 6, 3) := by decide +kernel
theorem dX8_row_23 : decode cX8_row 23 = .ok (.ldc 76, 2) := by decide +kernel
theorem dX8_row_25 : decode cX8_row 25 = .ok (.ireturn, 1) := by decide +kernel
theorem dX8_row_26 : decode cX8_row 26 = .ok (.iload_n 3, 1) := by decide +kernel
theorem dX8_row_27 : decode cX8_row 27 = .ok (.ifCond .ge 9, 3) := by decide +kernel
theorem dX8_row_30 : decode cX8_row 30 = .ok (.aload_n 0, 1) := by decide +kernel
theorem dX8_row_31 : decode cX8_row 31 = .ok (.iconst 4, 1) := by decide +kernel
theorem dX8_row_32 : decode cX8_row 32 = .ok (.invokevirtual 77, 3) := by decide +kernel
theorem dX8_row_35 : decode cX8_row 35 = .ok (.ireturn, 1) := by decide +kernel
theorem dX8_row_36 : decode cX8_row 36 = .ok (.aload_n 0, 1) := by decide +kernel
theorem dX8_row_37 : decode cX8_row 37 = .ok (.getfield 11, 3) := by decide +kernel
theorem dX8_row_40 : decode cX8_row 40 = .ok (.iload_n 1, 1) := by decide +kernel
theorem dX8_row_41 : decode cX8_row 41 = .ok (.aaload, 1) := by decide +kernel
theorem dX8_row_42 : decode cX8_row 42 = .ok (.iload_n 2, 1) := by decide +kernel
theorem dX8_row_43 : decode cX8_row 43 = .ok (.iload_n 3, 1) := by decide +kernel
theorem dX8_row_44 : decode cX8_row 44 = .ok (.invokevirtual 81, 3) := by decide +kernel
theorem dX8_row_47 : decode cX8_row 47 = .ok (.aload_n 0, 1) := by decide +kernel
theorem dX8_row_48 : decode cX8_row 48 = .ok (.iload_n 3, 1) := by decide +kernel
theorem dX8_row_49 : decode cX8_row 49 = .ok (.invokevirtual 85, 3) := by decide +kernel
theorem dX8_row_52 : decode cX8_row 52 = .ok (.ireturn, 1) := by decide +kernel
theorem dX8_set_0 : decode cX8_set 0 = .ok (.aload_n 0, 1) := by decide +kernel
theorem dX8_set_1 : decode cX8_set 1 = .ok (.iload_n 1, 1) := by decide +kernel
theorem dX8_set_2 : decode cX8_set 2 = .ok (.invokevirtual 72, 3) := by decide +kernel
theorem dX8_set_5 : decode cX8_set 5 = .ok (.ifCond .ne 6, 3) := by decide +kernel
theorem dX8_set_8 : decode cX8_set 8 = .ok (.ldc 76, 2) := by decide +kernel
theorem dX8_set_10 : decode cX8_set 10 = .ok (.ireturn, 1) := by decide +kernel
theorem dX8_set_11 : decode cX8_set 11 = .ok (.aload_n 0, 1) := by decide +kernel
theorem dX8_set_12 : decode cX8_set 12 = .ok (.getfield 11, 3) := by decide +kernel
theorem dX8_set_15 : decode cX8_set 15 = .ok (.iload_n 1, 1) := by decide +kernel
theorem dX8_set_16 : decode cX8_set 16 = .ok (.aaload, 1) := by decide +kernel
theorem dX8_set_17 : decode cX8_set 17 = .ok (.astore 4, 2) := by decide +kernel
theorem dX8_set_19 : decode cX8_set 19 = .ok (.aload 4, 2) := by decide +kernel
theorem dX8_set_21 : decode cX8_set 21 = .ok (.getfield 88, 3) := by decide +kernel
theorem dX8_set_24 : decode cX8_set 24 = .ok (.ifCond .eq 9, 3) := by decide +kernel
theorem dX8_set_27 : decode cX8_set 27 = .ok (.aload_n 0, 1) := by decide +kernel
theorem dX8_set_28 : decode cX8_set 28 = .ok (.iconst 1, 1) := by decide +kernel
theorem dX8_set_29 : decode cX8_set 29 = .ok (.invokevirtual 77, 3) := by decide +kernel
theorem dX8_set_32 : decode cX8_set 32 = .ok (.ireturn, 1) := by decide +kernel
theorem dX8_set_33 : decode cX8_set 33 = .ok (.iload_n 2, 1) := by decide +kernel
theorem dX8_set_34 : decode cX8_set 34 = .ok (.ifCond .lt 12, 3) := by decide +kernel
theorem dX8_set_37 : decode cX8_set 37 = .ok (.iload_n 2, 1) := by decide +kernel
theorem dX8_set_38 : decode cX8_set 38 = .ok (.aload 4, 2) := by decide +kernel
theorem dX8_set_40 : decode cX8_set 40 = .ok (.getfield 92, 3) := by decide +kernel
theorem dX8_set_43 : decode cX8_set 43 = .ok (.if_icmp .lt 9, 3) := by decide +kernel
theorem dX8_set_46 : decode cX8_set 46 = .ok (.aload_n 0, 1) := by decide +kernel
theorem dX8_set_47 : decode cX8_set 47 = .ok (.iconst 2, 1) := by decide +kernel
theorem dX8_set_48 : decode cX8_set 48 = .ok (.invokevirtual 77, 3) := by decide +kernel
theorem dX8_set_51 : decode cX8_set 51 = .ok (.ireturn, 1) := by decide +kernel
theorem dX8_set_52 : decode cX8_set 52 = .ok (.aload_n 0, 1) := by decide +kernel
theorem dX8_set_53 : decode cX8_set 53 = .ok (.aload 4, 2) := by decide +kernel
theorem dX8_set_55 : decode cX8_set 55 = .ok (.iload_n 2, 1) := by decide +kernel
theorem dX8_set_56 : decode cX8_set 56 = .ok (.iload_n 3, 1) := by decide +kernel
theorem dX8_set_57 : decode cX8_set 57 = .ok (.invokevirtual 96, 3) := by decide +kernel
theorem dX8_set_60 : decode cX8_set 60 = .ok (.invokevirtual 85, 3) := by decide +kernel
theorem dX8_set_63 : decode cX8_set 63 = .ok (.ireturn, 1) := by decide +kernel
theorem dX8_copy_0 : decode cX8_copy 0 = .ok (.aload_n 0, 1) := by decide +kernel
theorem dX8_copy_1 : decode cX8_copy 1 = .ok (.iload_n 1, 1) := by decide +kernel
theorem dX8_copy_2 : decode cX8_copy 2 = .ok (.invokevirtual 72, 3) := by decide +kernel
theorem dX8_copy_5 : decode cX8_copy 5 = .ok (.ifCond .eq 11, 3) := by decide +kernel
theorem dX8_copy_8 : decode cX8_copy 8 = .ok (.aload_n 0, 1) := by decide +kernel
theorem dX8_copy_9 : decode cX8_copy 9 = .ok (.iload_n 3, 1) := by decide +kernel
theorem dX8_copy_10 : decode cX8_copy 10 = .ok (.invokevirtual 72, 3) := by decide +kernel
theorem dX8_copy_13 : decode cX8_copy 13 = .ok (.ifCond .ne 6, 3) := by decide +kernel
theorem dX8_copy_16 : decode cX8_copy 16 = .ok (.ldc 76, 2) := by decide +kernel
theorem dX8_copy_18 : decode cX8_copy 18 = .ok (.ireturn, 1) := by decide +kernel
theorem dX8_copy_19 : decode cX8_copy 19 = .ok (.aload_n 0, 1) := by decide +kernel
theorem dX8_copy_20 : decode cX8_copy 20 = .ok (.getfield 11, 3) := by decide +kernel
theorem dX8_copy_23 : decode cX8_copy 23 = .ok (.iload_n 1, 1) := by decide +kernel
theorem dX8_copy_24 : decode cX8_copy 24 = .ok (.aaload, 1) := by decide +kernel
theorem dX8_copy_25 : decode cX8_copy 25 = .ok (.astore 6, 2) := by decide +kernel
theorem dX8_copy_27 : decode cX8_copy 27 = .ok (.aload_n 0, 1) := by decide +kernel
theorem dX8_copy_28 : decode cX8_copy 28 = .ok (.getfield 11, 3) := by decide +kernel
theorem dX8_copy_31 : decode cX8_copy 31 = .ok (.iload_n 3, 1) := by decide +kernel
theorem dX8_copy_32 : decode cX8_copy 32 = .ok (.aaload, 1) := by decide +kernel
theorem dX8_copy_33 : decode cX8_copy 33 = .ok (.astore 7, 2) := by decide +kernel
theorem dX8_copy_35 : decode cX8_copy 35 = .ok (.aload 6, 2) := by decide +kernel
theorem dX8_copy_37 : decode cX8_copy 37 = .ok (.getfield 88, 3) := by decide +kernel
theorem dX8_copy_40 : decode cX8_copy 40 = .ok (.ifCond .ne 11, 3) := by decide +kernel
theorem dX8_copy_43 : decode cX8_copy 43 = .ok (.aload 7, 2) := by decide +kernel
theorem dX8_copy_45 : decode cX8_copy 45 = .ok (.getfield 88, 3) := by decide +kernel
theorem dX8_copy_48 : decode cX8_copy 48 = .ok (.ifCond .eq 9, 3) := by decide +kernel
theorem dX8_copy_51 : decode cX8_copy 51 = .ok (.aload_n 0, 1) := by decide +kernel
theorem dX8_copy_52 : decode cX8_copy 52 = .ok (.iconst 1, 1) := by decide +kernel
theorem dX8_copy_53 : decode cX8_copy 53 = .ok (.invokevirtual 77, 3) := by decide +kernel
theorem dX8_copy_56 : decode cX8_copy 56 = .ok (.ireturn, 1) := by decide +kernel
theorem dX8_copy_57 : decode cX8_copy 57 = .ok (.aload 6, 2) := by decide +kernel
theorem dX8_copy_59 : decode cX8_copy 59 = .ok (.getfield 100, 3) := by decide +kernel
theorem dX8_copy_62 : decode cX8_copy 62 = .ok (.aload 7, 2) := by decide +kernel
theorem dX8_copy_64 : decode cX8_copy 64 = .ok (.getfield 100, 3) := by decide +kernel
theorem dX8_copy_67 : decode cX8_copy 67 = .ok (.if_icmp .eq 9, 3) := by decide +kernel
theorem dX8_copy_70 : decode cX8_copy 70 = .ok (.aload_n 0, 1) := by decide +kernel
theorem dX8_copy_71 : decode cX8_copy 71 = .ok (.iconst 5, 1) := by decide +kernel
theorem dX8_copy_72 : decode cX8_copy 72 = .ok (.invokevirtual 77, 3) := by decide +kernel
theorem dX8_copy_75 : decode cX8_copy 75 = .ok (.ireturn, 1) := by decide +kernel
theorem dX8_copy_76 : decode cX8_copy 76 = .ok (.aload 6, 2) := by decide +kernel
theorem dX8_copy_78 : decode cX8_copy 78 = .ok (.iload_n 2, 1) := by decide +kernel
theorem dX8_copy_79 : decode cX8_copy 79 = .ok (.iload 5, 2) := by decide +kernel
theorem dX8_copy_81 : decode cX8_copy 81 = .ok (.invokevirtual 103, 3) := by decide +kernel
theorem dX8_copy_84 : decode cX8_copy 84 = .ok (.ifCond .eq 15, 3) := by decide +kernel
theorem dX8_copy_87 : decode cX8_copy 87 = .ok (.aload 7, 2) := by decide +kernel
theorem dX8_copy_89 : decode cX8_copy 89 = .ok (.iload 4, 2) := by decide +kernel
theorem dX8_copy_91 : decode cX8_copy 91 = .ok (.iload 5, 2) := by decide +kernel
theorem dX8_copy_93 : decode cX8_copy 93 = .ok (.invokevirtual 103, 3) := by decide +kernel
theorem dX8_copy_96 : decode cX8_copy 96 = .ok (.ifCond .ne 9, 3) := by decide +kernel
theorem dX8_copy_99 : decode cX8_copy 99 = .ok (.aload_n 0, 1) := by decide +kernel
theorem dX8_copy_100 : decode cX8_copy 100 = .ok (.iconst 2, 1) := by decide +kernel
theorem dX8_copy_101 : decode cX8_copy 101 = .ok (.invokevirtual 77, 3) := by decide +kernel
theorem dX8_copy_104 : decode cX8_copy 104 = .ok (.ireturn, 1) := by decide +kernel
theorem dX8_copy_105 : decode cX8_copy 105 = .ok (.aload 6, 2) := by decide +kernel
theorem dX8_copy_107 : decode cX8_copy 107 = .ok (.getfield 107, 3) := by decide +kernel
theorem dX8_copy_110 : decode cX8_copy 110 = .ok (.iload_n 2, 1) := by decide +kernel
theorem dX8_copy_111 : decode cX8_copy 111 = .ok (.aload 7, 2) := by decide +kernel
theorem dX8_copy_113 : decode cX8_copy 113 = .ok (.getfield 107, 3) := by decide +kernel
theorem dX8_copy_116 : decode cX8_copy 116 = .ok (.iload 4, 2) := by decide +kernel
theorem dX8_copy_118 : decode cX8_copy 118 = .ok (.iload 5, 2) := by decide +kernel
theorem dX8_copy_120 : decode cX8_copy 120 = .ok (.invokestatic 111, 3) := by decide +kernel
theorem dX8_copy_123 : decode cX8_copy 123 = .ok (.aload_n 0, 1) := by decide +kernel
theorem dX8_copy_124 : decode cX8_copy 124 = .ok (.iload 5, 2) := by decide +kernel
theorem dX8_copy_126 : decode cX8_copy 126 = .ok (.invokevirtual 85, 3) := by decide +kernel
theorem dX8_copy_129 : decode cX8_copy 129 = .ok (.ireturn, 1) := by decide +kernel
theorem dX8_drop_0 : decode cX8_drop 0 = .ok (.aload_n 0, 1) := by decide +kernel
theorem dX8_drop_1 : decode cX8_drop 1 = .ok (.iload_n 1, 1) := by decide +kernel
theorem dX8_drop_2 : decode cX8_drop 2 = .ok (.invokevirtual 72, 3) := by decide +kernel
theorem dX8_drop_5 : decode cX8_drop 5 = .ok (.ifCond .ne 6, 3) := by decide +kernel
theorem dX8_drop_8 : decode cX8_drop 8 = .ok (.ldc 76, 2) := by decide +kernel
theorem dX8_drop_10 : decode cX8_drop 10 = .ok (.ireturn, 1) := by decide +kernel
theorem dX8_drop_11 : decode cX8_drop 11 = .ok (.aload_n 0, 1) := by decide +kernel
theorem dX8_drop_12 : decode cX8_drop 12 = .ok (.getfield 11, 3) := by decide +kernel
theorem dX8_drop_15 : decode cX8_drop 15 = .ok (.iload_n 1, 1) := by decide +kernel
theorem dX8_drop_16 : decode cX8_drop 16 = .ok (.aaload, 1) := by decide +kernel
theorem dX8_drop_17 : decode cX8_drop 17 = .ok (.astore_n 2, 1) := by decide +kernel
theorem dX8_drop_18 : decode cX8_drop 18 = .ok (.aload_n 2, 1) := by decide +kernel
theorem dX8_drop_19 : decode cX8_drop 19 = .ok (.getfield 88, 3) := by decide +kernel
theorem dX8_drop_22 : decode cX8_drop 22 = .ok (.ifCond .eq 9, 3) := by decide +kernel
theorem dX8_drop_25 : decode cX8_drop 25 = .ok (.aload_n 0, 1) := by decide +kernel
theorem dX8_drop_26 : decode cX8_drop 26 = .ok (.iconst 1, 1) := by decide +kernel
theorem dX8_drop_27 : decode cX8_drop 27 = .ok (.invokevirtual 77, 3) := by decide +kernel
theorem dX8_drop_30 : decode cX8_drop 30 = .ok (.ireturn, 1) := by decide +kernel
theorem dX8_drop_31 : decode cX8_drop 31 = .ok (.aload_n 2, 1) := by decide +kernel
theorem dX8_drop_32 : decode cX8_drop 32 = .ok (.iconst 1, 1) := by decide +kernel
theorem dX8_drop_33 : decode cX8_drop 33 = .ok (.putfield 88, 3) := by decide +kernel
theorem dX8_drop_36 : decode cX8_drop 36 = .ok (.aload_n 0, 1) := by decide +kernel
theorem dX8_drop_37 : decode cX8_drop 37 = .ok (.aload_n 2, 1) := by decide +kernel
theorem dX8_drop_38 : decode cX8_drop 38 = .ok (.getfield 92, 3) := by decide +kernel
theorem dX8_drop_41 : decode cX8_drop 41 = .ok (.invokevirtual 85, 3) := by decide +kernel
theorem dX8_drop_44 : decode cX8_drop 44 = .ok (.ireturn, 1) := by decide +kernel
theorem dX8_feed_0 : decode cX8_feed 0 = .ok (.iload_n 3, 1) := by decide +kernel
theorem dX8_feed_1 : decode cX8_feed 1 = .ok (.iconst 1, 1) := by decide +kernel
theorem dX8_feed_2 : decode cX8_feed 2 = .ok (.if_icmp .lt 9, 3) := by decide +kernel
theorem dX8_feed_5 : decode cX8_feed 5 = .ok (.iload_n 3, 1) := by decide +kernel
theorem dX8_feed_6 : decode cX8_feed 6 = .ok (.bipush 8, 2) := by decide +kernel
theorem dX8_feed_8 : decode cX8_feed 8 = .ok (.if_icmp .le 6, 3) := by decide +kernel
theorem dX8_feed_11 : decode cX8_feed 11 = .ok (.ldc 76, 2) := by decide +kernel
theorem dX8_feed_13 : decode cX8_feed 13 = .ok (.ireturn, 1) := by decide +kernel
theorem dX8_feed_14 : decode cX8_feed 14 = .ok (.aload_n 0, 1) := by decide +kernel
theorem dX8_feed_15 : decode cX8_feed 15 = .ok (.getfield 26, 3) := by decide +kernel
theorem dX8_feed_18 : decode cX8_feed 18 = .ok (.iload_n 3, 1) := by decide +kernel
theorem dX8_feed_19 : decode cX8_feed 19 = .ok (.invokevirtual 117, 3) := by decide +kernel
theorem dX8_feed_22 : decode cX8_feed 22 = .ok (.ifCond .ne 6, 3) := by decide +kernel
theorem dX8_feed_25 : decode cX8_feed 25 = .ok (.ldc 120, 2) := by decide +kernel
theorem dX8_feed_27 : decode cX8_feed 27 = .ok (.ireturn, 1) := by decide +kernel
theorem dX8_feed_28 : decode cX8_feed 28 = .ok (.aload_n 0, 1) := by decide +kernel
theorem dX8_feed_29 : decode cX8_feed 29 = .ok (.getfield 26, 3) := by decide +kernel
theorem dX8_feed_32 : decode cX8_feed 32 = .ok (.lload_n 1, 1) := by decide +kernel
theorem dX8_feed_33 : decode cX8_feed 33 = .ok (.iload_n 3, 1) := by decide +kernel
theorem dX8_feed_34 : decode cX8_feed 34 = .ok (.invokevirtual 121, 3) := by decide +kernel
theorem dX8_feed_37 : decode cX8_feed 37 = .ok (.aload_n 0, 1) := by decide +kernel
theorem dX8_feed_38 : decode cX8_feed 38 = .ok (.getfield 26, 3) := by decide +kernel
theorem dX8_feed_41 : decode cX8_feed 41 = .ok (.getfield 125, 3) := by decide +kernel
theorem dX8_feed_44 : decode cX8_feed 44 = .ok (.ireturn, 1) := by decide +kernel
theorem dX8_town_0 : decode cX8_town 0 = .ok (.aload_n 0, 1) := by decide +kernel
theorem dX8_town_1 : decode cX8_town 1 = .ok (.getfield 26, 3) := by decide +kernel
theorem dX8_town_4 : decode cX8_town 4 = .ok (.aload_n 0, 1) := by decide +kernel
theorem dX8_town_5 : decode cX8_town 5 = .ok (.getfield 69, 3) := by decide +kernel
theorem dX8_town_8 : decode cX8_town 8 = .ok (.invokevirtual 128, 3) := by decide +kernel
theorem dX8_town_11 : decode cX8_town 11 = .ok (.istore_n 1, 1) := by decide +kernel
theorem dX8_town_12 : decode cX8_town 12 = .ok (.aload_n 0, 1) := by decide +kernel
theorem dX8_town_13 : decode cX8_town 13 = .ok (.getfield 26, 3) := by decide +kernel
theorem dX8_town_16 : decode cX8_town 16 = .ok (.iconst 0, 1) := by decide +kernel
theorem dX8_town_17 : decode cX8_town 17 = .ok (.putfield 125, 3) := by decide +kernel
theorem dX8_town_20 : decode cX8_town 20 = .ok (.iload_n 1, 1) := by decide +kernel
theorem dX8_town_21 : decode cX8_town 21 = .ok (.ifCond .ne 25, 3) := by decide +kernel
theorem dX8_town_24 : decode cX8_town 24 = .ok (.aload_n 0, 1) := by decide +kernel
theorem dX8_town_25 : decode cX8_town 25 = .ok (.aload_n 0, 1) := by decide +kernel
theorem dX8_town_26 : decode cX8_town 26 = .ok (.getfield 26, 3) := by decide +kernel
theorem dX8_town_29 : decode cX8_town 29 = .ok (.getfield 132, 3) := by decide +kernel
theorem dX8_town_32 : decode cX8_town 32 = .ok (.putfield 135, 3) := by decide +kernel
theorem dX8_town_35 : decode cX8_town 35 = .ok (.ldc 138, 2) := by decide +kernel
theorem dX8_town_37 : decode cX8_town 37 = .ok (.aload_n 0, 1) := by decide +kernel
theorem dX8_town_38 : decode cX8_town 38 = .ok (.getfield 26, 3) := by decide +kernel
theorem dX8_town_41 : decode cX8_town 41 = .ok (.getfield 139, 3) := by decide +kernel
theorem dX8_town_44 : decode cX8_town 44 = .ok (.isub, 1) := by decide +kernel
theorem dX8_town_45 : decode cX8_town 45 = .ok (.ireturn, 1) := by decide +kernel
theorem dX8_town_46 : decode cX8_town 46 = .ok (.aload_n 0, 1) := by decide +kernel
theorem dX8_town_47 : decode cX8_town 47 = .ok (.getfield 65, 3) := by decide +kernel
theorem dX8_town_50 : decode cX8_town 50 = .ok (.astore_n 2, 1) := by decide +kernel
theorem dX8_town_51 : decode cX8_town 51 = .ok (.aload_n 0, 1) := by decide +kernel
theorem dX8_town_52 : decode cX8_town 52 = .ok (.aload_n 0, 1) := by decide +kernel
theorem dX8_town_53 : decode cX8_town 53 = .ok (.getfield 69, 3) := by decide +kernel
theorem dX8_town_56 : decode cX8_town 56 = .ok (.putfield 65, 3) := by decide +kernel
theorem dX8_town_59 : decode cX8_town 59 = .ok (.aload_n 0, 1) := by decide +kernel
theorem dX8_town_60 : decode cX8_town 60 = .ok (.aload_n 2, 1) := by decide +kernel
theorem dX8_town_61 : decode cX8_town 61 = .ok (.putfield 69, 3) := by decide +kernel
theorem dX8_town_64 : decode cX8_town 64 = .ok (.aload_n 0, 1) := by decide +kernel
theorem dX8_town_65 : decode cX8_town 65 = .ok (.getfield 33, 3) := by decide +kernel
theorem dX8_town_68 : decode cX8_town 68 = .ok (.iconst 0, 1) := by decide +kernel
theorem dX8_town_69 : decode cX8_town 69 = .ok (.putfield 142, 3) := by decide +kernel
theorem dX8_town_72 : decode cX8_town 72 = .ok (.aload_n 0, 1) := by decide +kernel
theorem dX8_town_73 : decode cX8_town 73 = .ok (.getfield 65, 3) := by decide +kernel
theorem dX8_town_76 : decode cX8_town 76 = .ok (.getfield 145, 3) := by decide +kernel
theorem dX8_town_79 : decode cX8_town 79 = .ok (.ireturn, 1) := by decide +kernel
theorem dX8_fault_0 : decode cX8_fault 0 = .ok (.aload_n 0, 1) := by decide +kernel
theorem dX8_fault_1 : decode cX8_fault 1 = .ok (.getfield 135, 3) := by decide +kernel
theorem dX8_fault_4 : decode cX8_fault 4 = .ok (.ireturn, 1) := by decide +kernel
theorem dX8_give_0 : decode cX8_give 0 = .ok (.aload_n 0, 1) := by decide +kernel
theorem dX8_give_1 : decode cX8_give 1 = .ok (.iload_n 1, 1) := by decide +kernel
theorem dX8_give_2 : decode cX8_give 2 = .ok (.invokevirtual 148, 3) := by decide +kernel
theorem dX8_give_5 : decode cX8_give 5 = .ok (.ifCond .eq 18, 3) := by decide +kernel
theorem dX8_give_8 : decode cX8_give 8 = .ok (.aload_n 0, 1) := by decide +kernel
theorem dX8_give_9 : decode cX8_give 9 = .ok (.iload_n 2, 1) := by decide +kernel
theorem dX8_give_10 : decode cX8_give 10 = .ok (.invokevirtual 72, 3) := by decide +kernel
theorem dX8_give_13 : decode cX8_give 13 = .ok (.ifCond .eq 10, 3) := by decide +kernel
theorem dX8_give_16 : decode cX8_give 16 = .ok (.iload_n 3, 1) := by decide +kernel
theorem dX8_give_17 : decode cX8_give 17 = .ok (.invokestatic 151, 3) := by decide +kernel
theorem dX8_give_20 : decode cX8_give 20 = .ok (.ifCond .ne 6, 3) := by decide +kernel
theorem dX8_give_23 : decode cX8_give 23 = .ok (.ldc 76, 2) := by decide +kernel
theorem dX8_give_25 : decode cX8_give 25 = .ok (.ireturn, 1) := by decide +kernel
theorem dX8_give_26 : decode cX8_give 26 = .ok (.aload_n 0, 1) := by decide +kernel
theorem dX8_give_27 : decode cX8_give 27 = .ok (.getfield 65, 3) := by decide +kernel
theorem dX8_give_30 : decode cX8_give 30 = .ok (.getfield 154, 3) := by decide +kernel
theorem dX8_give_33 : decode cX8_give 33 = .ok (.iload_n 1, 1) := by decide +kernel
theorem dX8_give_34 : decode cX8_give 34 = .ok (.iaload, 1) := by decide +kernel
theorem dX8_give_35 : decode cX8_give 35 = .ok (.ldc 157, 2) := by decide +kernel
theorem dX8_give_37 : decode cX8_give 37 = .ok (.if_icmp .eq 6, 3) := by decide +kernel
theorem dX8_give_40 : decode cX8_give 40 = .ok (.ldc 158, 2) := by decide +kernel
theorem dX8_give_42 : decode cX8_give 42 = .ok (.ireturn, 1) := by decide +kernel
theorem dX8_give_43 : decode cX8_give 43 = .ok (.aload_n 0, 1) := by decide +kernel
theorem dX8_give_44 : decode cX8_give 44 = .ok (.iload_n 2, 1) := by decide +kernel
theorem dX8_give_45 : decode cX8_give 45 = .ok (.invokevirtual 159, 3) := by decide +kernel
theorem dX8_give_48 : decode cX8_give 48 = .ok (.istore 4, 2) := by decide +kernel
theorem dX8_give_50 : decode cX8_give 50 = .ok (.iload 4, 2) := by decide +kernel
theorem dX8_give_52 : decode cX8_give 52 = .ok (.ifCond .eq 8, 3) := by decide +kernel
theorem dX8_give_55 : decode cX8_give 55 = .ok (.iload 4, 2) := by decide +kernel
theorem dX8_give_57 : decode cX8_give 57 = .ok (.goto 9, 3) := by decide +kernel
theorem dX8_give_60 : decode cX8_give 60 = .ok (.aload_n 0, 1) := by decide +kernel
theorem dX8_give_61 : decode cX8_give 61 = .ok (.iload_n 1, 1) := by decide +kernel
theorem dX8_give_62 : decode cX8_give 62 = .ok (.iload_n 3, 1) := by decide +kernel
theorem dX8_give_63 : decode cX8_give 63 = .ok (.invokevirtual 162, 3) := by decide +kernel
theorem dX8_give_66 : decode cX8_give 66 = .ok (.ireturn, 1) := by decide +kernel
theorem dX8_offer_0 : decode cX8_offer 0 = .ok (.aload_n 0, 1) := by decide +kernel
theorem dX8_offer_1 : decode cX8_offer 1 = .ok (.iload_n 1, 1) := by decide +kernel
theorem dX8_offer_2 : decode cX8_offer 2 = .ok (.invokevirtual 148, 3) := by decide +kernel
theorem dX8_offer_5 : decode cX8_offer 5 = .ok (.ifCond .eq 10, 3) := by decide +kernel
theorem dX8_offer_8 : decode cX8_offer 8 = .ok (.iload_n 2, 1) := by decide +kernel
theorem dX8_offer_9 : decode cX8_offer 9 = .ok (.invokestatic 151, 3) := by decide +kernel
theorem dX8_offer_12 : decode cX8_offer 12 = .ok (.ifCond .ne 6, 3) := by decide +kernel
theorem dX8_offer_15 : decode cX8_offer 15 = .ok (.ldc 76, 2) := by decide +kernel
theorem dX8_offer_17 : decode cX8_offer 17 = .ok (.ireturn, 1) := by decide +kernel
theorem dX8_offer_18 : decode cX8_offer 18 = .ok (.aload_n 0, 1) := by decide +kernel
theorem dX8_offer_19 : decode cX8_offer 19 = .ok (.getfield 65, 3) := by decide +kernel
theorem dX8_offer_22 : decode cX8_offer 22 = .ok (.getfield 154, 3) := by decide +kernel
theorem dX8_offer_25 : decode cX8_offer 25 = .ok (.iload_n 1, 1) := by decide +kernel
theorem dX8_offer_26 : decode cX8_offer 26 = .ok (.iaload, 1) := by decide +kernel
theorem dX8_offer_27 : decode cX8_offer 27 = .ok (.ldc 157, 2) := by decide +kernel
theorem dX8_offer_29 : decode cX8_offer 29 = .ok (.if_icmp .eq 6, 3) := by decide +kernel
theorem dX8_offer_32 : decode cX8_offer 32 = .ok (.ldc 158, 2) := by decide +kernel
theorem dX8_offer_34 : decode cX8_offer 34 = .ok (.ireturn, 1) := by decide +kernel
theorem dX8_offer_35 : decode cX8_offer 35 = .ok (.aload_n 0, 1) := by decide +kernel
theorem dX8_offer_36 : decode cX8_offer 36 = .ok (.getfield 40, 3) := by decide +kernel
theorem dX8_offer_39 : decode cX8_offer 39 = .ok (.aload_n 0, 1) := by decide +kernel
theorem dX8_offer_40 : decode cX8_offer 40 = .ok (.getfield 65, 3) := by decide +kernel
theorem dX8_offer_43 : decode cX8_offer 43 = .ok (.iload_n 1, 1) := by decide +kernel
theorem dX8_offer_44 : decode cX8_offer 44 = .ok (.invokevirtual 165, 3) := by decide +kernel
theorem dX8_offer_47 : decode cX8_offer 47 = .ok (.aload_n 0, 1) := by decide +kernel
theorem dX8_offer_48 : decode cX8_offer 48 = .ok (.iload_n 1, 1) := by decide +kernel
theorem dX8_offer_49 : decode cX8_offer 49 = .ok (.iload_n 2, 1) := by decide +kernel
theorem dX8_offer_50 : decode cX8_offer 50 = .ok (.invokevirtual 162, 3) := by decide +kernel
theorem dX8_offer_53 : decode cX8_offer 53 = .ok (.ireturn, 1) := by decide +kernel
theorem dX8_back_0 : decode cX8_back 0 = .ok (.aload_n 0, 1) := by decide +kernel
theorem dX8_back_1 : decode cX8_back 1 = .ok (.iload_n 1, 1) := by decide +kernel
theorem dX8_back_2 : decode cX8_back 2 = .ok (.invokevirtual 148, 3) := by decide +kernel
theorem dX8_back_5 : decode cX8_back 5 = .ok (.ifCond .ne 6, 3) := by decide +kernel
theorem dX8_back_8 : decode cX8_back 8 = .ok (.ldc 76, 2) := by decide +kernel
theorem dX8_back_10 : decode cX8_back 10 = .ok (.ireturn, 1) := by decide +kernel
theorem dX8_back_11 : decode cX8_back 11 = .ok (.aload_n 0, 1) := by decide +kernel
theorem dX8_back_12 : decode cX8_back 12 = .ok (.getfield 65, 3) := by decide +kernel
theorem dX8_back_15 : decode cX8_back 15 = .ok (.getfield 154, 3) := by decide +kernel
theorem dX8_back_18 : decode cX8_back 18 = .ok (.iload_n 1, 1) := by decide +kernel
theorem dX8_back_19 : decode cX8_back 19 = .ok (.iaload, 1) := by decide +kernel
theorem dX8_back_20 : decode cX8_back 20 = .ok (.istore_n 2, 1) := by decide +kernel
theorem dX8_back_21 : decode cX8_back 21 = .ok (.iload_n 2, 1) := by decide +kernel
theorem dX8_back_22 : decode cX8_back 22 = .ok (.ldc 157, 2) := by decide +kernel
theorem dX8_back_24 : decode cX8_back 24 = .ok (.if_icmp .ne 6, 3) := by decide +kernel
theorem dX8_back_27 : decode cX8_back 27 = .ok (.ldc 158, 2) := by decide +kernel
theorem dX8_back_29 : decode cX8_back 29 = .ok (.ireturn, 1) := by decide +kernel
theorem dX8_back_30 : decode cX8_back 30 = .ok (.aload_n 0, 1) := by decide +kernel
theorem dX8_back_31 : decode cX8_back 31 = .ok (.getfield 33, 3) := by decide +kernel
theorem dX8_back_34 : decode cX8_back 34 = .ok (.aload_n 0, 1) := by decide +kernel
theorem dX8_back_35 : decode cX8_back 35 = .ok (.getfield 65, 3) := by decide +kernel
theorem dX8_back_38 : decode cX8_back 38 = .ok (.iload_n 1, 1) := by decide +kernel
theorem dX8_back_39 : decode cX8_back 39 = .ok (.invokevirtual 169, 3) := by decide +kernel
theorem dX8_back_42 : decode cX8_back 42 = .ok (.aload_n 0, 1) := by decide +kernel
theorem dX8_back_43 : decode cX8_back 43 = .ok (.getfield 65, 3) := by decide +kernel
theorem dX8_back_46 : decode cX8_back 46 = .ok (.getfield 154, 3) := by decide +kernel
theorem dX8_back_49 : decode cX8_back 49 = .ok (.iload_n 1, 1) := by decide +kernel
theorem dX8_back_50 : decode cX8_back 50 = .ok (.ldc 157, 2) := by decide +kernel
theorem dX8_back_52 : decode cX8_back 52 = .ok (.iastore, 1) := by decide +kernel
theorem dX8_back_53 : decode cX8_back 53 = .ok (.aload_n 0, 1) := by decide +kernel
theorem dX8_back_54 : decode cX8_back 54 = .ok (.getfield 65, 3) := by decide +kernel
theorem dX8_back_57 : decode cX8_back 57 = .ok (.getfield 172, 3) := by decide +kernel
theorem dX8_back_60 : decode cX8_back 60 = .ok (.iload_n 1, 1) := by decide +kernel
theorem dX8_back_61 : decode cX8_back 61 = .ok (.dup2, 1) := by decide +kernel
theorem dX8_back_62 : decode cX8_back 62 = .ok (.iaload, 1) := by decide +kernel
theorem dX8_back_63 : decode cX8_back 63 = .ok (.iconst 1, 1) := by decide +kernel
theorem dX8_back_64 : decode cX8_back 64 = .ok (.iadd, 1) := by decide +kernel
theorem dX8_back_65 : decode cX8_back 65 = .ok (.iastore, 1) := by decide +kernel
theorem dX8_back_66 : decode cX8_back 66 = .ok (.iload_n 2, 1) := by decide +kernel
theorem dX8_back_67 : decode cX8_back 67 = .ok (.ireturn, 1) := by decide +kernel
theorem dX8_undo_0 : decode cX8_undo 0 = .ok (.aload_n 0, 1) := by decide +kernel
theorem dX8_undo_1 : decode cX8_undo 1 = .ok (.getfield 33, 3) := by decide +kernel
theorem dX8_undo_4 : decode cX8_undo 4 = .ok (.getfield 142, 3) := by decide +kernel
theorem dX8_undo_7 : decode cX8_undo 7 = .ok (.ifCond .ne 6, 3) := by decide +kernel
theorem dX8_undo_10 : decode cX8_undo 10 = .ok (.ldc 158, 2) := by decide +kernel
theorem dX8_undo_12 : decode cX8_undo 12 = .ok (.ireturn, 1) := by decide +kernel
theorem dX8_undo_13 : decode cX8_undo 13 = .ok (.aload_n 0, 1) := by decide +kernel
theorem dX8_undo_14 : decode cX8_undo 14 = .ok (.getfield 33, 3) := by decide +kernel
theorem dX8_undo_17 : decode cX8_undo 17 = .ok (.aload_n 0, 1) := by decide +kernel
theorem dX8_undo_18 : decode cX8_undo 18 = .ok (.getfield 65, 3) := by decide +kernel
theorem dX8_undo_21 : decode cX8_undo 21 = .ok (.invokevirtual 175, 3) := by decide +kernel
theorem dX8_undo_24 : decode cX8_undo 24 = .ok (.aload_n 0, 1) := by decide +kernel
theorem dX8_undo_25 : decode cX8_undo 25 = .ok (.getfield 33, 3) := by decide +kernel
theorem dX8_undo_28 : decode cX8_undo 28 = .ok (.getfield 142, 3) := by decide +kernel
theorem dX8_undo_31 : decode cX8_undo 31 = .ok (.ireturn, 1) := by decide +kernel
theorem dX8_coin_0 : decode cX8_coin 0 = .ok (.aload_n 0, 1) := by decide +kernel
theorem dX8_coin_1 : decode cX8_coin 1 = .ok (.iload_n 1, 1) := by decide +kernel
theorem dX8_coin_2 : decode cX8_coin 2 = .ok (.invokevirtual 179, 3) := by decide +kernel
theorem dX8_coin_5 : decode cX8_coin 5 = .ok (.ifCond .eq 15, 3) := by decide +kernel
theorem dX8_coin_8 : decode cX8_coin 8 = .ok (.aload_n 0, 1) := by decide +kernel
theorem dX8_coin_9 : decode cX8_coin 9 = .ok (.getfield 65, 3) := by decide +kernel
theorem dX8_coin_12 : decode cX8_coin 12 = .ok (.getfield 182, 3) := by decide +kernel
theorem dX8_coin_15 : decode cX8_coin 15 = .ok (.iload_n 1, 1) := by decide +kernel
theorem dX8_coin_16 : decode cX8_coin 16 = .ok (.iaload, 1) := by decide +kernel
theorem dX8_coin_17 : decode cX8_coin 17 = .ok (.goto 5, 3) := by decide +kernel
theorem dX8_coin_20 : decode cX8_coin 20 = .ok (.ldc 76, 2) := by decide +kernel
theorem dX8_coin_22 : decode cX8_coin 22 = .ok (.ireturn, 1) := by decide +kernel
theorem dX8_thing_0 : decode cX8_thing 0 = .ok (.aload_n 0, 1) := by decide +kernel
theorem dX8_thing_1 : decode cX8_thing 1 = .ok (.iload_n 1, 1) := by decide +kernel
theorem dX8_thing_2 : decode cX8_thing 2 = .ok (.invokevirtual 148, 3) := by decide +kernel
theorem dX8_thing_5 : decode cX8_thing 5 = .ok (.ifCond .eq 10, 3) := by decide +kernel
theorem dX8_thing_8 : decode cX8_thing 8 = .ok (.iload_n 2, 1) := by decide +kernel
theorem dX8_thing_9 : decode cX8_thing 9 = .ok (.invokestatic 185, 3) := by decide +kernel
theorem dX8_thing_12 : decode cX8_thing 12 = .ok (.ifCond .ne 6, 3) := by decide +kernel
theorem dX8_thing_15 : decode cX8_thing 15 = .ok (.ldc 76, 2) := by decide +kernel
theorem dX8_thing_17 : decode cX8_thing 17 = .ok (.ireturn, 1) := by decide +kernel
theorem dX8_thing_18 : decode cX8_thing 18 = .ok (.iload_n 2, 1) := by decide +kernel
theorem dX8_thing_19 : decode cX8_thing 19 = .ok (.ifCond .ne 15, 3) := by decide +kernel
theorem dX8_thing_22 : decode cX8_thing 22 = .ok (.aload_n 0, 1) := by decide +kernel
theorem dX8_thing_23 : decode cX8_thing 23 = .ok (.getfield 65, 3) := by decide +kernel
theorem dX8_thing_26 : decode cX8_thing 26 = .ok (.getfield 154, 3) := by decide +kernel
theorem dX8_thing_29 : decode cX8_thing 29 = .ok (.iload_n 1, 1) := by decide +kernel
theorem dX8_thing_30 : decode cX8_thing 30 = .ok (.iaload, 1) := by decide +kernel
theorem dX8_thing_31 : decode cX8_thing 31 = .ok (.goto 12, 3) := by decide +kernel
theorem dX8_thing_34 : decode cX8_thing 34 = .ok (.aload_n 0, 1) := by decide +kernel
theorem dX8_thing_35 : decode cX8_thing 35 = .ok (.getfield 65, 3) := by decide +kernel
theorem dX8_thing_38 : decode cX8_thing 38 = .ok (.getfield 172, 3) := by decide +kernel
theorem dX8_thing_41 : decode cX8_thing 41 = .ok (.iload_n 1, 1) := by decide +kernel
theorem dX8_thing_42 : decode cX8_thing 42 = .ok (.iaload, 1) := by decide +kernel
theorem dX8_thing_43 : decode cX8_thing 43 = .ok (.ireturn, 1) := by decide +kernel
theorem dX8_worth_0 : decode cX8_worth 0 = .ok (.aload_n 0, 1) := by decide +kernel
theorem dX8_worth_1 : decode cX8_worth 1 = .ok (.iload_n 1, 1) := by decide +kernel
theorem dX8_worth_2 : decode cX8_worth 2 = .ok (.invokevirtual 148, 3) := by decide +kernel
theorem dX8_worth_5 : decode cX8_worth 5 = .ok (.ifCond .eq 18, 3) := by decide +kernel
theorem dX8_worth_8 : decode cX8_worth 8 = .ok (.aload_n 0, 1) := by decide +kernel
theorem dX8_worth_9 : decode cX8_worth 9 = .ok (.iload_n 2, 1) := by decide +kernel
theorem dX8_worth_10 : decode cX8_worth 10 = .ok (.invokevirtual 179, 3) := by decide +kernel
theorem dX8_worth_13 : decode cX8_worth 13 = .ok (.ifCond .eq 10, 3) := by decide +kernel
theorem dX8_worth_16 : decode cX8_worth 16 = .ok (.iload_n 3, 1) := by decide +kernel
theorem dX8_worth_17 : decode cX8_worth 17 = .ok (.invokestatic 185, 3) := by decide +kernel
theorem dX8_worth_20 : decode cX8_worth 20 = .ok (.ifCond .ne 6, 3) := by decide +kernel
theorem dX8_worth_23 : decode cX8_worth 23 = .ok (.ldc 76, 2) := by decide +kernel
theorem dX8_worth_25 : decode cX8_worth 25 = .ok (.ireturn, 1) := by decide +kernel
theorem dX8_worth_26 : decode cX8_worth 26 = .ok (.iload_n 3, 1) := by decide +kernel
theorem dX8_worth_27 : decode cX8_worth 27 = .ok (.ifCond .ne 15, 3) := by decide +kernel
theorem dX8_worth_30 : decode cX8_worth 30 = .ok (.aload_n 0, 1) := by decide +kernel
theorem dX8_worth_31 : decode cX8_worth 31 = .ok (.getfield 65, 3) := by decide +kernel
theorem dX8_worth_34 : decode cX8_worth 34 = .ok (.iload_n 1, 1) := by decide +kernel
theorem dX8_worth_35 : decode cX8_worth 35 = .ok (.iload_n 2, 1) := by decide +kernel
theorem dX8_worth_36 : decode cX8_worth 36 = .ok (.invokevirtual 188, 3) := by decide +kernel
theorem dX8_worth_39 : decode cX8_worth 39 = .ok (.goto 12, 3) := by decide +kernel
theorem dX8_worth_42 : decode cX8_worth 42 = .ok (.aload_n 0, 1) := by decide +kernel
theorem dX8_worth_43 : decode cX8_worth 43 = .ok (.getfield 65, 3) := by decide +kernel
theorem dX8_worth_46 : decode cX8_worth 46 = .ok (.iload_n 1, 1) := by decide +kernel
theorem dX8_worth_47 : decode cX8_worth 47 = .ok (.iload_n 2, 1) := by decide +kernel
theorem dX8_worth_48 : decode cX8_worth 48 = .ok (.invokevirtual 191, 3) := by decide +kernel
theorem dX8_worth_51 : decode cX8_worth 51 = .ok (.ireturn, 1) := by decide +kernel
theorem dX8_gain_0 : decode cX8_gain 0 = .ok (.aload_n 0, 1) := by decide +kernel
theorem dX8_gain_1 : decode cX8_gain 1 = .ok (.iload_n 1, 1) := by decide +kernel
theorem dX8_gain_2 : decode cX8_gain 2 = .ok (.invokevirtual 148, 3) := by decide +kernel
theorem dX8_gain_5 : decode cX8_gain 5 = .ok (.ifCond .eq 27, 3) := by decide +kernel
theorem dX8_gain_8 : decode cX8_gain 8 = .ok (.aload_n 0, 1) := by decide +kernel
theorem dX8_gain_9 : decode cX8_gain 9 = .ok (.iload_n 2, 1) := by decide +kernel
theorem dX8_gain_10 : decode cX8_gain 10 = .ok (.invokevirtual 72, 3) := by decide +kernel
theorem dX8_gain_13 : decode cX8_gain 13 = .ok (.ifCond .eq 19, 3) := by decide +kernel
theorem dX8_gain_16 : decode cX8_gain 16 = .ok (.aload_n 0, 1) := by decide +kernel
theorem dX8_gain_17 : decode cX8_gain 17 = .ok (.iload_n 3, 1) := by decide +kernel
theorem dX8_gain_18 : decode cX8_gain 18 = .ok (.invokevirtual 179, 3) := by decide +kernel
theorem dX8_gain_21 : decode cX8_gain 21 = .ok (.ifCond .eq 11, 3) := by decide +kernel
theorem dX8_gain_24 : decode cX8_gain 24 = .ok (.iload 4, 2) := by decide +kernel
theorem dX8_gain_26 : decode cX8_gain 26 = .ok (.invokestatic 185, 3) := by decide +kernel
theorem dX8_gain_29 : decode cX8_gain 29 = .ok (.ifCond .ne 6, 3) := by decide +kernel
theorem dX8_gain_32 : decode cX8_gain 32 = .ok (.ldc 76, 2) := by decide +kernel
theorem dX8_gain_34 : decode cX8_gain 34 = .ok (.ireturn, 1) := by decide +kernel
theorem dX8_gain_35 : decode cX8_gain 35 = .ok (.aload_n 0, 1) := by decide +kernel
theorem dX8_gain_36 : decode cX8_gain 36 = .ok (.iload_n 2, 1) := by decide +kernel
theorem dX8_gain_37 : decode cX8_gain 37 = .ok (.invokevirtual 159, 3) := by decide +kernel
theorem dX8_gain_40 : decode cX8_gain 40 = .ok (.istore 5, 2) := by decide +kernel
theorem dX8_gain_42 : decode cX8_gain 42 = .ok (.iload 5, 2) := by decide +kernel
theorem dX8_gain_44 : decode cX8_gain 44 = .ok (.ifCond .eq 6, 3) := by decide +kernel
theorem dX8_gain_47 : decode cX8_gain 47 = .ok (.iload 5, 2) := by decide +kernel
theorem dX8_gain_49 : decode cX8_gain 49 = .ok (.ireturn, 1) := by decide +kernel
theorem dX8_gain_50 : decode cX8_gain 50 = .ok (.aload_n 0, 1) := by decide +kernel
theorem dX8_gain_51 : decode cX8_gain 51 = .ok (.getfield 47, 3) := by decide +kernel
theorem dX8_gain_54 : decode cX8_gain 54 = .ok (.aload_n 0, 1) := by decide +kernel
theorem dX8_gain_55 : decode cX8_gain 55 = .ok (.getfield 65, 3) := by decide +kernel
theorem dX8_gain_58 : decode cX8_gain 58 = .ok (.iload_n 1, 1) := by decide +kernel
theorem dX8_gain_59 : decode cX8_gain 59 = .ok (.aload_n 0, 1) := by decide +kernel
theorem dX8_gain_60 : decode cX8_gain 60 = .ok (.getfield 40, 3) := by decide +kernel
theorem dX8_gain_63 : decode cX8_gain 63 = .ok (.iload_n 3, 1) := by decide +kernel
theorem dX8_gain_64 : decode cX8_gain 64 = .ok (.aload_n 0, 1) := by decide +kernel
theorem dX8_gain_65 : decode cX8_gain 65 = .ok (.getfield 65, 3) := by decide +kernel
theorem dX8_gain_68 : decode cX8_gain 68 = .ok (.getfield 194, 3) := by decide +kernel
theorem dX8_gain_71 : decode cX8_gain 71 = .ok (.invokevirtual 197, 3) := by decide +kernel
theorem dX8_gain_74 : decode cX8_gain 74 = .ok (.aload_n 0, 1) := by decide +kernel
theorem dX8_gain_75 : decode cX8_gain 75 = .ok (.getfield 47, 3) := by decide +kernel
theorem dX8_gain_78 : decode cX8_gain 78 = .ok (.aload_n 0, 1) := by decide +kernel
theorem dX8_gain_79 : decode cX8_gain 79 = .ok (.getfield 40, 3) := by decide +kernel
theorem dX8_gain_82 : decode cX8_gain 82 = .ok (.getfield 201, 3) := by decide +kernel
theorem dX8_gain_85 : decode cX8_gain 85 = .ok (.iload_n 3, 1) := by decide +kernel
theorem dX8_gain_86 : decode cX8_gain 86 = .ok (.iaload, 1) := by decide +kernel
theorem dX8_gain_87 : decode cX8_gain 87 = .ok (.invokevirtual 204, 3) := by decide +kernel
theorem dX8_gain_90 : decode cX8_gain 90 = .ok (.aload_n 0, 1) := by decide +kernel
theorem dX8_gain_91 : decode cX8_gain 91 = .ok (.getfield 47, 3) := by decide +kernel
theorem dX8_gain_94 : decode cX8_gain 94 = .ok (.getfield 207, 3) := by decide +kernel
theorem dX8_gain_97 : decode cX8_gain 97 = .ok (.iload 4, 2) := by decide +kernel
theorem dX8_gain_99 : decode cX8_gain 99 = .ok (.invokestatic 210, 3) := by decide +kernel
theorem dX8_gain_102 : decode cX8_gain 102 = .ok (.ireturn, 1) := by decide +kernel
theorem dX8_best_0 : decode cX8_best 0 = .ok (.aload_n 0, 1) := by decide +kernel
theorem dX8_best_1 : decode cX8_best 1 = .ok (.iload_n 1, 1) := by decide +kernel
theorem dX8_best_2 : decode cX8_best 2 = .ok (.invokevirtual 148, 3) := by decide +kernel
theorem dX8_best_5 : decode cX8_best 5 = .ok (.ifCond .eq 19, 3) := by decide +kernel
theorem dX8_best_8 : decode cX8_best 8 = .ok (.aload_n 0, 1) := by decide +kernel
theorem dX8_best_9 : decode cX8_best 9 = .ok (.iload_n 2, 1) := by decide +kernel
theorem dX8_best_10 : decode cX8_best 10 = .ok (.invokevirtual 72, 3) := by decide +kernel
theorem dX8_best_13 : decode cX8_best 13 = .ok (.ifCond .eq 11, 3) := by decide +kernel
theorem dX8_best_16 : decode cX8_best 16 = .ok (.aload_n 0, 1) := by decide +kernel
theorem dX8_best_17 : decode cX8_best 17 = .ok (.iload_n 3, 1) := by decide +kernel
theorem dX8_best_18 : decode cX8_best 18 = .ok (.invokevirtual 179, 3) := by decide +kernel
theorem dX8_best_21 : decode cX8_best 21 = .ok (.ifCond .ne 6, 3) := by decide +kernel
theorem dX8_best_24 : decode cX8_best 24 = .ok (.ldc 76, 2) := by decide +kernel
theorem dX8_best_26 : decode cX8_best 26 = .ok (.ireturn, 1) := by decide +kernel
theorem dX8_best_27 : decode cX8_best 27 = .ok (.aload_n 0, 1) := by decide +kernel
theorem dX8_best_28 : decode cX8_best 28 = .ok (.iload_n 2, 1) := by decide +kernel
theorem dX8_best_29 : decode cX8_best 29 = .ok (.invokevirtual 159, 3) := by decide +kernel
theorem dX8_best_32 : decode cX8_best 32 = .ok (.istore 4, 2) := by decide +kernel
theorem dX8_best_34 : decode cX8_best 34 = .ok (.iload 4, 2) := by decide +kernel
theorem dX8_best_36 : decode cX8_best 36 = .ok (.ifCond .eq 6, 3) := by decide +kernel
theorem dX8_best_39 : decode cX8_best 39 = .ok (.iload 4, 2) := by decide +kernel
theorem dX8_best_41 : decode cX8_best 41 = .ok (.ireturn, 1) := by decide +kernel
theorem dX8_best_42 : decode cX8_best 42 = .ok (.aload_n 0, 1) := by decide +kernel
theorem dX8_best_43 : decode cX8_best 43 = .ok (.getfield 47, 3) := by decide +kernel
theorem dX8_best_46 : decode cX8_best 46 = .ok (.aload_n 0, 1) := by decide +kernel
theorem dX8_best_47 : decode cX8_best 47 = .ok (.getfield 65, 3) := by decide +kernel
theorem dX8_best_50 : decode cX8_best 50 = .ok (.iload_n 1, 1) := by decide +kernel
theorem dX8_best_51 : decode cX8_best 51 = .ok (.aload_n 0, 1) := by decide +kernel
theorem dX8_best_52 : decode cX8_best 52 = .ok (.getfield 40, 3) := by decide +kernel
theorem dX8_best_55 : decode cX8_best 55 = .ok (.iload_n 3, 1) := by decide +kernel
theorem dX8_best_56 : decode cX8_best 56 = .ok (.aload_n 0, 1) := by decide +kernel
theorem dX8_best_57 : decode cX8_best 57 = .ok (.getfield 65, 3) := by decide +kernel
theorem dX8_best_60 : decode cX8_best 60 = .ok (.getfield 194, 3) := by decide +kernel
theorem dX8_best_63 : decode cX8_best 63 = .ok (.invokevirtual 197, 3) := by decide +kernel
theorem dX8_best_66 : decode cX8_best 66 = .ok (.aload_n 0, 1) := by decide +kernel
theorem dX8_best_67 : decode cX8_best 67 = .ok (.getfield 47, 3) := by decide +kernel
theorem dX8_best_70 : decode cX8_best 70 = .ok (.invokevirtual 214, 3) := by decide +kernel
theorem dX8_best_73 : decode cX8_best 73 = .ok (.ireturn, 1) := by decide +kernel
theorem dX8_rests_0 : decode cX8_rests 0 = .ok (.aload_n 0, 1) := by decide +kernel
theorem dX8_rests_1 : decode cX8_rests 1 = .ok (.iload_n 1, 1) := by decide +kernel
theorem dX8_rests_2 : decode cX8_rests 2 = .ok (.invokevirtual 148, 3) := by decide +kernel
theorem dX8_rests_5 : decode cX8_rests 5 = .ok (.ifCond .eq 16, 3) := by decide +kernel
theorem dX8_rests_8 : decode cX8_rests 8 = .ok (.iload_n 2, 1) := by decide +kernel
theorem dX8_rests_9 : decode cX8_rests 9 = .ok (.iconst (-1), 1) := by decide +kernel
theorem dX8_rests_10 : decode cX8_rests 10 = .ok (.if_icmp .eq 14, 3) := by decide +kernel
theorem dX8_rests_13 : decode cX8_rests 13 = .ok (.aload_n 0, 1) := by decide +kernel
theorem dX8_rests_14 : decode cX8_rests 14 = .ok (.iload_n 2, 1) := by decide +kernel
theorem dX8_rests_15 : decode cX8_rests 15 = .ok (.invokevirtual 179, 3) := by decide +kernel
theorem dX8_rests_18 : decode cX8_rests 18 = .ok (.ifCond .ne 6, 3) := by decide +kernel
theorem dX8_rests_21 : decode cX8_rests 21 = .ok (.ldc 76, 2) := by decide +kernel
theorem dX8_rests_23 : decode cX8_rests 23 = .ok (.ireturn, 1) := by decide +kernel
theorem dX8_rests_24 : decode cX8_rests 24 = .ok (.aload_n 0, 1) := by decide +kernel
theorem dX8_rests_25 : decode cX8_rests 25 = .ok (.getfield 54, 3) := by decide +kernel
theorem dX8_rests_28 : decode cX8_rests 28 = .ok (.aload_n 0, 1) := by decide +kernel
theorem dX8_rests_29 : decode cX8_rests 29 = .ok (.getfield 65, 3) := by decide +kernel
theorem dX8_rests_32 : decode cX8_rests 32 = .ok (.iload_n 1, 1) := by decide +kernel
theorem dX8_rests_33 : decode cX8_rests 33 = .ok (.invokevirtual 218, 3) := by decide +kernel
theorem dX8_rests_36 : decode cX8_rests 36 = .ok (.iload_n 2, 1) := by decide +kernel
theorem dX8_rests_37 : decode cX8_rests 37 = .ok (.iconst (-1), 1) := by decide +kernel
theorem dX8_rests_38 : decode cX8_rests 38 = .ok (.if_icmp .ne 11, 3) := by decide +kernel
theorem dX8_rests_41 : decode cX8_rests 41 = .ok (.aload_n 0, 1) := by decide +kernel
theorem dX8_rests_42 : decode cX8_rests 42 = .ok (.getfield 54, 3) := by decide +kernel
theorem dX8_rests_45 : decode cX8_rests 45 = .ok (.getfield 221, 3) := by decide +kernel
theorem dX8_rests_48 : decode cX8_rests 48 = .ok (.ireturn, 1) := by decide +kernel
theorem dX8_rests_49 : decode cX8_rests 49 = .ok (.aload_n 0, 1) := by decide +kernel
theorem dX8_rests_50 : decode cX8_rests 50 = .ok (.getfield 54, 3) := by decide +kernel
theorem dX8_rests_53 : decode cX8_rests 53 = .ok (.getfield 221, 3) := by decide +kernel
theorem dX8_rests_56 : decode cX8_rests 56 = .ok (.ifCond .ne 8, 3) := by decide +kernel
theorem dX8_rests_59 : decode cX8_rests 59 = .ok (.ldc 157, 2) := by decide +kernel
theorem dX8_rests_61 : decode cX8_rests 61 = .ok (.goto 12, 3) := by decide +kernel
theorem dX8_rests_64 : decode cX8_rests 64 = .ok (.aload_n 0, 1) := by decide +kernel
theorem dX8_rests_65 : decode cX8_rests 65 = .ok (.getfield 54, 3) := by decide +kernel
theorem dX8_rests_68 : decode cX8_rests 68 = .ok (.getfield 224, 3) := by decide +kernel
theorem dX8_rests_71 : decode cX8_rests 71 = .ok (.iload_n 2, 1) := by decide +kernel
theorem dX8_rests_72 : decode cX8_rests 72 = .ok (.iaload, 1) := by decide +kernel
theorem dX8_rests_73 : decode cX8_rests 73 = .ok (.ireturn, 1) := by decide +kernel
theorem dX8_rounds_0 : decode cX8_rounds 0 = .ok (.aload_n 0, 1) := by decide +kernel
theorem dX8_rounds_1 : decode cX8_rounds 1 = .ok (.iload_n 1, 1) := by decide +kernel
theorem dX8_rounds_2 : decode cX8_rounds 2 = .ok (.invokevirtual 148, 3) := by decide +kernel
theorem dX8_rounds_5 : decode cX8_rounds 5 = .ok (.ifCond .eq 24, 3) := by decide +kernel
theorem dX8_rounds_8 : decode cX8_rounds 8 = .ok (.aload_n 0, 1) := by decide +kernel
theorem dX8_rounds_9 : decode cX8_rounds 9 = .ok (.iload_n 2, 1) := by decide +kernel
theorem dX8_rounds_10 : decode cX8_rounds 10 = .ok (.invokevirtual 72, 3) := by decide +kernel
theorem dX8_rounds_13 : decode cX8_rounds 13 = .ok (.ifCond .eq 16, 3) := by decide +kernel
theorem dX8_rounds_16 : decode cX8_rounds 16 = .ok (.iload_n 3, 1) := by decide +kernel
theorem dX8_rounds_17 : decode cX8_rounds 17 = .ok (.iconst (-1), 1) := by decide +kernel
theorem dX8_rounds_18 : decode cX8_rounds 18 = .ok (.if_icmp .eq 14, 3) := by decide +kernel
theorem dX8_rounds_21 : decode cX8_rounds 21 = .ok (.aload_n 0, 1) := by decide +kernel
theorem dX8_rounds_22 : decode cX8_rounds 22 = .ok (.iload_n 3, 1) := by decide +kernel
theorem dX8_rounds_23 : decode cX8_rounds 23 = .ok (.invokevirtual 179, 3) := by decide +kernel
theorem dX8_rounds_26 : decode cX8_rounds 26 = .ok (.ifCond .ne 6, 3) := by decide +kernel
theorem dX8_rounds_29 : decode cX8_rounds 29 = .ok (.ldc 76, 2) := by decide +kernel
theorem dX8_rounds_31 : decode cX8_rounds 31 = .ok (.ireturn, 1) := by decide +kernel
theorem dX8_rounds_32 : decode cX8_rounds 32 = .ok (.aload_n 0, 1) := by decide +kernel
theorem dX8_rounds_33 : decode cX8_rounds 33 = .ok (.iload_n 2, 1) := by decide +kernel
theorem dX8_rounds_34 : decode cX8_rounds 34 = .ok (.invokevirtual 159, 3) := by decide +kernel
theorem dX8_rounds_37 : decode cX8_rounds 37 = .ok (.istore 4, 2) := by decide +kernel
theorem dX8_rounds_39 : decode cX8_rounds 39 = .ok (.iload 4, 2) := by decide +kernel
theorem dX8_rounds_41 : decode cX8_rounds 41 = .ok (.ifCond .eq 6, 3) := by decide +kernel
theorem dX8_rounds_44 : decode cX8_rounds 44 = .ok (.iload 4, 2) := by decide +kernel
theorem dX8_rounds_46 : decode cX8_rounds 46 = .ok (.ireturn, 1) := by decide +kernel
theorem dX8_rounds_47 : decode cX8_rounds 47 = .ok (.aload_n 0, 1) := by decide +kernel
theorem dX8_rounds_48 : decode cX8_rounds 48 = .ok (.getfield 54, 3) := by decide +kernel
theorem dX8_rounds_51 : decode cX8_rounds 51 = .ok (.aload_n 0, 1) := by decide +kernel
theorem dX8_rounds_52 : decode cX8_rounds 52 = .ok (.getfield 65, 3) := by decide +kernel
theorem dX8_rounds_55 : decode cX8_rounds 55 = .ok (.iload_n 1, 1) := by decide +kernel
theorem dX8_rounds_56 : decode cX8_rounds 56 = .ok (.aload_n 0, 1) := by decide +kernel
theorem dX8_rounds_57 : decode cX8_rounds 57 = .ok (.getfield 40, 3) := by decide +kernel
theorem dX8_rounds_60 : decode cX8_rounds 60 = .ok (.invokevirtual 227, 3) := by decide +kernel
theorem dX8_rounds_63 : decode cX8_rounds 63 = .ok (.istore 5, 2) := by decide +kernel
theorem dX8_rounds_65 : decode cX8_rounds 65 = .ok (.iload_n 3, 1) := by decide +kernel
theorem dX8_rounds_66 : decode cX8_rounds 66 = .ok (.iconst (-1), 1) := by decide +kernel
theorem dX8_rounds_67 : decode cX8_rounds 67 = .ok (.if_icmp .ne 8, 3) := by decide +kernel
theorem dX8_rounds_70 : decode cX8_rounds 70 = .ok (.iload 5, 2) := by decide +kernel
theorem dX8_rounds_72 : decode cX8_rounds 72 = .ok (.goto 12, 3) := by decide +kernel
theorem dX8_rounds_75 : decode cX8_rounds 75 = .ok (.aload_n 0, 1) := by decide +kernel
theorem dX8_rounds_76 : decode cX8_rounds 76 = .ok (.getfield 40, 3) := by decide +kernel
theorem dX8_rounds_79 : decode cX8_rounds 79 = .ok (.getfield 201, 3) := by decide +kernel
theorem dX8_rounds_82 : decode cX8_rounds 82 = .ok (.iload_n 3, 1) := by decide +kernel
theorem dX8_rounds_83 : decode cX8_rounds 83 = .ok (.iaload, 1) := by decide +kernel
theorem dX8_rounds_84 : decode cX8_rounds 84 = .ok (.ireturn, 1) := by decide +kernel
theorem dX8_least_0 : decode cX8_least 0 = .ok (.aload_n 0, 1) := by decide +kernel
theorem dX8_least_1 : decode cX8_least 1 = .ok (.iload_n 1, 1) := by decide +kernel
theorem dX8_least_2 : decode cX8_least 2 = .ok (.invokevirtual 148, 3) := by decide +kernel
theorem dX8_least_5 : decode cX8_least 5 = .ok (.ifCond .eq 10, 3) := by decide +kernel
theorem dX8_least_8 : decode cX8_least 8 = .ok (.iload_n 2, 1) := by decide +kernel
theorem dX8_least_9 : decode cX8_least 9 = .ok (.invokestatic 185, 3) := by decide +kernel
theorem dX8_least_12 : decode cX8_least 12 = .ok (.ifCond .ne 6, 3) := by decide +kernel
theorem dX8_least_15 : decode cX8_least 15 = .ok (.ldc 76, 2) := by decide +kernel
theorem dX8_least_17 : decode cX8_least 17 = .ok (.ireturn, 1) := by decide +kernel
theorem dX8_least_18 : decode cX8_least 18 = .ok (.iload_n 2, 1) := by decide +kernel
theorem dX8_least_19 : decode cX8_least 19 = .ok (.ifCond .ne 14, 3) := by decide +kernel
theorem dX8_least_22 : decode cX8_least 22 = .ok (.aload_n 0, 1) := by decide +kernel
theorem dX8_least_23 : decode cX8_least 23 = .ok (.getfield 65, 3) := by decide +kernel
theorem dX8_least_26 : decode cX8_least 26 = .ok (.iload_n 1, 1) := by decide +kernel
theorem dX8_least_27 : decode cX8_least 27 = .ok (.invokevirtual 231, 3) := by decide +kernel
theorem dX8_least_30 : decode cX8_least 30 = .ok (.goto 11, 3) := by decide +kernel
theorem dX8_least_33 : decode cX8_least 33 = .ok (.aload_n 0, 1) := by decide +kernel
theorem dX8_least_34 : decode cX8_least 34 = .ok (.getfield 65, 3) := by decide +kernel
theorem dX8_least_37 : decode cX8_least 37 = .ok (.iload_n 1, 1) := by decide +kernel
theorem dX8_least_38 : decode cX8_least 38 = .ok (.invokevirtual 234, 3) := by decide +kernel
theorem dX8_least_41 : decode cX8_least 41 = .ok (.ireturn, 1) := by decide +kernel
theorem dX8_lost_0 : decode cX8_lost 0 = .ok (.aload_n 0, 1) := by decide +kernel
theorem dX8_lost_1 : decode cX8_lost 1 = .ok (.iload_n 1, 1) := by decide +kernel
theorem dX8_lost_2 : decode cX8_lost 2 = .ok (.invokevirtual 148, 3) := by decide +kernel
theorem dX8_lost_5 : decode cX8_lost 5 = .ok (.ifCond .eq 18, 3) := by decide +kernel
theorem dX8_lost_8 : decode cX8_lost 8 = .ok (.aload_n 0, 1) := by decide +kernel
theorem dX8_lost_9 : decode cX8_lost 9 = .ok (.iload_n 2, 1) := by decide +kernel
theorem dX8_lost_10 : decode cX8_lost 10 = .ok (.invokevirtual 72, 3) := by decide +kernel
theorem dX8_lost_13 : decode cX8_lost 13 = .ok (.ifCond .eq 10, 3) := by decide +kernel
theorem dX8_lost_16 : decode cX8_lost 16 = .ok (.iload_n 3, 1) := by decide +kernel
theorem dX8_lost_17 : decode cX8_lost 17 = .ok (.invokestatic 185, 3) := by decide +kernel
theorem dX8_lost_20 : decode cX8_lost 20 = .ok (.ifCond .ne 6, 3) := by decide +kernel
theorem dX8_lost_23 : decode cX8_lost 23 = .ok (.ldc 76, 2) := by decide +kernel
theorem dX8_lost_25 : decode cX8_lost 25 = .ok (.ireturn, 1) := by decide +kernel
theorem dX8_lost_26 : decode cX8_lost 26 = .ok (.aload_n 0, 1) := by decide +kernel
theorem dX8_lost_27 : decode cX8_lost 27 = .ok (.iload_n 2, 1) := by decide +kernel
theorem dX8_lost_28 : decode cX8_lost 28 = .ok (.invokevirtual 159, 3) := by decide +kernel
theorem dX8_lost_31 : decode cX8_lost 31 = .ok (.istore 4, 2) := by decide +kernel
theorem dX8_lost_33 : decode cX8_lost 33 = .ok (.iload 4, 2) := by decide +kernel
theorem dX8_lost_35 : decode cX8_lost 35 = .ok (.ifCond .eq 6, 3) := by decide +kernel
theorem dX8_lost_38 : decode cX8_lost 38 = .ok (.iload 4, 2) := by decide +kernel
theorem dX8_lost_40 : decode cX8_lost 40 = .ok (.ireturn, 1) := by decide +kernel
theorem dX8_lost_41 : decode cX8_lost 41 = .ok (.aload_n 0, 1) := by decide +kernel
theorem dX8_lost_42 : decode cX8_lost 42 = .ok (.getfield 40, 3) := by decide +kernel
theorem dX8_lost_45 : decode cX8_lost 45 = .ok (.ldc 157, 2) := by decide +kernel
theorem dX8_lost_47 : decode cX8_lost 47 = .ok (.invokevirtual 237, 3) := by decide +kernel
theorem dX8_lost_50 : decode cX8_lost 50 = .ok (.istore 5, 2) := by decide +kernel
theorem dX8_lost_52 : decode cX8_lost 52 = .ok (.aload_n 0, 1) := by decide +kernel
theorem dX8_lost_53 : decode cX8_lost 53 = .ok (.getfield 65, 3) := by decide +kernel
theorem dX8_lost_56 : decode cX8_lost 56 = .ok (.iload_n 1, 1) := by decide +kernel
theorem dX8_lost_57 : decode cX8_lost 57 = .ok (.aload_n 0, 1) := by decide +kernel
theorem dX8_lost_58 : decode cX8_lost 58 = .ok (.getfield 65, 3) := by decide +kernel
theorem dX8_lost_61 : decode cX8_lost 61 = .ok (.iload_n 1, 1) := by decide +kernel
theorem dX8_lost_62 : decode cX8_lost 62 = .ok (.invokevirtual 234, 3) := by decide +kernel
theorem dX8_lost_65 : decode cX8_lost 65 = .ok (.invokevirtual 188, 3) := by decide +kernel
theorem dX8_lost_68 : decode cX8_lost 68 = .ok (.istore 6, 2) := by decide +kernel
theorem dX8_lost_70 : decode cX8_lost 70 = .ok (.iconst 0, 1) := by decide +kernel
theorem dX8_lost_71 : decode cX8_lost 71 = .ok (.istore 7, 2) := by decide +kernel
theorem dX8_lost_73 : decode cX8_lost 73 = .ok (.iconst 0, 1) := by decide +kernel
theorem dX8_lost_74 : decode cX8_lost 74 = .ok (.istore 8, 2) := by decide +kernel
theorem dX8_lost_76 : decode cX8_lost 76 = .ok (.iload 8, 2) := by decide +kernel
theorem dX8_lost_78 : decode cX8_lost 78 = .ok (.aload_n 0, 1) := by decide +kernel
theorem dX8_lost_79 : decode cX8_lost 79 = .ok (.getfield 65, 3) := by decide +kernel
theorem dX8_lost_82 : decode cX8_lost 82 = .ok (.getfield 145, 3) := by decide +kernel
theorem dX8_lost_85 : decode cX8_lost 85 = .ok (.if_icmp .ge 42, 3) := by decide +kernel
theorem dX8_lost_88 : decode cX8_lost 88 = .ok (.aload_n 0, 1) := by decide +kernel
theorem dX8_lost_89 : decode cX8_lost 89 = .ok (.getfield 40, 3) := by decide +kernel
theorem dX8_lost_92 : decode cX8_lost 92 = .ok (.getfield 201, 3) := by decide +kernel
theorem dX8_lost_95 : decode cX8_lost 95 = .ok (.iload 8, 2) := by decide +kernel
theorem dX8_lost_97 : decode cX8_lost 97 = .ok (.iaload, 1) := by decide +kernel
theorem dX8_lost_98 : decode cX8_lost 98 = .ok (.iload 5, 2) := by decide +kernel
theorem dX8_lost_100 : decode cX8_lost 100 = .ok (.if_icmp .ne 21, 3) := by decide +kernel
theorem dX8_lost_103 : decode cX8_lost 103 = .ok (.iload 7, 2) := by decide +kernel
theorem dX8_lost_105 : decode cX8_lost 105 = .ok (.iload 6, 2) := by decide +kernel
theorem dX8_lost_107 : decode cX8_lost 107 = .ok (.aload_n 0, 1) := by decide +kernel
theorem dX8_lost_108 : decode cX8_lost 108 = .ok (.getfield 65, 3) := by decide +kernel
theorem dX8_lost_111 : decode cX8_lost 111 = .ok (.iload_n 1, 1) := by decide +kernel
theorem dX8_lost_112 : decode cX8_lost 112 = .ok (.iload 8, 2) := by decide +kernel
theorem dX8_lost_114 : decode cX8_lost 114 = .ok (.invokevirtual 188, 3) := by decide +kernel
theorem dX8_lost_117 : decode cX8_lost 117 = .ok (.isub, 1) := by decide +kernel
theorem dX8_lost_118 : decode cX8_lost 118 = .ok (.iadd, 1) := by decide +kernel
theorem dX8_lost_119 : decode cX8_lost 119 = .ok (.istore 7, 2) := by decide +kernel
theorem dX8_lost_121 : decode cX8_lost 121 = .ok (.iinc 8 1, 3) := by decide +kernel
theorem dX8_lost_124 : decode cX8_lost 124 = .ok (.goto (-48), 3) := by decide +kernel
theorem dX8_lost_127 : decode cX8_lost 127 = .ok (.iload 7, 2) := by decide +kernel
theorem dX8_lost_129 : decode cX8_lost 129 = .ok (.aload_n 0, 1) := by decide +kernel
theorem dX8_lost_130 : decode cX8_lost 130 = .ok (.getfield 40, 3) := by decide +kernel
theorem dX8_lost_133 : decode cX8_lost 133 = .ok (.iload 5, 2) := by decide +kernel
theorem dX8_lost_135 : decode cX8_lost 135 = .ok (.ldc 157, 2) := by decide +kernel
theorem dX8_lost_137 : decode cX8_lost 137 = .ok (.invokevirtual 240, 3) := by decide +kernel
theorem dX8_lost_140 : decode cX8_lost 140 = .ok (.iload_n 3, 1) := by decide +kernel
theorem dX8_lost_141 : decode cX8_lost 141 = .ok (.invokestatic 210, 3) := by decide +kernel
theorem dX8_lost_144 : decode cX8_lost 144 = .ok (.ireturn, 1) := by decide +kernel
theorem dX8_honest_0 : decode cX8_honest 0 = .ok (.aload_n 0, 1) := by decide +kernel
theorem dX8_honest_1 : decode cX8_honest 1 = .ok (.iload_n 1, 1) := by decide +kernel
theorem dX8_honest_2 : decode cX8_honest 2 = .ok (.invokevirtual 148, 3) := by decide +kernel
theorem dX8_honest_5 : decode cX8_honest 5 = .ok (.ifCond .eq 10, 3) := by decide +kernel
theorem dX8_honest_8 : decode cX8_honest 8 = .ok (.iload_n 2, 1) := by decide +kernel
theorem dX8_honest_9 : decode cX8_honest 9 = .ok (.invokestatic 185, 3) := by decide +kernel
theorem dX8_honest_12 : decode cX8_honest 12 = .ok (.ifCond .ne 6, 3) := by decide +kernel
theorem dX8_honest_15 : decode cX8_honest 15 = .ok (.ldc 76, 2) := by decide +kernel
theorem dX8_honest_17 : decode cX8_honest 17 = .ok (.ireturn, 1) := by decide +kernel
theorem dX8_honest_18 : decode cX8_honest 18 = .ok (.aload_n 0, 1) := by decide +kernel
theorem dX8_honest_19 : decode cX8_honest 19 = .ok (.getfield 40, 3) := by decide +kernel
theorem dX8_honest_22 : decode cX8_honest 22 = .ok (.aload_n 0, 1) := by decide +kernel
theorem dX8_honest_23 : decode cX8_honest 23 = .ok (.getfield 65, 3) := by decide +kernel
theorem dX8_honest_26 : decode cX8_honest 26 = .ok (.iload_n 1, 1) := by decide +kernel
theorem dX8_honest_27 : decode cX8_honest 27 = .ok (.invokevirtual 165, 3) := by decide +kernel
theorem dX8_honest_30 : decode cX8_honest 30 = .ok (.iload_n 2, 1) := by decide +kernel
theorem dX8_honest_31 : decode cX8_honest 31 = .ok (.ifCond .ne 35, 3) := by decide +kernel
theorem dX8_honest_34 : decode cX8_honest 34 = .ok (.aload_n 0, 1) := by decide +kernel
theorem dX8_honest_35 : decode cX8_honest 35 = .ok (.getfield 54, 3) := by decide +kernel
theorem dX8_honest_38 : decode cX8_honest 38 = .ok (.aload_n 0, 1) := by decide +kernel
theorem dX8_honest_39 : decode cX8_honest 39 = .ok (.getfield 65, 3) := by decide +kernel
theorem dX8_honest_42 : decode cX8_honest 42 = .ok (.iload_n 1, 1) := by decide +kernel
theorem dX8_honest_43 : decode cX8_honest 43 = .ok (.aload_n 0, 1) := by decide +kernel
theorem dX8_honest_44 : decode cX8_honest 44 = .ok (.getfield 40, 3) := by decide +kernel
theorem dX8_honest_47 : decode cX8_honest 47 = .ok (.aload_n 0, 1) := by decide +kernel
theorem dX8_honest_48 : decode cX8_honest 48 = .ok (.getfield 65, 3) := by decide +kernel
theorem dX8_honest_51 : decode cX8_honest 51 = .ok (.getfield 194, 3) := by decide +kernel
theorem dX8_honest_54 : decode cX8_honest 54 = .ok (.invokevirtual 243, 3) := by decide +kernel
theorem dX8_honest_57 : decode cX8_honest 57 = .ok (.ifCond .eq 7, 3) := by decide +kernel
theorem dX8_honest_60 : decode cX8_honest 60 = .ok (.iconst 1, 1) := by decide +kernel
theorem dX8_honest_61 : decode cX8_honest 61 = .ok (.goto 4, 3) := by decide +kernel
theorem dX8_honest_64 : decode cX8_honest 64 = .ok (.iconst 0, 1) := by decide +kernel
theorem dX8_honest_65 : decode cX8_honest 65 = .ok (.ireturn, 1) := by decide +kernel
theorem dX8_honest_66 : decode cX8_honest 66 = .ok (.iconst 0, 1) := by decide +kernel
theorem dX8_honest_67 : decode cX8_honest 67 = .ok (.istore_n 3, 1) := by decide +kernel
theorem dX8_honest_68 : decode cX8_honest 68 = .ok (.iconst 0, 1) := by decide +kernel
theorem dX8_honest_69 : decode cX8_honest 69 = .ok (.istore 4, 2) := by decide +kernel
theorem dX8_honest_71 : decode cX8_honest 71 = .ok (.iload 4, 2) := by decide +kernel
theorem dX8_honest_73 : decode cX8_honest 73 = .ok (.iconst 4, 1) := by decide +kernel
theorem dX8_honest_74 : decode cX8_honest 74 = .ok (.if_icmp .ge 37, 3) := by decide +kernel
theorem dX8_honest_77 : decode cX8_honest 77 = .ok (.aload_n 0, 1) := by decide +kernel
theorem dX8_honest_78 : decode cX8_honest 78 = .ok (.getfield 54, 3) := by decide +kernel
theorem dX8_honest_81 : decode cX8_honest 81 = .ok (.aload_n 0, 1) := by decide +kernel
theorem dX8_honest_82 : decode cX8_honest 82 = .ok (.getfield 65, 3) := by decide +kernel
theorem dX8_honest_85 : decode cX8_honest 85 = .ok (.iload_n 1, 1) := by decide +kernel
theorem dX8_honest_86 : decode cX8_honest 86 = .ok (.aload_n 0, 1) := by decide +kernel
theorem dX8_honest_87 : decode cX8_honest 87 = .ok (.getfield 40, 3) := by decide +kernel
theorem dX8_honest_90 : decode cX8_honest 90 = .ok (.iload 4, 2) := by decide +kernel
theorem dX8_honest_92 : decode cX8_honest 92 = .ok (.invokevirtual 243, 3) := by decide +kernel
theorem dX8_honest_95 : decode cX8_honest 95 = .ok (.ifCond .eq 10, 3) := by decide +kernel
theorem dX8_honest_98 : decode cX8_honest 98 = .ok (.iload_n 3, 1) := by decide +kernel
theorem dX8_honest_99 : decode cX8_honest 99 = .ok (.iconst 1, 1) := by decide +kernel
theorem dX8_honest_100 : decode cX8_honest 100 = .ok (.iload 4, 2) := by decide +kernel
theorem dX8_honest_102 : decode cX8_honest 102 = .ok (.ishl, 1) := by decide +kernel
theorem dX8_honest_103 : decode cX8_honest 103 = .ok (.ior, 1) := by decide +kernel
theorem dX8_honest_104 : decode cX8_honest 104 = .ok (.istore_n 3, 1) := by decide +kernel
theorem dX8_honest_105 : decode cX8_honest 105 = .ok (.iinc 4 1, 3) := by decide +kernel
theorem dX8_honest_108 : decode cX8_honest 108 = .ok (.goto (-37), 3) := by decide +kernel
theorem dX8_honest_111 : decode cX8_honest 111 = .ok (.iload_n 3, 1) := by decide +kernel
theorem dX8_honest_112 : decode cX8_honest 112 = .ok (.ireturn, 1) := by decide +kernel
theorem dX8_ore_0 : decode cX8_ore 0 = .ok (.aload_n 0, 1) := by decide +kernel
theorem dX8_ore_1 : decode cX8_ore 1 = .ok (.iload_n 1, 1) := by decide +kernel
theorem dX8_ore_2 : decode cX8_ore 2 = .ok (.invokevirtual 148, 3) := by decide +kernel
theorem dX8_ore_5 : decode cX8_ore 5 = .ok (.ifCond .eq 11, 3) := by decide +kernel
theorem dX8_ore_8 : decode cX8_ore 8 = .ok (.aload_n 0, 1) := by decide +kernel
theorem dX8_ore_9 : decode cX8_ore 9 = .ok (.iload_n 2, 1) := by decide +kernel
theorem dX8_ore_10 : decode cX8_ore 10 = .ok (.invokevirtual 72, 3) := by decide +kernel
theorem dX8_ore_13 : decode cX8_ore 13 = .ok (.ifCond .ne 6, 3) := by decide +kernel
theorem dX8_ore_16 : decode cX8_ore 16 = .ok (.ldc 76, 2) := by decide +kernel
theorem dX8_ore_18 : decode cX8_ore 18 = .ok (.ireturn, 1) := by decide +kernel
theorem dX8_ore_19 : decode cX8_ore 19 = .ok (.aload_n 0, 1) := by decide +kernel
theorem dX8_ore_20 : decode cX8_ore 20 = .ok (.iload_n 2, 1) := by decide +kernel
theorem dX8_ore_21 : decode cX8_ore 21 = .ok (.invokevirtual 159, 3) := by decide +kernel
theorem dX8_ore_24 : decode cX8_ore 24 = .ok (.istore_n 3, 1) := by decide +kernel
theorem dX8_ore_25 : decode cX8_ore 25 = .ok (.iload_n 3, 1) := by decide +kernel
theorem dX8_ore_26 : decode cX8_ore 26 = .ok (.ifCond .eq 5, 3) := by decide +kernel
theorem dX8_ore_29 : decode cX8_ore 29 = .ok (.iload_n 3, 1) := by decide +kernel
theorem dX8_ore_30 : decode cX8_ore 30 = .ok (.ireturn, 1) := by decide +kernel
theorem dX8_ore_31 : decode cX8_ore 31 = .ok (.iconst 0, 1) := by decide +kernel
theorem dX8_ore_32 : decode cX8_ore 32 = .ok (.istore 4, 2) := by decide +kernel
theorem dX8_ore_34 : decode cX8_ore 34 = .ok (.iconst 0, 1) := by decide +kernel
theorem dX8_ore_35 : decode cX8_ore 35 = .ok (.istore 5, 2) := by decide +kernel
theorem dX8_ore_37 : decode cX8_ore 37 = .ok (.iload 5, 2) := by decide +kernel
theorem dX8_ore_39 : decode cX8_ore 39 = .ok (.aload_n 0, 1) := by decide +kernel
theorem dX8_ore_40 : decode cX8_ore 40 = .ok (.getfield 65, 3) := by decide +kernel
theorem dX8_ore_43 : decode cX8_ore 43 = .ok (.getfield 145, 3) := by decide +kernel
theorem dX8_ore_46 : decode cX8_ore 46 = .ok (.if_icmp .ge 41, 3) := by decide +kernel
theorem dX8_ore_49 : decode cX8_ore 49 = .ok (.aload_n 0, 1) := by decide +kernel
theorem dX8_ore_50 : decode cX8_ore 50 = .ok (.getfield 40, 3) := by decide +kernel
theorem dX8_ore_53 : decode cX8_ore 53 = .ok (.getfield 201, 3) := by decide +kernel
theorem dX8_ore_56 : decode cX8_ore 56 = .ok (.iload 5, 2) := by decide +kernel
theorem dX8_ore_58 : decode cX8_ore 58 = .ok (.iaload, 1) := by decide +kernel
theorem dX8_ore_59 : decode cX8_ore 59 = .ok (.aload_n 0, 1) := by decide +kernel
theorem dX8_ore_60 : decode cX8_ore 60 = .ok (.getfield 65, 3) := by decide +kernel
theorem dX8_ore_63 : decode cX8_ore 63 = .ok (.iload_n 1, 1) := by decide +kernel
theorem dX8_ore_64 : decode cX8_ore 64 = .ok (.iload 5, 2) := by decide +kernel
theorem dX8_ore_66 : decode cX8_ore 66 = .ok (.invokevirtual 191, 3) := by decide +kernel
theorem dX8_ore_69 : decode cX8_ore 69 = .ok (.if_icmp .ge 12, 3) := by decide +kernel
theorem dX8_ore_72 : decode cX8_ore 72 = .ok (.iload 4, 2) := by decide +kernel
theorem dX8_ore_74 : decode cX8_ore 74 = .ok (.iconst 1, 1) := by decide +kernel
theorem dX8_ore_75 : decode cX8_ore 75 = .ok (.iload 5, 2) := by decide +kernel
theorem dX8_ore_77 : decode cX8_ore 77 = .ok (.ishl, 1) := by decide +kernel
theorem dX8_ore_78 : decode cX8_ore 78 = .ok (.ior, 1) := by decide +kernel
theorem dX8_ore_79 : decode cX8_ore 79 = .ok (.istore 4, 2) := by decide +kernel
theorem dX8_ore_81 : decode cX8_ore 81 = .ok (.iinc 5 1, 3) := by decide +kernel
theorem dX8_ore_84 : decode cX8_ore 84 = .ok (.goto (-47), 3) := by decide +kernel
theorem dX8_ore_87 : decode cX8_ore 87 = .ok (.iload 4, 2) := by decide +kernel
theorem dX8_ore_89 : decode cX8_ore 89 = .ok (.ireturn, 1) := by decide +kernel
theorem dX8_image_0 : decode cX8_image 0 = .ok (.iload_n 1, 1) := by decide +kernel
theorem dX8_image_1 : decode cX8_image 1 = .ok (.ifCond .lt 8, 3) := by decide +kernel
theorem dX8_image_4 : decode cX8_image 4 = .ok (.iload_n 1, 1) := by decide +kernel
theorem dX8_image_5 : decode cX8_image 5 = .ok (.iconst 2, 1) := by decide +kernel
theorem dX8_image_6 : decode cX8_image 6 = .ok (.if_icmp .lt 6, 3) := by decide +kernel
theorem dX8_image_9 : decode cX8_image 9 = .ok (.ldc 76, 2) := by decide +kernel
theorem dX8_image_11 : decode cX8_image 11 = .ok (.ireturn, 1) := by decide +kernel
theorem dX8_image_12 : decode cX8_image 12 = .ok (.aload_n 0, 1) := by decide +kernel
theorem dX8_image_13 : decode cX8_image 13 = .ok (.getfield 65, 3) := by decide +kernel
theorem dX8_image_16 : decode cX8_image 16 = .ok (.getfield 145, 3) := by decide +kernel
theorem dX8_image_19 : decode cX8_image 19 = .ok (.ifCond .ne 6, 3) := by decide +kernel
theorem dX8_image_22 : decode cX8_image 22 = .ok (.ldc 158, 2) := by decide +kernel
theorem dX8_image_24 : decode cX8_image 24 = .ok (.ireturn, 1) := by decide +kernel
theorem dX8_image_25 : decode cX8_image 25 = .ok (.aload_n 0, 1) := by decide +kernel
theorem dX8_image_26 : decode cX8_image 26 = .ok (.getfield 18, 3) := by decide +kernel
theorem dX8_image_29 : decode cX8_image 29 = .ok (.iload_n 1, 1) := by decide +kernel
theorem dX8_image_30 : decode cX8_image 30 = .ok (.aaload, 1) := by decide +kernel
theorem dX8_image_31 : decode cX8_image 31 = .ok (.aload_n 0, 1) := by decide +kernel
theorem dX8_image_32 : decode cX8_image 32 = .ok (.getfield 65, 3) := by decide +kernel
theorem dX8_image_35 : decode cX8_image 35 = .ok (.invokevirtual 247, 3) := by decide +kernel
theorem dX8_image_38 : decode cX8_image 38 = .ok (.iconst 1, 1) := by decide +kernel
theorem dX8_image_39 : decode cX8_image 39 = .ok (.ireturn, 1) := by decide +kernel
theorem dX8_restore_0 : decode cX8_restore 0 = .ok (.iload_n 1, 1) := by decide +kernel
theorem dX8_restore_1 : decode cX8_restore 1 = .ok (.ifCond .lt 8, 3) := by decide +kernel
theorem dX8_restore_4 : decode cX8_restore 4 = .ok (.iload_n 1, 1) := by decide +kernel
theorem dX8_restore_5 : decode cX8_restore 5 = .ok (.iconst 2, 1) := by decide +kernel
theorem dX8_restore_6 : decode cX8_restore 6 = .ok (.if_icmp .lt 6, 3) := by decide +kernel
theorem dX8_restore_9 : decode cX8_restore 9 = .ok (.ldc 76, 2) := by decide +kernel
theorem dX8_restore_11 : decode cX8_restore 11 = .ok (.ireturn, 1) := by decide +kernel
theorem dX8_restore_12 : decode cX8_restore 12 = .ok (.aload_n 0, 1) := by decide +kernel
theorem dX8_restore_13 : decode cX8_restore 13 = .ok (.getfield 18, 3) := by decide +kernel
theorem dX8_restore_16 : decode cX8_restore 16 = .ok (.iload_n 1, 1) := by decide +kernel
theorem dX8_restore_17 : decode cX8_restore 17 = .ok (.aaload, 1) := by decide +kernel
theorem dX8_restore_18 : decode cX8_restore 18 = .ok (.getfield 145, 3) := by decide +kernel
theorem dX8_restore_21 : decode cX8_restore 21 = .ok (.ifCond .ne 6, 3) := by decide +kernel
theorem dX8_restore_24 : decode cX8_restore 24 = .ok (.ldc 158, 2) := by decide +kernel
theorem dX8_restore_26 : decode cX8_restore 26 = .ok (.ireturn, 1) := by decide +kernel
theorem dX8_restore_27 : decode cX8_restore 27 = .ok (.aload_n 0, 1) := by decide +kernel
theorem dX8_restore_28 : decode cX8_restore 28 = .ok (.getfield 65, 3) := by decide +kernel
theorem dX8_restore_31 : decode cX8_restore 31 = .ok (.aload_n 0, 1) := by decide +kernel
theorem dX8_restore_32 : decode cX8_restore 32 = .ok (.getfield 18, 3) := by decide +kernel
theorem dX8_restore_35 : decode cX8_restore 35 = .ok (.iload_n 1, 1) := by decide +kernel
theorem dX8_restore_36 : decode cX8_restore 36 = .ok (.aaload, 1) := by decide +kernel
theorem dX8_restore_37 : decode cX8_restore 37 = .ok (.invokevirtual 247, 3) := by decide +kernel
theorem dX8_restore_40 : decode cX8_restore 40 = .ok (.aload_n 0, 1) := by decide +kernel
theorem dX8_restore_41 : decode cX8_restore 41 = .ok (.getfield 33, 3) := by decide +kernel
theorem dX8_restore_44 : decode cX8_restore 44 = .ok (.iconst 0, 1) := by decide +kernel
theorem dX8_restore_45 : decode cX8_restore 45 = .ok (.putfield 142, 3) := by decide +kernel
theorem dX8_restore_48 : decode cX8_restore 48 = .ok (.iconst 1, 1) := by decide +kernel
theorem dX8_restore_49 : decode cX8_restore 49 = .ok (.ireturn, 1) := by decide +kernel
theorem dX8_kind_0 : decode cX8_kind 0 = .ok (.aload_n 0, 1) := by decide +kernel
theorem dX8_kind_1 : decode cX8_kind 1 = .ok (.iload_n 1, 1) := by decide +kernel
theorem dX8_kind_2 : decode cX8_kind 2 = .ok (.invokevirtual 179, 3) := by decide +kernel
theorem dX8_kind_5 : decode cX8_kind 5 = .ok (.ifCond .eq 15, 3) := by decide +kernel
theorem dX8_kind_8 : decode cX8_kind 8 = .ok (.aload_n 0, 1) := by decide +kernel
theorem dX8_kind_9 : decode cX8_kind 9 = .ok (.getfield 65, 3) := by decide +kernel
theorem dX8_kind_12 : decode cX8_kind 12 = .ok (.getfield 250, 3) := by decide +kernel
theorem dX8_kind_15 : decode cX8_kind 15 = .ok (.iload_n 1, 1) := by decide +kernel
theorem dX8_kind_16 : decode cX8_kind 16 = .ok (.iaload, 1) := by decide +kernel
theorem dX8_kind_17 : decode cX8_kind 17 = .ok (.goto 5, 3) := by decide +kernel
theorem dX8_kind_20 : decode cX8_kind 20 = .ok (.ldc 76, 2) := by decide +kernel
theorem dX8_kind_22 : decode cX8_kind 22 = .ok (.ireturn, 1) := by decide +kernel
theorem dX8_as_0 : decode cX8_as 0 = .ok (.aload_n 0, 1) := by decide +kernel
theorem dX8_as_1 : decode cX8_as 1 = .ok (.iload_n 1, 1) := by decide +kernel
theorem dX8_as_2 : decode cX8_as 2 = .ok (.invokevirtual 179, 3) := by decide +kernel
theorem dX8_as_5 : decode cX8_as 5 = .ok (.ifCond .eq 13, 3) := by decide +kernel
theorem dX8_as_8 : decode cX8_as 8 = .ok (.iload_n 2, 1) := by decide +kernel
theorem dX8_as_9 : decode cX8_as 9 = .ok (.ifCond .lt 9, 3) := by decide +kernel
theorem dX8_as_12 : decode cX8_as 12 = .ok (.iload_n 2, 1) := by decide +kernel
theorem dX8_as_13 : decode cX8_as 13 = .ok (.bipush 6, 2) := by decide +kernel
theorem dX8_as_15 : decode cX8_as 15 = .ok (.if_icmp .lt 6, 3) := by decide +kernel
theorem dX8_as_18 : decode cX8_as 18 = .ok (.ldc 76, 2) := by decide +kernel
theorem dX8_as_20 : decode cX8_as 20 = .ok (.ireturn, 1) := by decide +kernel
theorem dX8_as_21 : decode cX8_as 21 = .ok (.aload_n 0, 1) := by decide +kernel
theorem dX8_as_22 : decode cX8_as 22 = .ok (.getfield 65, 3) := by decide +kernel
theorem dX8_as_25 : decode cX8_as 25 = .ok (.getfield 250, 3) := by decide +kernel
theorem dX8_as_28 : decode cX8_as 28 = .ok (.iload_n 1, 1) := by decide +kernel
theorem dX8_as_29 : decode cX8_as 29 = .ok (.iaload, 1) := by decide +kernel
theorem dX8_as_30 : decode cX8_as 30 = .ok (.iload_n 2, 1) := by decide +kernel
theorem dX8_as_31 : decode cX8_as 31 = .ok (.invokestatic 253, 3) := by decide +kernel
theorem dX8_as_34 : decode cX8_as 34 = .ok (.ifCond .eq 11, 3) := by decide +kernel
theorem dX8_as_37 : decode cX8_as 37 = .ok (.aload_n 0, 1) := by decide +kernel
theorem dX8_as_38 : decode cX8_as 38 = .ok (.iload_n 1, 1) := by decide +kernel
theorem dX8_as_39 : decode cX8_as 39 = .ok (.invokevirtual 85, 3) := by decide +kernel
theorem dX8_as_42 : decode cX8_as 42 = .ok (.goto 8, 3) := by decide +kernel
theorem dX8_as_45 : decode cX8_as 45 = .ok (.aload_n 0, 1) := by decide +kernel
theorem dX8_as_46 : decode cX8_as 46 = .ok (.iconst 3, 1) := by decide +kernel
theorem dX8_as_47 : decode cX8_as 47 = .ok (.invokevirtual 77, 3) := by decide +kernel
theorem dX8_as_50 : decode cX8_as 50 = .ok (.ireturn, 1) := by decide +kernel
theorem dX8_ask_0 : decode cX8_ask 0 = .ok (.aload_n 0, 1) := by decide +kernel
theorem dX8_ask_1 : decode cX8_ask 1 = .ok (.iload_n 1, 1) := by decide +kernel
theorem dX8_ask_2 : decode cX8_ask 2 = .ok (.invokevirtual 179, 3) := by decide +kernel
theorem dX8_ask_5 : decode cX8_ask 5 = .ok (.ifCond .eq 10, 3) := by decide +kernel
theorem dX8_ask_8 : decode cX8_ask 8 = .ok (.iload_n 2, 1) := by decide +kernel
theorem dX8_ask_9 : decode cX8_ask 9 = .ok (.invokestatic 185, 3) := by decide +kernel
theorem dX8_ask_12 : decode cX8_ask 12 = .ok (.ifCond .ne 6, 3) := by decide +kernel
theorem dX8_ask_15 : decode cX8_ask 15 = .ok (.ldc 76, 2) := by decide +kernel
theorem dX8_ask_17 : decode cX8_ask 17 = .ok (.ireturn, 1) := by decide +kernel
theorem dX8_ask_18 : decode cX8_ask 18 = .ok (.aload_n 0, 1) := by decide +kernel
theorem dX8_ask_19 : decode cX8_ask 19 = .ok (.getfield 61, 3) := by decide +kernel
theorem dX8_ask_22 : decode cX8_ask 22 = .ok (.aload_n 0, 1) := by decide +kernel
theorem dX8_ask_23 : decode cX8_ask 23 = .ok (.getfield 65, 3) := by decide +kernel
theorem dX8_ask_26 : decode cX8_ask 26 = .ok (.iload_n 1, 1) := by decide +kernel
theorem dX8_ask_27 : decode cX8_ask 27 = .ok (.iload_n 2, 1) := by decide +kernel
theorem dX8_ask_28 : decode cX8_ask 28 = .ok (.invokevirtual 256, 3) := by decide +kernel
theorem dX8_ask_31 : decode cX8_ask 31 = .ok (.ireturn, 1) := by decide +kernel
theorem dX8_trace_0 : decode cX8_trace 0 = .ok (.iload_n 1, 1) := by decide +kernel
theorem dX8_trace_1 : decode cX8_trace 1 = .ok (.ifCond .lt 26, 3) := by decide +kernel
theorem dX8_trace_4 : decode cX8_trace 4 = .ok (.iload_n 1, 1) := by decide +kernel
theorem dX8_trace_5 : decode cX8_trace 5 = .ok (.aload_n 0, 1) := by decide +kernel
theorem dX8_trace_6 : decode cX8_trace 6 = .ok (.getfield 61, 3) := by decide +kernel
theorem dX8_trace_9 : decode cX8_trace 9 = .ok (.getfield 260, 3) := by decide +kernel
theorem dX8_trace_12 : decode cX8_trace 12 = .ok (.if_icmp .ge 15, 3) := by decide +kernel
theorem dX8_trace_15 : decode cX8_trace 15 = .ok (.aload_n 0, 1) := by decide +kernel
theorem dX8_trace_16 : decode cX8_trace 16 = .ok (.getfield 61, 3) := by decide +kernel
theorem dX8_trace_19 : decode cX8_trace 19 = .ok (.getfield 263, 3) := by decide +kernel
theorem dX8_trace_22 : decode cX8_trace 22 = .ok (.iload_n 1, 1) := by decide +kernel
theorem dX8_trace_23 : decode cX8_trace 23 = .ok (.iaload, 1) := by decide +kernel
theorem dX8_trace_24 : decode cX8_trace 24 = .ok (.goto 5, 3) := by decide +kernel
theorem dX8_trace_27 : decode cX8_trace 27 = .ok (.ldc 157, 2) := by decide +kernel
theorem dX8_trace_29 : decode cX8_trace 29 = .ok (.ireturn, 1) := by decide +kernel
theorem dX8_count_0 : decode cX8_count 0 = .ok (.iload_n 1, 1) := by decide +kernel
theorem dX8_count_1 : decode cX8_count 1 = .ok (.tableswitch 108 0 7 #[47, 52, 60, 68, 76, 84, 92, 100], 47) := by decide +kernel
theorem dX8_count_48 : decode cX8_count 48 = .ok (.aload_n 0, 1) := by decide +kernel
theorem dX8_count_49 : decode cX8_count 49 = .ok (.invokevirtual 266, 3) := by decide +kernel
theorem dX8_count_52 : decode cX8_count 52 = .ok (.ireturn, 1) := by decide +kernel
theorem dX8_count_53 : decode cX8_count 53 = .ok (.aload_n 0, 1) := by decide +kernel
theorem dX8_count_54 : decode cX8_count 54 = .ok (.getfield 65, 3) := by decide +kernel
theorem dX8_count_57 : decode cX8_count 57 = .ok (.getfield 145, 3) := by decide +kernel
theorem dX8_count_60 : decode cX8_count 60 = .ok (.ireturn, 1) := by decide +kernel
theorem dX8_count_61 : decode cX8_count 61 = .ok (.aload_n 0, 1) := by decide +kernel
theorem dX8_count_62 : decode cX8_count 62 = .ok (.getfield 65, 3) := by decide +kernel
theorem dX8_count_65 : decode cX8_count 65 = .ok (.getfield 269, 3) := by decide +kernel
theorem dX8_count_68 : decode cX8_count 68 = .ok (.ireturn, 1) := by decide +kernel
theorem dX8_count_69 : decode cX8_count 69 = .ok (.aload_n 0, 1) := by decide +kernel
theorem dX8_count_70 : decode cX8_count 70 = .ok (.getfield 65, 3) := by decide +kernel
theorem dX8_count_73 : decode cX8_count 73 = .ok (.invokevirtual 272, 3) := by decide +kernel
theorem dX8_count_76 : decode cX8_count 76 = .ok (.ireturn, 1) := by decide +kernel
theorem dX8_count_77 : decode cX8_count 77 = .ok (.aload_n 0, 1) := by decide +kernel
theorem dX8_count_78 : decode cX8_count 78 = .ok (.getfield 33, 3) := by decide +kernel
theorem dX8_count_81 : decode cX8_count 81 = .ok (.getfield 142, 3) := by decide +kernel
theorem dX8_count_84 : decode cX8_count 84 = .ok (.ireturn, 1) := by decide +kernel
theorem dX8_count_85 : decode cX8_count 85 = .ok (.aload_n 0, 1) := by decide +kernel
theorem dX8_count_86 : decode cX8_count 86 = .ok (.getfield 65, 3) := by decide +kernel
theorem dX8_count_89 : decode cX8_count 89 = .ok (.getfield 194, 3) := by decide +kernel
theorem dX8_count_92 : decode cX8_count 92 = .ok (.ireturn, 1) := by decide +kernel
theorem dX8_count_93 : decode cX8_count 93 = .ok (.aload_n 0, 1) := by decide +kernel
theorem dX8_count_94 : decode cX8_count 94 = .ok (.getfield 65, 3) := by decide +kernel
theorem dX8_count_97 : decode cX8_count 97 = .ok (.getfield 275, 3) := by decide +kernel
theorem dX8_count_100 : decode cX8_count 100 = .ok (.ireturn, 1) := by decide +kernel
theorem dX8_count_101 : decode cX8_count 101 = .ok (.aload_n 0, 1) := by decide +kernel
theorem dX8_count_102 : decode cX8_count 102 = .ok (.getfield 26, 3) := by decide +kernel
theorem dX8_count_105 : decode cX8_count 105 = .ok (.getfield 125, 3) := by decide +kernel
theorem dX8_count_108 : decode cX8_count 108 = .ok (.ireturn, 1) := by decide +kernel
theorem dX8_count_109 : decode cX8_count 109 = .ok (.ldc 76, 2) := by decide +kernel
theorem dX8_count_111 : decode cX8_count 111 = .ok (.ireturn, 1) := by decide +kernel
theorem dX8_status_0 : decode cX8_status 0 = .ok (.aload_n 0, 1) := by decide +kernel
theorem dX8_status_1 : decode cX8_status 1 = .ok (.getfield 278, 3) := by decide +kernel
theorem dX8_status_4 : decode cX8_status 4 = .ok (.ireturn, 1) := by decide +kernel
theorem dX8_isRow_0 : decode cX8_isRow 0 = .ok (.iload_n 1, 1) := by decide +kernel
theorem dX8_isRow_1 : decode cX8_isRow 1 = .ok (.ifCond .lt 13, 3) := by decide +kernel
theorem dX8_isRow_4 : decode cX8_isRow 4 = .ok (.iload_n 1, 1) := by decide +kernel
theorem dX8_isRow_5 : decode cX8_isRow 5 = .ok (.bipush 8, 2) := by decide +kernel
theorem dX8_isRow_7 : decode cX8_isRow 7 = .ok (.if_icmp .ge 7, 3) := by decide +kernel
theorem dX8_isRow_10 : decode cX8_isRow 10 = .ok (.iconst 1, 1) := by decide +kernel
theorem dX8_isRow_11 : decode cX8_isRow 11 = .ok (.goto 4, 3) := by decide +kernel
theorem dX8_isRow_14 : decode cX8_isRow 14 = .ok (.iconst 0, 1) := by decide +kernel
theorem dX8_isRow_15 : decode cX8_isRow 15 = .ok (.ireturn, 1) := by decide +kernel
theorem dX8_isThing_0 : decode cX8_isThing 0 = .ok (.iload_n 1, 1) := by decide +kernel
theorem dX8_isThing_1 : decode cX8_isThing 1 = .ok (.ifCond .lt 18, 3) := by decide +kernel
theorem dX8_isThing_4 : decode cX8_isThing 4 = .ok (.iload_n 1, 1) := by decide +kernel
theorem dX8_isThing_5 : decode cX8_isThing 5 = .ok (.aload_n 0, 1) := by decide +kernel
theorem dX8_isThing_6 : decode cX8_isThing 6 = .ok (.getfield 65, 3) := by decide +kernel
theorem dX8_isThing_9 : decode cX8_isThing 9 = .ok (.getfield 269, 3) := by decide +kernel
theorem dX8_isThing_12 : decode cX8_isThing 12 = .ok (.if_icmp .ge 7, 3) := by decide +kernel
theorem dX8_isThing_15 : decode cX8_isThing 15 = .ok (.iconst 1, 1) := by decide +kernel
theorem dX8_isThing_16 : decode cX8_isThing 16 = .ok (.goto 4, 3) := by decide +kernel
theorem dX8_isThing_19 : decode cX8_isThing 19 = .ok (.iconst 0, 1) := by decide +kernel
theorem dX8_isThing_20 : decode cX8_isThing 20 = .ok (.ireturn, 1) := by decide +kernel
theorem dX8_isPerson_0 : decode cX8_isPerson 0 = .ok (.iload_n 1, 1) := by decide +kernel
theorem dX8_isPerson_1 : decode cX8_isPerson 1 = .ok (.ifCond .lt 18, 3) := by decide +kernel
theorem dX8_isPerson_4 : decode cX8_isPerson 4 = .ok (.iload_n 1, 1) := by decide +kernel
theorem dX8_isPerson_5 : decode cX8_isPerson 5 = .ok (.aload_n 0, 1) := by decide +kernel
theorem dX8_isPerson_6 : decode cX8_isPerson 6 = .ok (.getfield 65, 3) := by decide +kernel
theorem dX8_isPerson_9 : decode cX8_isPerson 9 = .ok (.getfield 145, 3) := by decide +kernel
theorem dX8_isPerson_12 : decode cX8_isPerson 12 = .ok (.if_icmp .ge 7, 3) := by decide +kernel
theorem dX8_isPerson_15 : decode cX8_isPerson 15 = .ok (.iconst 1, 1) := by decide +kernel
theorem dX8_isPerson_16 : decode cX8_isPerson 16 = .ok (.goto 4, 3) := by decide +kernel
theorem dX8_isPerson_19 : decode cX8_isPerson 19 = .ok (.iconst 0, 1) := by decide +kernel
theorem dX8_isPerson_20 : decode cX8_isPerson 20 = .ok (.ireturn, 1) := by decide +kernel
theorem dX8_isSeed_0 : decode cX8_isSeed 0 = .ok (.iload_n 0, 1) := by decide +kernel
theorem dX8_isSeed_1 : decode cX8_isSeed 1 = .ok (.iconst 1, 1) := by decide +kernel
theorem dX8_isSeed_2 : decode cX8_isSeed 2 = .ok (.if_icmp .lt 14, 3) := by decide +kernel
theorem dX8_isSeed_5 : decode cX8_isSeed 5 = .ok (.iload_n 0, 1) := by decide +kernel
theorem dX8_isSeed_6 : decode cX8_isSeed 6 = .ok (.ldc_w 281, 3) := by decide +kernel
theorem dX8_isSeed_9 : decode cX8_isSeed 9 = .ok (.if_icmp .gt 7, 3) := by decide +kernel
theorem dX8_isSeed_12 : decode cX8_isSeed 12 = .ok (.iconst 1, 1) := by decide +kernel
theorem dX8_isSeed_13 : decode cX8_isSeed 13 = .ok (.goto 4, 3) := by decide +kernel
theorem dX8_isSeed_16 : decode cX8_isSeed 16 = .ok (.iconst 0, 1) := by decide +kernel
theorem dX8_isSeed_17 : decode cX8_isSeed 17 = .ok (.ireturn, 1) := by decide +kernel
theorem dX8_isEither_0 : decode cX8_isEither 0 = .ok (.iload_n 0, 1) := by decide +kernel
theorem dX8_isEither_1 : decode cX8_isEither 1 = .ok (.ifCond .eq 8, 3) := by decide +kernel
theorem dX8_isEither_4 : decode cX8_isEither 4 = .ok (.iload_n 0, 1) := by decide +kernel
theorem dX8_isEither_5 : decode cX8_isEither 5 = .ok (.iconst 1, 1) := by decide +kernel
theorem dX8_isEither_6 : decode cX8_isEither 6 = .ok (.if_icmp .ne 7, 3) := by decide +kernel
theorem dX8_isEither_9 : decode cX8_isEither 9 = .ok (.iconst 1, 1) := by decide +kernel
theorem dX8_isEither_10 : decode cX8_isEither 10 = .ok (.goto 4, 3) := by decide +kernel
theorem dX8_isEither_13 : decode cX8_isEither 13 = .ok (.iconst 0, 1) := by decide +kernel
theorem dX8_isEither_14 : decode cX8_isEither 14 = .ok (.ireturn, 1) := by decide +kernel
theorem dX8_found_0 : decode cX8_found 0 = .ok (.aload_n 0, 1) := by decide +kernel
theorem dX8_found_1 : decode cX8_found 1 = .ok (.iload_n 1, 1) := by decide +kernel
theorem dX8_found_2 : decode cX8_found 2 = .ok (.putfield 278, 3) := by decide +kernel
theorem dX8_found_5 : decode cX8_found 5 = .ok (.ldc_w 282, 3) := by decide +kernel
theorem dX8_found_8 : decode cX8_found 8 = .ok (.iload_n 1, 1) := by decide +kernel
theorem dX8_found_9 : decode cX8_found 9 = .ok (.isub, 1) := by decide +kernel
theorem dX8_found_10 : decode cX8_found 10 = .ok (.ireturn, 1) := by decide +kernel
theorem dX8_fine_0 : decode cX8_fine 0 = .ok (.aload_n 0, 1) := by decide +kernel
theorem dX8_fine_1 : decode cX8_fine 1 = .ok (.iconst 0, 1) := by decide +kernel
theorem dX8_fine_2 : decode cX8_fine 2 = .ok (.putfield 278, 3) := by decide +kernel
theorem dX8_fine_5 : decode cX8_fine 5 = .ok (.iload_n 1, 1) := by decide +kernel
theorem dX8_fine_6 : decode cX8_fine 6 = .ok (.ireturn, 1) := by decide +kernel
theorem dX8_countRows_0 : decode cX8_countRows 0 = .ok (.iconst 0, 1) := by decide +kernel
theorem dX8_countRows_1 : decode cX8_countRows 1 = .ok (.istore_n 1, 1) := by decide +kernel
theorem dX8_countRows_2 : decode cX8_countRows 2 = .ok (.aload_n 0, 1) := by decide +kernel
theorem dX8_countRows_3 : decode cX8_countRows 3 = .ok (.getfield 11, 3) := by decide +kernel
theorem dX8_countRows_6 : decode cX8_countRows 6 = .ok (.astore_n 2, 1) := by decide +kernel
theorem dX8_countRows_7 : decode cX8_countRows 7 = .ok (.aload_n 2, 1) := by decide +kernel
theorem dX8_countRows_8 : decode cX8_countRows 8 = .ok (.arraylength, 1) := by decide +kernel
theorem dX8_countRows_9 : decode cX8_countRows 9 = .ok (.istore_n 3, 1) := by decide +kernel
theorem dX8_countRows_10 : decode cX8_countRows 10 = .ok (.iconst 0, 1) := by decide +kernel
theorem dX8_countRows_11 : decode cX8_countRows 11 = .ok (.istore 4, 2) := by decide +kernel
theorem dX8_countRows_13 : decode cX8_countRows 13 = .ok (.iload 4, 2) := by decide +kernel
theorem dX8_countRows_15 : decode cX8_countRows 15 = .ok (.iload_n 3, 1) := by decide +kernel
theorem dX8_countRows_16 : decode cX8_countRows 16 = .ok (.if_icmp .ge 26, 3) := by decide +kernel
theorem dX8_countRows_19 : decode cX8_countRows 19 = .ok (.aload_n 2, 1) := by decide +kernel
theorem dX8_countRows_20 : decode cX8_countRows 20 = .ok (.iload 4, 2) := by decide +kernel
theorem dX8_countRows_22 : decode cX8_countRows 22 = .ok (.aaload, 1) := by decide +kernel
theorem dX8_countRows_23 : decode cX8_countRows 23 = .ok (.astore 5, 2) := by decide +kernel
theorem dX8_countRows_25 : decode cX8_countRows 25 = .ok (.aload 5, 2) := by decide +kernel
theorem dX8_countRows_27 : decode cX8_countRows 27 = .ok (.getfield 88, 3) := by decide +kernel
theorem dX8_countRows_30 : decode cX8_countRows 30 = .ok (.ifCond .ne 6, 3) := by decide +kernel
theorem dX8_countRows_33 : decode cX8_countRows 33 = .ok (.iinc 1 1, 3) := by decide +kernel
theorem dX8_countRows_36 : decode cX8_countRows 36 = .ok (.iinc 4 1, 3) := by decide +kernel
theorem dX8_countRows_39 : decode cX8_countRows 39 = .ok (.goto (-26), 3) := by decide +kernel
theorem dX8_countRows_42 : decode cX8_countRows 42 = .ok (.iload_n 1, 1) := by decide +kernel
theorem dX8_countRows_43 : decode cX8_countRows 43 = .ok (.ireturn, 1) := by decide +kernel
theorem dX8_hear_0 : decode cX8_hear 0 = .ok (.aload_n 0, 1) := by decide +kernel
theorem dX8_hear_1 : decode cX8_hear 1 = .ok (.getfield 11, 3) := by decide +kernel
theorem dX8_hear_4 : decode cX8_hear 4 = .ok (.iload_n 1, 1) := by decide +kernel
theorem dX8_hear_5 : decode cX8_hear 5 = .ok (.aaload, 1) := by decide +kernel
theorem dX8_hear_6 : decode cX8_hear 6 = .ok (.astore_n 2, 1) := by decide +kernel
theorem dX8_hear_7 : decode cX8_hear 7 = .ok (.aload_n 2, 1) := by decide +kernel
theorem dX8_hear_8 : decode cX8_hear 8 = .ok (.getfield 88, 3) := by decide +kernel
theorem dX8_hear_11 : decode cX8_hear 11 = .ok (.ifCond .eq 9, 3) := by decide +kernel
theorem dX8_hear_14 : decode cX8_hear 14 = .ok (.aload_n 0, 1) := by decide +kernel
theorem dX8_hear_15 : decode cX8_hear 15 = .ok (.iconst 1, 1) := by decide +kernel
theorem dX8_hear_16 : decode cX8_hear 16 = .ok (.invokevirtual 77, 3) := by decide +kernel
theorem dX8_hear_19 : decode cX8_hear 19 = .ok (.ireturn, 1) := by decide +kernel
theorem dX8_hear_20 : decode cX8_hear 20 = .ok (.aload_n 2, 1) := by decide +kernel
theorem dX8_hear_21 : decode cX8_hear 21 = .ok (.getfield 92, 3) := by decide +kernel
theorem dX8_hear_24 : decode cX8_hear 24 = .ok (.aload_n 0, 1) := by decide +kernel
theorem dX8_hear_25 : decode cX8_hear 25 = .ok (.getfield 65, 3) := by decide +kernel
theorem dX8_hear_28 : decode cX8_hear 28 = .ok (.getfield 145, 3) := by decide +kernel
theorem dX8_hear_31 : decode cX8_hear 31 = .ok (.if_icmp .ge 9, 3) := by decide +kernel
theorem dX8_hear_34 : decode cX8_hear 34 = .ok (.aload_n 0, 1) := by decide +kernel
theorem dX8_hear_35 : decode cX8_hear 35 = .ok (.iconst 2, 1) := by decide +kernel
theorem dX8_hear_36 : decode cX8_hear 36 = .ok (.invokevirtual 77, 3) := by decide +kernel
theorem dX8_hear_39 : decode cX8_hear 39 = .ok (.ireturn, 1) := by decide +kernel
theorem dX8_hear_40 : decode cX8_hear 40 = .ok (.iconst 0, 1) := by decide +kernel
theorem dX8_hear_41 : decode cX8_hear 41 = .ok (.istore_n 3, 1) := by decide +kernel
theorem dX8_hear_42 : decode cX8_hear 42 = .ok (.iload_n 3, 1) := by decide +kernel
theorem dX8_hear_43 : decode cX8_hear 43 = .ok (.aload_n 0, 1) := by decide +kernel
theorem dX8_hear_44 : decode cX8_hear 44 = .ok (.getfield 65, 3) := by decide +kernel
theorem dX8_hear_47 : decode cX8_hear 47 = .ok (.getfield 145, 3) := by decide +kernel
theorem dX8_hear_50 : decode cX8_hear 50 = .ok (.if_icmp .ge 31, 3) := by decide +kernel
theorem dX8_hear_53 : decode cX8_hear 53 = .ok (.aload_n 2, 1) := by decide +kernel
theorem dX8_hear_54 : decode cX8_hear 54 = .ok (.getfield 107, 3) := by decide +kernel
theorem dX8_hear_57 : decode cX8_hear 57 = .ok (.iload_n 3, 1) := by decide +kernel
theorem dX8_hear_58 : decode cX8_hear 58 = .ok (.iaload, 1) := by decide +kernel
theorem dX8_hear_59 : decode cX8_hear 59 = .ok (.ifCond .lt 13, 3) := by decide +kernel
theorem dX8_hear_62 : decode cX8_hear 62 = .ok (.aload_n 2, 1) := by decide +kernel
theorem dX8_hear_63 : decode cX8_hear 63 = .ok (.getfield 107, 3) := by decide +kernel
theorem dX8_hear_66 : decode cX8_hear 66 = .ok (.iload_n 3, 1) := by decide +kernel
theorem dX8_hear_67 : decode cX8_hear 67 = .ok (.iaload, 1) := by decide +kernel
theorem dX8_hear_68 : decode cX8_hear 68 = .ok (.iconst 5, 1) := by decide +kernel
theorem dX8_hear_69 : decode cX8_hear 69 = .ok (.if_icmp .le 6, 3) := by decide +kernel
theorem dX8_hear_72 : decode cX8_hear 72 = .ok (.ldc 76, 2) := by decide +kernel
theorem dX8_hear_74 : decode cX8_hear 74 = .ok (.ireturn, 1) := by decide +kernel
theorem dX8_hear_75 : decode cX8_hear 75 = .ok (.iinc 3 1, 3) := by decide +kernel
theorem dX8_hear_78 : decode cX8_hear 78 = .ok (.goto (-36), 3) := by decide +kernel
theorem dX8_hear_81 : decode cX8_hear 81 = .ok (.aload_n 0, 1) := by decide +kernel
theorem dX8_hear_82 : decode cX8_hear 82 = .ok (.getfield 40, 3) := by decide +kernel
theorem dX8_hear_85 : decode cX8_hear 85 = .ok (.aload_n 2, 1) := by decide +kernel
theorem dX8_hear_86 : decode cX8_hear 86 = .ok (.getfield 107, 3) := by decide +kernel
theorem dX8_hear_89 : decode cX8_hear 89 = .ok (.aload_n 0, 1) := by decide +kernel
theorem dX8_hear_90 : decode cX8_hear 90 = .ok (.getfield 65, 3) := by decide +kernel
theorem dX8_hear_93 : decode cX8_hear 93 = .ok (.getfield 145, 3) := by decide +kernel
theorem dX8_hear_96 : decode cX8_hear 96 = .ok (.invokevirtual 283, 3) := by decide +kernel
theorem dX8_hear_99 : decode cX8_hear 99 = .ok (.aload_n 0, 1) := by decide +kernel
theorem dX8_hear_100 : decode cX8_hear 100 = .ok (.iconst 0, 1) := by decide +kernel
theorem dX8_hear_101 : decode cX8_hear 101 = .ok (.invokevirtual 85, 3) := by decide +kernel
theorem dX8_hear_104 : decode cX8_hear 104 = .ok (.ireturn, 1) := by decide +kernel
theorem dX8_holdRound_0 : decode cX8_holdRound 0 = .ok (.aload_n 0, 1) := by decide +kernel
theorem dX8_holdRound_1 : decode cX8_holdRound 1 = .ok (.getfield 40, 3) := by decide +kernel
theorem dX8_holdRound_4 : decode cX8_holdRound 4 = .ok (.ldc 157, 2) := by decide +kernel
theorem dX8_holdRound_6 : decode cX8_holdRound 6 = .ok (.invokevirtual 237, 3) := by decide +kernel
theorem dX8_holdRound_9 : decode cX8_holdRound 9 = .ok (.istore_n 3, 1) := by decide +kernel
theorem dX8_holdRound_10 : decode cX8_holdRound 10 = .ok (.iload_n 2, 1) := by decide +kernel
theorem dX8_holdRound_11 : decode cX8_holdRound 11 = .ok (.i2l, 1) := by decide +kernel
theorem dX8_holdRound_12 : decode cX8_holdRound 12 = .ok (.ldc2_w 287, 3) := by decide +kernel
theorem dX8_holdRound_15 : decode cX8_holdRound 15 = .ok (.lmul, 1) := by decide +kernel
theorem dX8_holdRound_16 : decode cX8_holdRound 16 = .ok (.ldc2_w 289, 3) := by decide +kernel
theorem dX8_holdRound_19 : decode cX8_holdRound 19 = .ok (.lrem, 1) := by decide +kernel
theorem dX8_holdRound_20 : decode cX8_holdRound 20 = .ok (.lstore 4, 2) := by decide +kernel
theorem dX8_holdRound_22 : decode cX8_holdRound 22 = .ok (.iconst 1, 1) := by decide +kernel
theorem dX8_holdRound_23 : decode cX8_holdRound 23 = .ok (.aload_n 0, 1) := by decide +kernel
theorem dX8_holdRound_24 : decode cX8_holdRound 24 = .ok (.getfield 40, 3) := by decide +kernel
theorem dX8_holdRound_27 : decode cX8_holdRound 27 = .ok (.iload_n 3, 1) := by decide +kernel
theorem dX8_holdRound_28 : decode cX8_holdRound 28 = .ok (.ldc 157, 2) := by decide +kernel
theorem dX8_holdRound_30 : decode cX8_holdRound 30 = .ok (.invokevirtual 240, 3) := by decide +kernel
theorem dX8_holdRound_33 : decode cX8_holdRound 33 = .ok (.invokestatic 291, 3) := by decide +kernel
theorem dX8_holdRound_36 : decode cX8_holdRound 36 = .ok (.istore 6, 2) := by decide +kernel
theorem dX8_holdRound_38 : decode cX8_holdRound 38 = .ok (.aload_n 0, 1) := by decide +kernel
theorem dX8_holdRound_39 : decode cX8_holdRound 39 = .ok (.getfield 40, 3) := by decide +kernel
theorem dX8_holdRound_42 : decode cX8_holdRound 42 = .ok (.iload_n 3, 1) := by decide +kernel
theorem dX8_holdRound_43 : decode cX8_holdRound 43 = .ok (.lload 4, 2) := by decide +kernel
theorem dX8_holdRound_45 : decode cX8_holdRound 45 = .ok (.iload 6, 2) := by decide +kernel
theorem dX8_holdRound_47 : decode cX8_holdRound 47 = .ok (.i2l, 1) := by decide +kernel
theorem dX8_holdRound_48 : decode cX8_holdRound 48 = .ok (.lrem, 1) := by decide +kernel
theorem dX8_holdRound_49 : decode cX8_holdRound 49 = .ok (.l2i, 1) := by decide +kernel
theorem dX8_holdRound_50 : decode cX8_holdRound 50 = .ok (.invokevirtual 296, 3) := by decide +kernel
theorem dX8_holdRound_53 : decode cX8_holdRound 53 = .ok (.istore 7, 2) := by decide +kernel
theorem dX8_holdRound_55 : decode cX8_holdRound 55 = .ok (.aload_n 0, 1) := by decide +kernel
theorem dX8_holdRound_56 : decode cX8_holdRound 56 = .ok (.getfield 33, 3) := by decide +kernel
theorem dX8_holdRound_59 : decode cX8_holdRound 59 = .ok (.aload_n 0, 1) := by decide +kernel
theorem dX8_holdRound_60 : decode cX8_holdRound 60 = .ok (.getfield 65, 3) := by decide +kernel
theorem dX8_holdRound_63 : decode cX8_holdRound 63 = .ok (.iload_n 1, 1) := by decide +kernel
theorem dX8_holdRound_64 : decode cX8_holdRound 64 = .ok (.invokevirtual 169, 3) := by decide +kernel
theorem dX8_holdRound_67 : decode cX8_holdRound 67 = .ok (.aload_n 0, 1) := by decide +kernel
theorem dX8_holdRound_68 : decode cX8_holdRound 68 = .ok (.getfield 65, 3) := by decide +kernel
theorem dX8_holdRound_71 : decode cX8_holdRound 71 = .ok (.iload_n 1, 1) := by decide +kernel
theorem dX8_holdRound_72 : decode cX8_holdRound 72 = .ok (.iload 7, 2) := by decide +kernel
theorem dX8_holdRound_74 : decode cX8_holdRound 74 = .ok (.aload_n 0, 1) := by decide +kernel
theorem dX8_holdRound_75 : decode cX8_holdRound 75 = .ok (.getfield 40, 3) := by decide +kernel
theorem dX8_holdRound_78 : decode cX8_holdRound 78 = .ok (.iload 7, 2) := by decide +kernel
theorem dX8_holdRound_80 : decode cX8_holdRound 80 = .ok (.invokevirtual 299, 3) := by decide +kernel
theorem dX8_holdRound_83 : decode cX8_holdRound 83 = .ok (.invokevirtual 302, 3) := by decide +kernel
theorem dX8_holdRound_86 : decode cX8_holdRound 86 = .ok (.iload 7, 2) := by decide +kernel
theorem dX8_holdRound_88 : decode cX8_holdRound 88 = .ok (.ireturn, 1) := by decide +kernel
theorem dX8_ofFraction_0 : decode cX8_ofFraction 0 = .ok (.iconst 1, 1) := by decide +kernel
theorem dX8_ofFraction_1 : decode cX8_ofFraction 1 = .ok (.istore_n 3, 1) := by decide +kernel
theorem dX8_ofFraction_2 : decode cX8_ofFraction 2 = .ok (.iconst 2, 1) := by decide +kernel
theorem dX8_ofFraction_3 : decode cX8_ofFraction 3 = .ok (.istore 4, 2) := by decide +kernel
theorem dX8_ofFraction_5 : decode cX8_ofFraction 5 = .ok (.iload 4, 2) := by decide +kernel
theorem dX8_ofFraction_7 : decode cX8_ofFraction 7 = .ok (.iload_n 1, 1) := by decide +kernel
theorem dX8_ofFraction_8 : decode cX8_ofFraction 8 = .ok (.if_icmp .gt 26, 3) := by decide +kernel
theorem dX8_ofFraction_11 : decode cX8_ofFraction 11 = .ok (.iload_n 0, 1) := by decide +kernel
theorem dX8_ofFraction_12 : decode cX8_ofFraction 12 = .ok (.iload 4, 2) := by decide +kernel
theorem dX8_ofFraction_14 : decode cX8_ofFraction 14 = .ok (.irem, 1) := by decide +kernel
theorem dX8_ofFraction_15 : decode cX8_ofFraction 15 = .ok (.ifCond .ne 13, 3) := by decide +kernel
theorem dX8_ofFraction_18 : decode cX8_ofFraction 18 = .ok (.iload_n 1, 1) := by decide +kernel
theorem dX8_ofFraction_19 : decode cX8_ofFraction 19 = .ok (.iload 4, 2) := by decide +kernel
theorem dX8_ofFraction_21 : decode cX8_ofFraction 21 = .ok (.irem, 1) := by decide +kernel
theorem dX8_ofFraction_22 : decode cX8_ofFraction 22 = .ok (.ifCond .ne 6, 3) := by decide +kernel
theorem dX8_ofFraction_25 : decode cX8_ofFraction 25 = .ok (.iload 4, 2) := by decide +kernel
theorem dX8_ofFraction_27 : decode cX8_ofFraction 27 = .ok (.istore_n 3, 1) := by decide +kernel
theorem dX8_ofFraction_28 : decode cX8_ofFraction 28 = .ok (.iinc 4 1, 3) := by decide +kernel
theorem dX8_ofFraction_31 : decode cX8_ofFraction 31 = .ok (.goto (-26), 3) := by decide +kernel
theorem dX8_ofFraction_34 : decode cX8_ofFraction 34 = .ok (.iload_n 2, 1) := by decide +kernel
theorem dX8_ofFraction_35 : decode cX8_ofFraction 35 = .ok (.ifCond .ne 9, 3) := by decide +kernel
theorem dX8_ofFraction_38 : decode cX8_ofFraction 38 = .ok (.iload_n 0, 1) := by decide +kernel
theorem dX8_ofFraction_39 : decode cX8_ofFraction 39 = .ok (.iload_n 3, 1) := by decide +kernel
theorem dX8_ofFraction_40 : decode cX8_ofFraction 40 = .ok (.idiv, 1) := by decide +kernel
theorem dX8_ofFraction_41 : decode cX8_ofFraction 41 = .ok (.goto 6, 3) := by decide +kernel
theorem dX8_ofFraction_44 : decode cX8_ofFraction 44 = .ok (.iload_n 1, 1) := by decide +kernel
theorem dX8_ofFraction_45 : decode cX8_ofFraction 45 = .ok (.iload_n 3, 1) := by decide +kernel
theorem dX8_ofFraction_46 : decode cX8_ofFraction 46 = .ok (.idiv, 1) := by decide +kernel
theorem dX8_ofFraction_47 : decode cX8_ofFraction 47 = .ok (.ireturn, 1) := by decide +kernel
end
section
theorem dX9_init_0 : decode cX9_init 0 = .ok (.aload_n 0, 1) := by decide +kernel
theorem dX9_init_1 : decode cX9_init 1 = .ok (.invokespecial 1, 3) := by decide +kernel
theorem dX9_init_4 : decode cX9_init 4 = .ok (.aload_n 0, 1) := by decide +kernel
theorem dX9_init_5 : decode cX9_init 5 = .ok (.bipush 8, 2) := by decide +kernel
theorem dX9_init_7 : decode cX9_init 7 = .ok (.newarray .int, 2) := by decide +kernel
theorem dX9_init_9 : decode cX9_init 9 = .ok (.dup, 1) := by decide +kernel
theorem dX9_init_10 : decode cX9_init 10 = .ok (.iconst 0, 1) := by decide +kernel
theorem dX9_init_11 : decode cX9_init 11 = .ok (.iconst (-1), 1) := by decide +kernel
theorem dX9_init_12 : decode cX9_init 12 = .ok (.iastore, 1) := by decide +kernel
theorem dX9_init_13 : decode cX9_init 13 = .ok (.dup, 1) := by decide +kernel
theorem dX9_init_14 : decode cX9_init 14 = .ok (.iconst 1, 1) := by decide +kernel
theorem dX9_init_15 : decode cX9_init 15 = .ok (.iconst (-1), 1) := by decide +kernel
theorem dX9_init_16 : decode cX9_init 16 = .ok (.iastore, 1) := by decide +kernel
theorem dX9_init_17 : decode cX9_init 17 = .ok (.dup, 1) := by decide +kernel
theorem dX9_init_18 : decode cX9_init 18 = .ok (.iconst 2, 1) := by decide +kernel
theorem dX9_init_19 : decode cX9_init 19 = .ok (.iconst (-1), 1) := by decide +kernel
theorem dX9_init_20 : decode cX9_init 20 = .ok (.iastore, 1) := by decide +kernel
theorem dX9_init_21 : decode cX9_init 21 = .ok (.dup, 1) := by decide +kernel
theorem dX9_init_22 : decode cX9_init 22 = .ok (.iconst 3, 1) := by decide +kernel
theorem dX9_init_23 : decode cX9_init 23 = .ok (.iconst (-1), 1) := by decide +kernel
theorem dX9_init_24 : decode cX9_init 24 = .ok (.iastore, 1) := by decide +kernel
theorem dX9_init_25 : decode cX9_init 25 = .ok (.dup, 1) := by decide +kernel
theorem dX9_init_26 : decode cX9_init 26 = .ok (.iconst 4, 1) := by decide +kernel
theorem dX9_init_27 : decode cX9_init 27 = .ok (.iconst (-1), 1) := by decide +kernel
theorem dX9_init_28 : decode cX9_init 28 = .ok (.iastore, 1) := by decide +kernel
theorem dX9_init_29 : decode cX9_init 29 = .ok (.dup, 1) := by decide +kernel
theorem dX9_init_30 : decode cX9_init 30 = .ok (.iconst 5, 1) := by decide +kernel
theorem dX9_init_31 : decode cX9_init 31 = .ok (.iconst (-1), 1) := by decide +kernel
theorem dX9_init_32 : decode cX9_init 32 = .ok (.iastore, 1) := by decide +kernel
theorem dX9_init_33 : decode cX9_init 33 = .ok (.dup, 1) := by decide +kernel
theorem dX9_init_34 : decode cX9_init 34 = .ok (.bipush 6, 2) := by decide +kernel
theorem dX9_init_36 : decode cX9_init 36 = .ok (.iconst (-1), 1) := by decide +kernel
theorem dX9_init_37 : decode cX9_init 37 = .ok (.iastore, 1) := by decide +kernel
theorem dX9_init_38 : decode cX9_init 38 = .ok (.dup, 1) := by decide +kernel
theorem dX9_init_39 : decode cX9_init 39 = .ok (.bipush 7, 2) := by decide +kernel
theorem dX9_init_41 : decode cX9_init 41 = .ok (.iconst (-1), 1) := by decide +kernel
theorem dX9_init_42 : decode cX9_init 42 = .ok (.iastore, 1) := by decide +kernel
theorem dX9_init_43 : decode cX9_init 43 = .ok (.putfield 7, 3) := by decide +kernel
theorem dX9_init_46 : decode cX9_init 46 = .ok (.aload_n 0, 1) := by decide +kernel
theorem dX9_init_47 : decode cX9_init 47 = .ok (.bipush 8, 2) := by decide +kernel
theorem dX9_init_49 : decode cX9_init 49 = .ok (.newarray .int, 2) := by decide +kernel
theorem dX9_init_51 : decode cX9_init 51 = .ok (.putfield 13, 3) := by decide +kernel
theorem dX9_init_54 : decode cX9_init 54 = .ok (.aload_n 0, 1) := by decide +kernel
theorem dX9_init_55 : decode cX9_init 55 = .ok (.sipush 320, 3) := by decide +kernel
theorem dX9_init_58 : decode cX9_init 58 = .ok (.newarray .int, 2) := by decide +kernel
theorem dX9_init_60 : decode cX9_init 60 = .ok (.putfield 16, 3) := by decide +kernel
theorem dX9_init_63 : decode cX9_init 63 = .ok (.aload_n 0, 1) := by decide +kernel
theorem dX9_init_64 : decode cX9_init 64 = .ok (.bipush 42, 2) := by decide +kernel
theorem dX9_init_66 : decode cX9_init 66 = .ok (.newarray .int, 2) := by decide +kernel
theorem dX9_init_68 : decode cX9_init 68 = .ok (.putfield 19, 3) := by decide +kernel
theorem dX9_init_71 : decode cX9_init 71 = .ok (.aload_n 0, 1) := by decide +kernel
theorem dX9_init_72 : decode cX9_init 72 = .ok (.bipush 42, 2) := by decide +kernel
theorem dX9_init_74 : decode cX9_init 74 = .ok (.newarray .int, 2) := by decide +kernel
theorem dX9_init_76 : decode cX9_init 76 = .ok (.putfield 22, 3) := by decide +kernel
theorem dX9_init_79 : decode cX9_init 79 = .ok (.aload_n 0, 1) := by decide +kernel
theorem dX9_init_80 : decode cX9_init 80 = .ok (.sipush 1008, 3) := by decide +kernel
theorem dX9_init_83 : decode cX9_init 83 = .ok (.newarray .int, 2) := by decide +kernel
theorem dX9_init_85 : decode cX9_init 85 = .ok (.putfield 25, 3) := by decide +kernel
theorem dX9_init_88 : decode cX9_init 88 = .ok (.aload_n 0, 1) := by decide +kernel
theorem dX9_init_89 : decode cX9_init 89 = .ok (.sipush 400, 3) := by decide +kernel
theorem dX9_init_92 : decode cX9_init 92 = .ok (.newarray .int, 2) := by decide +kernel
theorem dX9_init_94 : decode cX9_init 94 = .ok (.putfield 28, 3) := by decide +kernel
theorem dX9_init_97 : decode cX9_init 97 = .ok (.aload_n 0, 1) := by decide +kernel
theorem dX9_init_98 : decode cX9_init 98 = .ok (.iconst 4, 1) := by decide +kernel
theorem dX9_init_99 : decode cX9_init 99 = .ok (.newarray .int, 2) := by decide +kernel
theorem dX9_init_101 : decode cX9_init 101 = .ok (.putfield 31, 3) := by decide +kernel
theorem dX9_init_104 : decode cX9_init 104 = .ok (.aload_n 0, 1) := by decide +kernel
theorem dX9_init_105 : decode cX9_init 105 = .ok (.iconst 2, 1) := by decide +kernel
theorem dX9_init_106 : decode cX9_init 106 = .ok (.newarray .boolean, 2) := by decide +kernel
theorem dX9_init_108 : decode cX9_init 108 = .ok (.putfield 34, 3) := by decide +kernel
theorem dX9_init_111 : decode cX9_init 111 = .ok (.aload_n 0, 1) := by decide +kernel
theorem dX9_init_112 : decode cX9_init 112 = .ok (.bipush 84, 2) := by decide +kernel
theorem dX9_init_114 : decode cX9_init 114 = .ok (.newarray .int, 2) := by decide +kernel
theorem dX9_init_116 : decode cX9_init 116 = .ok (.putfield 38, 3) := by decide +kernel
theorem dX9_init_119 : decode cX9_init 119 = .ok (.aload_n 0, 1) := by decide +kernel
theorem dX9_init_120 : decode cX9_init 120 = .ok (.bipush 16, 2) := by decide +kernel
theorem dX9_init_122 : decode cX9_init 122 = .ok (.newarray .int, 2) := by decide +kernel
theorem dX9_init_124 : decode cX9_init 124 = .ok (.putfield 41, 3) := by decide +kernel
theorem dX9_init_127 : decode cX9_init 127 = .ok (.return_, 1) := by decide +kernel
theorem dX9_in_0 : decode cX9_in 0 = .ok (.lload_n 0, 1) := by decide +kernel
theorem dX9_in_1 : decode cX9_in 1 = .ok (.lload_n 2, 1) := by decide +kernel
theorem dX9_in_2 : decode cX9_in 2 = .ok (.lcmp, 1) := by decide +kernel
theorem dX9_in_3 : decode cX9_in 3 = .ok (.ifCond .lt 14, 3) := by decide +kernel
theorem dX9_in_6 : decode cX9_in 6 = .ok (.lload_n 0, 1) := by decide +kernel
theorem dX9_in_7 : decode cX9_in 7 = .ok (.lload 4, 2) := by decide +kernel
theorem dX9_in_9 : decode cX9_in 9 = .ok (.lcmp, 1) := by decide +kernel
theorem dX9_in_10 : decode cX9_in 10 = .ok (.ifCond .gt 7, 3) := by decide +kernel
theorem dX9_in_13 : decode cX9_in 13 = .ok (.iconst 1, 1) := by decide +kernel
theorem dX9_in_14 : decode cX9_in 14 = .ok (.goto 4, 3) := by decide +kernel
theorem dX9_in_17 : decode cX9_in 17 = .ok (.iconst 0, 1) := by decide +kernel
theorem dX9_in_18 : decode cX9_in 18 = .ok (.ireturn, 1) := by decide +kernel
theorem dX9_finding_0 : decode cX9_finding 0 = .ok (.aload_n 0, 1) := by decide +kernel
theorem dX9_finding_1 : decode cX9_finding 1 = .ok (.iload_n 1, 1) := by decide +kernel
theorem dX9_finding_2 : decode cX9_finding 2 = .ok (.putfield 48, 3) := by decide +kernel
theorem dX9_finding_5 : decode cX9_finding 5 = .ok (.ldc 51, 2) := by decide +kernel
theorem dX9_finding_7 : decode cX9_finding 7 = .ok (.iload_n 1, 1) := by decide +kernel
theorem dX9_finding_8 : decode cX9_finding 8 = .ok (.isub, 1) := by decide +kernel
theorem dX9_finding_9 : decode cX9_finding 9 = .ok (.ireturn, 1) := by decide +kernel
theorem dX9_isRow_0 : decode cX9_isRow 0 = .ok (.iload_n 0, 1) := by decide +kernel
theorem dX9_isRow_1 : decode cX9_isRow 1 = .ok (.i2l, 1) := by decide +kernel
theorem dX9_isRow_2 : decode cX9_isRow 2 = .ok (.lconst 0, 1) := by decide +kernel
theorem dX9_isRow_3 : decode cX9_isRow 3 = .ok (.ldc2_w 52, 3) := by decide +kernel
theorem dX9_isRow_6 : decode cX9_isRow 6 = .ok (.invokestatic 54, 3) := by decide +kernel
theorem dX9_isRow_9 : decode cX9_isRow 9 = .ok (.ireturn, 1) := by decide +kernel
theorem dX9_row_0 : decode cX9_row 0 = .ok (.aload_n 0, 1) := by decide +kernel
theorem dX9_row_1 : decode cX9_row 1 = .ok (.iconst 0, 1) := by decide +kernel
theorem dX9_row_2 : decode cX9_row 2 = .ok (.putfield 44, 3) := by decide +kernel
theorem dX9_row_5 : decode cX9_row 5 = .ok (.iload_n 1, 1) := by decide +kernel
theorem dX9_row_6 : decode cX9_row 6 = .ok (.invokestatic 58, 3) := by decide +kernel
theorem dX9_row_9 : decode cX9_row 9 = .ok (.ifCond .eq 21, 3) := by decide +kernel
theorem dX9_row_12 : decode cX9_row 12 = .ok (.iload_n 2, 1) := by decide +kernel
theorem dX9_row_13 : decode cX9_row 13 = .ok (.i2l, 1) := by decide +kernel
theorem dX9_row_14 : decode cX9_row 14 = .ok (.lconst 0, 1) := by decide +kernel
theorem dX9_row_15 : decode cX9_row 15 = .ok (.ldc2_w 62, 3) := by decide +kernel
theorem dX9_row_18 : decode cX9_row 18 = .ok (.invokestatic 54, 3) := by decide +kernel
theorem dX9_row_21 : decode cX9_row 21 = .ok (.ifCond .eq 9, 3) := by decide +kernel
theorem dX9_row_24 : decode cX9_row 24 = .ok (.iload_n 3, 1) := by decide +kernel
theorem dX9_row_25 : decode cX9_row 25 = .ok (.bipush 40, 2) := by decide +kernel
theorem dX9_row_27 : decode cX9_row 27 = .ok (.if_icmp .le 6, 3) := by decide +kernel
theorem dX9_row_30 : decode cX9_row 30 = .ok (.ldc 64, 2) := by decide +kernel
theorem dX9_row_32 : decode cX9_row 32 = .ok (.ireturn, 1) := by decide +kernel
theorem dX9_row_33 : decode cX9_row 33 = .ok (.aload_n 0, 1) := by decide +kernel
theorem dX9_row_34 : decode cX9_row 34 = .ok (.iconst 0, 1) := by decide +kernel
theorem dX9_row_35 : decode cX9_row 35 = .ok (.putfield 48, 3) := by decide +kernel
theorem dX9_row_38 : decode cX9_row 38 = .ok (.iload_n 3, 1) := by decide +kernel
theorem dX9_row_39 : decode cX9_row 39 = .ok (.ifCond .ge 9, 3) := by decide +kernel
theorem dX9_row_42 : decode cX9_row 42 = .ok (.aload_n 0, 1) := by decide +kernel
theorem dX9_row_43 : decode cX9_row 43 = .ok (.iconst 4, 1) := by decide +kernel
theorem dX9_row_44 : decode cX9_row 44 = .ok (.invokevirtual 65, 3) := by decide +kernel
theorem dX9_row_47 : decode cX9_row 47 = .ok (.ireturn, 1) := by decide +kernel
theorem dX9_row_48 : decode cX9_row 48 = .ok (.aload_n 0, 1) := by decide +kernel
theorem dX9_row_49 : decode cX9_row 49 = .ok (.getfield 7, 3) := by decide +kernel
theorem dX9_row_52 : decode cX9_row 52 = .ok (.iload_n 1, 1) := by decide +kernel
theorem dX9_row_53 : decode cX9_row 53 = .ok (.iload_n 2, 1) := by decide +kernel
theorem dX9_row_54 : decode cX9_row 54 = .ok (.iastore, 1) := by decide +kernel
theorem dX9_row_55 : decode cX9_row 55 = .ok (.aload_n 0, 1) := by decide +kernel
theorem dX9_row_56 : decode cX9_row 56 = .ok (.getfield 13, 3) := by decide +kernel
theorem dX9_row_59 : decode cX9_row 59 = .ok (.iload_n 1, 1) := by decide +kernel
theorem dX9_row_60 : decode cX9_row 60 = .ok (.iload_n 3, 1) := by decide +kernel
theorem dX9_row_61 : decode cX9_row 61 = .ok (.iastore, 1) := by decide +kernel
theorem dX9_row_62 : decode cX9_row 62 = .ok (.iconst 0, 1) := by decide +kernel
theorem dX9_row_63 : decode cX9_row 63 = .ok (.istore 4, 2) := by decide +kernel
theorem dX9_row_65 : decode cX9_row 65 = .ok (.iload 4, 2) := by decide +kernel
theorem dX9_row_67 : decode cX9_row 67 = .ok (.bipush 40, 2) := by decide +kernel
theorem dX9_row_69 : decode cX9_row 69 = .ok (.if_icmp .ge 22, 3) := by decide +kernel
theorem dX9_row_72 : decode cX9_row 72 = .ok (.aload_n 0, 1) := by decide +kernel
theorem dX9_row_73 : decode cX9_row 73 = .ok (.getfield 16, 3) := by decide +kernel
theorem dX9_row_76 : decode cX9_row 76 = .ok (.bipush 40, 2) := by decide +kernel
theorem dX9_row_78 : decode cX9_row 78 = .ok (.iload_n 1, 1) := by decide +kernel
theorem dX9_row_79 : decode cX9_row 79 = .ok (.imul, 1) := by decide +kernel
theorem dX9_row_80 : decode cX9_row 80 = .ok (.iload 4, 2) := by decide +kernel
theorem dX9_row_82 : decode cX9_row 82 = .ok (.iadd, 1) := by decide +kernel
theorem dX9_row_83 : decode cX9_row 83 = .ok (.iconst 0, 1) := by decide +kernel
theorem dX9_row_84 : decode cX9_row 84 = .ok (.iastore, 1) := by decide +kernel
theorem dX9_row_85 : decode cX9_row 85 = .ok (.iinc 4 1, 3) := by decide +kernel
theorem dX9_row_88 : decode cX9_row 88 = .ok (.goto (-23), 3) := by decide +kernel
theorem dX9_row_91 : decode cX9_row 91 = .ok (.iload_n 3, 1) := by decide +kernel
theorem dX9_row_92 : decode cX9_row 92 = .ok (.ireturn, 1) := by decide +kernel
theorem dX9_set_0 : decode cX9_set 0 = .ok (.aload_n 0, 1) := by decide +kernel
theorem dX9_set_1 : decode cX9_set 1 = .ok (.iconst 0, 1) := by decide +kernel
theorem dX9_set_2 : decode cX9_set 2 = .ok (.putfield 44, 3) := by decide +kernel
theorem dX9_set_5 : decode cX9_set 5 = .ok (.iload_n 1, 1) := by decide +kernel
theorem dX9_set_6 : decode cX9_set 6 = .ok (.invokestatic 58, 3) := by decide +kernel
theorem dX9_set_9 : decode cX9_set 9 = .ok (.ifCond .ne 6, 3) := by decide +kernel
theorem dX9_set_12 : decode cX9_set 12 = .ok (.ldc 64, 2) := by decide +kernel
theorem dX9_set_14 : decode cX9_set 14 = .ok (.ireturn, 1) := by decide +kernel
theorem dX9_set_15 : decode cX9_set 15 = .ok (.aload_n 0, 1) := by decide +kernel
theorem dX9_set_16 : decode cX9_set 16 = .ok (.iconst 0, 1) := by decide +kernel
theorem dX9_set_17 : decode cX9_set 17 = .ok (.putfield 48, 3) := by decide +kernel
theorem dX9_set_20 : decode cX9_set 20 = .ok (.aload_n 0, 1) := by decide +kernel
theorem dX9_set_21 : decode cX9_set 21 = .ok (.getfield 7, 3) := by decide +kernel
theorem dX9_set_24 : decode cX9_set 24 = .ok (.iload_n 1, 1) := by decide +kernel
theorem dX9_set_25 : decode cX9_set 25 = .ok (.iaload, 1) := by decide +kernel
theorem dX9_set_26 : decode cX9_set 26 = .ok (.ifCond .ge 9, 3) := by decide +kernel
theorem dX9_set_29 : decode cX9_set 29 = .ok (.aload_n 0, 1) := by decide +kernel
theorem dX9_set_30 : decode cX9_set 30 = .ok (.iconst 1, 1) := by decide +kernel
theorem dX9_set_31 : decode cX9_set 31 = .ok (.invokevirtual 65, 3) := by decide +kernel
theorem dX9_set_34 : decode cX9_set 34 = .ok (.ireturn, 1) := by decide +kernel
theorem dX9_set_35 : decode cX9_set 35 = .ok (.iload_n 2, 1) := by decide +kernel
theorem dX9_set_36 : decode cX9_set 36 = .ok (.i2l, 1) := by decide +kernel
theorem dX9_set_37 : decode cX9_set 37 = .ok (.lconst 0, 1) := by decide +kernel
theorem dX9_set_38 : decode cX9_set 38 = .ok (.aload_n 0, 1) := by decide +kernel
theorem dX9_set_39 : decode cX9_set 39 = .ok (.getfield 13, 3) := by decide +kernel
theorem dX9_set_42 : decode cX9_set 42 = .ok (.iload_n 1, 1) := by decide +kernel
theorem dX9_set_43 : decode cX9_set 43 = .ok (.iaload, 1) := by decide +kernel
theorem dX9_set_44 : decode cX9_set 44 = .ok (.iconst 1, 1) := by decide +kernel
theorem dX9_set_45 : decode cX9_set 45 = .ok (.isub, 1) := by decide +kernel
theorem dX9_set_46 : decode cX9_set 46 = .ok (.i2l, 1) := by decide +kernel
theorem dX9_set_47 : decode cX9_set 47 = .ok (.invokestatic 54, 3) := by decide +kernel
theorem dX9_set_50 : decode cX9_set 50 = .ok (.ifCond .ne 9, 3) := by decide +kernel
theorem dX9_set_53 : decode cX9_set 53 = .ok (.aload_n 0, 1) := by decide +kernel
theorem dX9_set_54 : decode cX9_set 54 = .ok (.iconst 2, 1) := by decide +kernel
theorem dX9_set_55 : decode cX9_set 55 = .ok (.invokevirtual 65, 3) := by decide +kernel
theorem dX9_set_58 : decode cX9_set 58 = .ok (.ireturn, 1) := by decide +kernel
theorem dX9_set_59 : decode cX9_set 59 = .ok (.aload_n 0, 1) := by decide +kernel
theorem dX9_set_60 : decode cX9_set 60 = .ok (.getfield 16, 3) := by decide +kernel
theorem dX9_set_63 : decode cX9_set 63 = .ok (.bipush 40, 2) := by decide +kernel
theorem dX9_set_65 : decode cX9_set 65 = .ok (.iload_n 1, 1) := by decide +kernel
theorem dX9_set_66 : decode cX9_set 66 = .ok (.imul, 1) := by decide +kernel
theorem dX9_set_67 : decode cX9_set 67 = .ok (.iload_n 2, 1) := by decide +kernel
theorem dX9_set_68 : decode cX9_set 68 = .ok (.iadd, 1) := by decide +kernel
theorem dX9_set_69 : decode cX9_set 69 = .ok (.aload_n 0, 1) := by decide +kernel
theorem dX9_set_70 : decode cX9_set 70 = .ok (.getfield 7, 3) := by decide +kernel
theorem dX9_set_73 : decode cX9_set 73 = .ok (.iload_n 1, 1) := by decide +kernel
theorem dX9_set_74 : decode cX9_set 74 = .ok (.iaload, 1) := by decide +kernel
theorem dX9_set_75 : decode cX9_set 75 = .ok (.ifCond .ne 8, 3) := by decide +kernel
theorem dX9_set_78 : decode cX9_set 78 = .ok (.iload_n 3, 1) := by decide +kernel
theorem dX9_set_79 : decode cX9_set 79 = .ok (.i2b, 1) := by decide +kernel
theorem dX9_set_80 : decode cX9_set 80 = .ok (.goto 19, 3) := by decide +kernel
theorem dX9_set_83 : decode cX9_set 83 = .ok (.aload_n 0, 1) := by decide +kernel
theorem dX9_set_84 : decode cX9_set 84 = .ok (.getfield 7, 3) := by decide +kernel
theorem dX9_set_87 : decode cX9_set 87 = .ok (.iload_n 1, 1) := by decide +kernel
theorem dX9_set_88 : decode cX9_set 88 = .ok (.iaload, 1) := by decide +kernel
theorem dX9_set_89 : decode cX9_set 89 = .ok (.iconst 1, 1) := by decide +kernel
theorem dX9_set_90 : decode cX9_set 90 = .ok (.if_icmp .ne 8, 3) := by decide +kernel
theorem dX9_set_93 : decode cX9_set 93 = .ok (.iload_n 3, 1) := by decide +kernel
theorem dX9_set_94 : decode cX9_set 94 = .ok (.i2s, 1) := by decide +kernel
theorem dX9_set_95 : decode cX9_set 95 = .ok (.goto 4, 3) := by decide +kernel
theorem dX9_set_98 : decode cX9_set 98 = .ok (.iload_n 3, 1) := by decide +kernel
theorem dX9_set_99 : decode cX9_set 99 = .ok (.iastore, 1) := by decide +kernel
theorem dX9_set_100 : decode cX9_set 100 = .ok (.aload_n 0, 1) := by decide +kernel
theorem dX9_set_101 : decode cX9_set 101 = .ok (.getfield 16, 3) := by decide +kernel
theorem dX9_set_104 : decode cX9_set 104 = .ok (.bipush 40, 2) := by decide +kernel
theorem dX9_set_106 : decode cX9_set 106 = .ok (.iload_n 1, 1) := by decide +kernel
theorem dX9_set_107 : decode cX9_set 107 = .ok (.imul, 1) := by decide +kernel
theorem dX9_set_108 : decode cX9_set 108 = .ok (.iload_n 2, 1) := by decide +kernel
theorem dX9_set_109 : decode cX9_set 109 = .ok (.iadd, 1) := by decide +kernel
theorem dX9_set_110 : decode cX9_set 110 = .ok (.iaload, 1) := by decide +kernel
theorem dX9_set_111 : decode cX9_set 111 = .ok (.ireturn, 1) := by decide +kernel
theorem dX9_copy_0 : decode cX9_copy 0 = .ok (.aload_n 0, 1) := by decide +kernel
theorem dX9_copy_1 : decode cX9_copy 1 = .ok (.iconst 0, 1) := by decide +kernel
theorem dX9_copy_2 : decode cX9_copy 2 = .ok (.putfield 44, 3) := by decide +kernel
theorem dX9_copy_5 : decode cX9_copy 5 = .ok (.iload_n 1, 1) := by decide +kernel
theorem dX9_copy_6 : decode cX9_copy 6 = .ok (.invokestatic 58, 3) := by decide +kernel
theorem dX9_copy_9 : decode cX9_copy 9 = .ok (.ifCond .eq 10, 3) := by decide +kernel
theorem dX9_copy_12 : decode cX9_copy 12 = .ok (.iload_n 3, 1) := by decide +kernel
theorem dX9_copy_13 : decode cX9_copy 13 = .ok (.invokestatic 58, 3) := by decide +kernel
theorem dX9_copy_16 : decode cX9_copy 16 = .ok (.ifCond .ne 6, 3) := by decide +kernel
theorem dX9_copy_19 : decode cX9_copy 19 = .ok (.ldc 64, 2) := by decide +kernel
theorem dX9_copy_21 : decode cX9_copy 21 = .ok (.ireturn, 1) := by decide +kernel
theorem dX9_copy_22 : decode cX9_copy 22 = .ok (.aload_n 0, 1) := by decide +kernel
theorem dX9_copy_23 : decode cX9_copy 23 = .ok (.iconst 0, 1) := by decide +kernel
theorem dX9_copy_24 : decode cX9_copy 24 = .ok (.putfield 48, 3) := by decide +kernel
theorem dX9_copy_27 : decode cX9_copy 27 = .ok (.aload_n 0, 1) := by decide +kernel
theorem dX9_copy_28 : decode cX9_copy 28 = .ok (.getfield 7, 3) := by decide +kernel
theorem dX9_copy_31 : decode cX9_copy 31 = .ok (.iload_n 1, 1) := by decide +kernel
theorem dX9_copy_32 : decode cX9_copy 32 = .ok (.iaload, 1) := by decide +kernel
theorem dX9_copy_33 : decode cX9_copy 33 = .ok (.ifCond .lt 12, 3) := by decide +kernel
theorem dX9_copy_36 : decode cX9_copy 36 = .ok (.aload_n 0, 1) := by decide +kernel
theorem dX9_copy_37 : decode cX9_copy 37 = .ok (.getfield 7, 3) := by decide +kernel
theorem dX9_copy_40 : decode cX9_copy 40 = .ok (.iload_n 3, 1) := by decide +kernel
theorem dX9_copy_41 : decode cX9_copy 41 = .ok (.iaload, 1) := by decide +kernel
theorem dX9_copy_42 : decode cX9_copy 42 = .ok (.ifCond .ge 9, 3) := by decide +kernel
theorem dX9_copy_45 : decode cX9_copy 45 = .ok (.aload_n 0, 1) := by decide +kernel
theorem dX9_copy_46 : decode cX9_copy 46 = .ok (.iconst 1, 1) := by decide +kernel
theorem dX9_copy_47 : decode cX9_copy 47 = .ok (.invokevirtual 65, 3) := by decide +kernel
theorem dX9_copy_50 : decode cX9_copy 50 = .ok (.ireturn, 1) := by decide +kernel
theorem dX9_copy_51 : decode cX9_copy 51 = .ok (.aload_n 0, 1) := by decide +kernel
theorem dX9_copy_52 : decode cX9_copy 52 = .ok (.getfield 7, 3) := by decide +kernel
theorem dX9_copy_55 : decode cX9_copy 55 = .ok (.iload_n 1, 1) := by decide +kernel
theorem dX9_copy_56 : decode cX9_copy 56 = .ok (.iaload, 1) := by decide +kernel
theorem dX9_copy_57 : decode cX9_copy 57 = .ok (.aload_n 0, 1) := by decide +kernel
theorem dX9_copy_58 : decode cX9_copy 58 = .ok (.getfield 7, 3) := by decide +kernel
theorem dX9_copy_61 : decode cX9_copy 61 = .ok (.iload_n 3, 1) := by decide +kernel
theorem dX9_copy_62 : decode cX9_copy 62 = .ok (.iaload, 1) := by decide +kernel
theorem dX9_copy_63 : decode cX9_copy 63 = .ok (.if_icmp .eq 9, 3) := by decide +kernel
theorem dX9_copy_66 : decode cX9_copy 66 = .ok (.aload_n 0, 1) := by decide +kernel
theorem dX9_copy_67 : decode cX9_copy 67 = .ok (.iconst 5, 1) := by decide +kernel
theorem dX9_copy_68 : decode cX9_copy 68 = .ok (.invokevirtual 65, 3) := by decide +kernel
theorem dX9_copy_71 : decode cX9_copy 71 = .ok (.ireturn, 1) := by decide +kernel
theorem dX9_copy_72 : decode cX9_copy 72 = .ok (.iload_n 2, 1) := by decide +kernel
theorem dX9_copy_73 : decode cX9_copy 73 = .ok (.ifCond .lt 48, 3) := by decide +kernel
theorem dX9_copy_76 : decode cX9_copy 76 = .ok (.iload 4, 2) := by decide +kernel
theorem dX9_copy_78 : decode cX9_copy 78 = .ok (.ifCond .lt 43, 3) := by decide +kernel
theorem dX9_copy_81 : decode cX9_copy 81 = .ok (.iload 5, 2) := by decide +kernel
theorem dX9_copy_83 : decode cX9_copy 83 = .ok (.ifCond .lt 38, 3) := by decide +kernel
theorem dX9_copy_86 : decode cX9_copy 86 = .ok (.iload_n 2, 1) := by decide +kernel
theorem dX9_copy_87 : decode cX9_copy 87 = .ok (.i2l, 1) := by decide +kernel
theorem dX9_copy_88 : decode cX9_copy 88 = .ok (.iload 5, 2) := by decide +kernel
theorem dX9_copy_90 : decode cX9_copy 90 = .ok (.i2l, 1) := by decide +kernel
theorem dX9_copy_91 : decode cX9_copy 91 = .ok (.ladd, 1) := by decide +kernel
theorem dX9_copy_92 : decode cX9_copy 92 = .ok (.aload_n 0, 1) := by decide +kernel
theorem dX9_copy_93 : decode cX9_copy 93 = .ok (.getfield 13, 3) := by decide +kernel
theorem dX9_copy_96 : decode cX9_copy 96 = .ok (.iload_n 1, 1) := by decide +kernel
theorem dX9_copy_97 : decode cX9_copy 97 = .ok (.iaload, 1) := by decide +kernel
theorem dX9_copy_98 : decode cX9_copy 98 = .ok (.i2l, 1) := by decide +kernel
theorem dX9_copy_99 : decode cX9_copy 99 = .ok (.lcmp, 1) := by decide +kernel
theorem dX9_copy_100 : decode cX9_copy 100 = .ok (.ifCond .gt 21, 3) := by decide +kernel
theorem dX9_copy_103 : decode cX9_copy 103 = .ok (.iload 4, 2) := by decide +kernel
theorem dX9_copy_105 : decode cX9_copy 105 = .ok (.i2l, 1) := by decide +kernel
theorem dX9_copy_106 : decode cX9_copy 106 = .ok (.iload 5, 2) := by decide +kernel
theorem dX9_copy_108 : decode cX9_copy 108 = .ok (.i2l, 1) := by decide +kernel
theorem dX9_copy_109 : decode cX9_copy 109 = .ok (.ladd, 1) := by decide +kernel
theorem dX9_copy_110 : decode cX9_copy 110 = .ok (.aload_n 0, 1) := by decide +kernel
theorem dX9_copy_111 : decode cX9_copy 111 = .ok (.getfield 13, 3) := by decide +kernel
theorem dX9_copy_114 : decode cX9_copy 114 = .ok (.iload_n 3, 1) := by decide +kernel
theorem dX9_copy_115 : decode cX9_copy 115 = .ok (.iaload, 1) := by decide +kernel
theorem dX9_copy_116 : decode cX9_copy 116 = .ok (.i2l, 1) := by decide +kernel
theorem dX9_copy_117 : decode cX9_copy 117 = .ok (.lcmp, 1) := by decide +kernel
theorem dX9_copy_118 : decode cX9_copy 118 = .ok (.ifCond .le 9, 3) := by decide +kernel
theorem dX9_copy_121 : decode cX9_copy 121 = .ok (.aload_n 0, 1) := by decide +kernel
theorem dX9_copy_122 : decode cX9_copy 122 = .ok (.iconst 2, 1) := by decide +kernel
theorem dX9_copy_123 : decode cX9_copy 123 = .ok (.invokevirtual 65, 3) := by decide +kernel
theorem dX9_copy_126 : decode cX9_copy 126 = .ok (.ireturn, 1) := by decide +kernel
theorem dX9_copy_127 : decode cX9_copy 127 = .ok (.iload_n 2, 1) := by decide +kernel
theorem dX9_copy_128 : decode cX9_copy 128 = .ok (.iload 4, 2) := by decide +kernel
theorem dX9_copy_130 : decode cX9_copy 130 = .ok (.if_icmp .lt 7, 3) := by decide +kernel
theorem dX9_copy_133 : decode cX9_copy 133 = .ok (.iconst 1, 1) := by decide +kernel
theorem dX9_copy_134 : decode cX9_copy 134 = .ok (.goto 4, 3) := by decide +kernel
theorem dX9_copy_137 : decode cX9_copy 137 = .ok (.iconst 0, 1) := by decide +kernel
theorem dX9_copy_138 : decode cX9_copy 138 = .ok (.istore 6, 2) := by decide +kernel
theorem dX9_copy_140 : decode cX9_copy 140 = .ok (.iconst 0, 1) := by decide +kernel
theorem dX9_copy_141 : decode cX9_copy 141 = .ok (.istore 7, 2) := by decide +kernel
theorem dX9_copy_143 : decode cX9_copy 143 = .ok (.iload 7, 2) := by decide +kernel
theorem dX9_copy_145 : decode cX9_copy 145 = .ok (.iload 5, 2) := by decide +kernel
theorem dX9_copy_147 : decode cX9_copy 147 = .ok (.if_icmp .ge 57, 3) := by decide +kernel
theorem dX9_copy_150 : decode cX9_copy 150 = .ok (.iload 6, 2) := by decide +kernel
theorem dX9_copy_152 : decode cX9_copy 152 = .ok (.ifCond .eq 8, 3) := by decide +kernel
theorem dX9_copy_155 : decode cX9_copy 155 = .ok (.iload 7, 2) := by decide +kernel
theorem dX9_copy_157 : decode cX9_copy 157 = .ok (.goto 10, 3) := by decide +kernel
theorem dX9_copy_160 : decode cX9_copy 160 = .ok (.iload 5, 2) := by decide +kernel
theorem dX9_copy_162 : decode cX9_copy 162 = .ok (.iconst 1, 1) := by decide +kernel
theorem dX9_copy_163 : decode cX9_copy 163 = .ok (.isub, 1) := by decide +kernel
theorem dX9_copy_164 : decode cX9_copy 164 = .ok (.iload 7, 2) := by decide +kernel
theorem dX9_copy_166 : decode cX9_copy 166 = .ok (.isub, 1) := by decide +kernel
theorem dX9_copy_167 : decode cX9_copy 167 = .ok (.istore 8, 2) := by decide +kernel
theorem dX9_copy_169 : decode cX9_copy 169 = .ok (.aload_n 0, 1) := by decide +kernel
theorem dX9_copy_170 : decode cX9_copy 170 = .ok (.getfield 16, 3) := by decide +kernel
theorem dX9_copy_173 : decode cX9_copy 173 = .ok (.bipush 40, 2) := by decide +kernel
theorem dX9_copy_175 : decode cX9_copy 175 = .ok (.iload_n 3, 1) := by decide +kernel
theorem dX9_copy_176 : decode cX9_copy 176 = .ok (.imul, 1) := by decide +kernel
theorem dX9_copy_177 : decode cX9_copy 177 = .ok (.iload 4, 2) := by decide +kernel
theorem dX9_copy_179 : decode cX9_copy 179 = .ok (.iadd, 1) := by decide +kernel
theorem dX9_copy_180 : decode cX9_copy 180 = .ok (.iload 8, 2) := by decide +kernel
theorem dX9_copy_182 : decode cX9_copy 182 = .ok (.iadd, 1) := by decide +kernel
theorem dX9_copy_183 : decode cX9_copy 183 = .ok (.aload_n 0, 1) := by decide +kernel
theorem dX9_copy_184 : decode cX9_copy 184 = .ok (.getfield 16, 3) := by decide +kernel
theorem dX9_copy_187 : decode cX9_copy 187 = .ok (.bipush 40, 2) := by decide +kernel
theorem dX9_copy_189 : decode cX9_copy 189 = .ok (.iload_n 1, 1) := by decide +kernel
theorem dX9_copy_190 : decode cX9_copy 190 = .ok (.imul, 1) := by decide +kernel
theorem dX9_copy_191 : decode cX9_copy 191 = .ok (.iload_n 2, 1) := by decide +kernel
theorem dX9_copy_192 : decode cX9_copy 192 = .ok (.iadd, 1) := by decide +kernel
theorem dX9_copy_193 : decode cX9_copy 193 = .ok (.iload 8, 2) := by decide +kernel
theorem dX9_copy_195 : decode cX9_copy 195 = .ok (.iadd, 1) := by decide +kernel
theorem dX9_copy_196 : decode cX9_copy 196 = .ok (.iaload, 1) := by decide +kernel
theorem dX9_copy_197 : decode cX9_copy 197 = .ok (.iastore, 1) := by decide +kernel
theorem dX9_copy_198 : decode cX9_copy 198 = .ok (.iinc 7 1, 3) := by decide +kernel
theorem dX9_copy_201 : decode cX9_copy 201 = .ok (.goto (-58), 3) := by decide +kernel
theorem dX9_copy_204 : decode cX9_copy 204 = .ok (.iload 5, 2) := by decide +kernel
theorem dX9_copy_206 : decode cX9_copy 206 = .ok (.ireturn, 1) := by decide +kernel
theorem dX9_drop_0 : decode cX9_drop 0 = .ok (.aload_n 0, 1) := by decide +kernel
theorem dX9_drop_1 : decode cX9_drop 1 = .ok (.iconst 0, 1) := by decide +kernel
theorem dX9_drop_2 : decode cX9_drop 2 = .ok (.putfield 44, 3) := by decide +kernel
theorem dX9_drop_5 : decode cX9_drop 5 = .ok (.iload_n 1, 1) := by decide +kernel
theorem dX9_drop_6 : decode cX9_drop 6 = .ok (.invokestatic 58, 3) := by decide +kernel
theorem dX9_drop_9 : decode cX9_drop 9 = .ok (.ifCond .ne 6, 3) := by decide +kernel
theorem dX9_drop_12 : decode cX9_drop 12 = .ok (.ldc 64, 2) := by decide +kernel
theorem dX9_drop_14 : decode cX9_drop 14 = .ok (.ireturn, 1) := by decide +kernel
theorem dX9_drop_15 : decode cX9_drop 15 = .ok (.aload_n 0, 1) := by decide +kernel
theorem dX9_drop_16 : decode cX9_drop 16 = .ok (.iconst 0, 1) := by decide +kernel
theorem dX9_drop_17 : decode cX9_drop 17 = .ok (.putfield 48, 3) := by decide +kernel
theorem dX9_drop_20 : decode cX9_drop 20 = .ok (.aload_n 0, 1) := by decide +kernel
theorem dX9_drop_21 : decode cX9_drop 21 = .ok (.getfield 7, 3) := by decide +kernel
theorem dX9_drop_24 : decode cX9_drop 24 = .ok (.iload_n 1, 1) := by decide +kernel
theorem dX9_drop_25 : decode cX9_drop 25 = .ok (.iaload, 1) := by decide +kernel
theorem dX9_drop_26 : decode cX9_drop 26 = .ok (.ifCond .ge 9, 3) := by decide +kernel
theorem dX9_drop_29 : decode cX9_drop 29 = .ok (.aload_n 0, 1) := by decide +kernel
theorem dX9_drop_30 : decode cX9_drop 30 = .ok (.iconst 1, 1) := by decide +kernel
theorem dX9_drop_31 : decode cX9_drop 31 = .ok (.invokevirtual 65, 3) := by decide +kernel
theorem dX9_drop_34 : decode cX9_drop 34 = .ok (.ireturn, 1) := by decide +kernel
theorem dX9_drop_35 : decode cX9_drop 35 = .ok (.aload_n 0, 1) := by decide +kernel
theorem dX9_drop_36 : decode cX9_drop 36 = .ok (.getfield 7, 3) := by decide +kernel
theorem dX9_drop_39 : decode cX9_drop 39 = .ok (.iload_n 1, 1) := by decide +kernel
theorem dX9_drop_40 : decode cX9_drop 40 = .ok (.iconst (-1), 1) := by decide +kernel
theorem dX9_drop_41 : decode cX9_drop 41 = .ok (.iastore, 1) := by decide +kernel
theorem dX9_drop_42 : decode cX9_drop 42 = .ok (.aload_n 0, 1) := by decide +kernel
theorem dX9_drop_43 : decode cX9_drop 43 = .ok (.getfield 13, 3) := by decide +kernel
theorem dX9_drop_46 : decode cX9_drop 46 = .ok (.iload_n 1, 1) := by decide +kernel
theorem dX9_drop_47 : decode cX9_drop 47 = .ok (.iaload, 1) := by decide +kernel
theorem dX9_drop_48 : decode cX9_drop 48 = .ok (.ireturn, 1) := by decide +kernel
theorem dX9_feed_0 : decode cX9_feed 0 = .ok (.aload_n 0, 1) := by decide +kernel
theorem dX9_feed_1 : decode cX9_feed 1 = .ok (.iconst 0, 1) := by decide +kernel
theorem dX9_feed_2 : decode cX9_feed 2 = .ok (.putfield 44, 3) := by decide +kernel
theorem dX9_feed_5 : decode cX9_feed 5 = .ok (.iload_n 3, 1) := by decide +kernel
theorem dX9_feed_6 : decode cX9_feed 6 = .ok (.i2l, 1) := by decide +kernel
theorem dX9_feed_7 : decode cX9_feed 7 = .ok (.lconst 1, 1) := by decide +kernel
theorem dX9_feed_8 : decode cX9_feed 8 = .ok (.ldc2_w 69, 3) := by decide +kernel
theorem dX9_feed_11 : decode cX9_feed 11 = .ok (.invokestatic 54, 3) := by decide +kernel
theorem dX9_feed_14 : decode cX9_feed 14 = .ok (.ifCond .ne 6, 3) := by decide +kernel
theorem dX9_feed_17 : decode cX9_feed 17 = .ok (.ldc 64, 2) := by decide +kernel
theorem dX9_feed_19 : decode cX9_feed 19 = .ok (.ireturn, 1) := by decide +kernel
theorem dX9_feed_20 : decode cX9_feed 20 = .ok (.aload_n 0, 1) := by decide +kernel
theorem dX9_feed_21 : decode cX9_feed 21 = .ok (.getfield 71, 3) := by decide +kernel
theorem dX9_feed_24 : decode cX9_feed 24 = .ok (.iload_n 3, 1) := by decide +kernel
theorem dX9_feed_25 : decode cX9_feed 25 = .ok (.iadd, 1) := by decide +kernel
theorem dX9_feed_26 : decode cX9_feed 26 = .ok (.sipush 400, 3) := by decide +kernel
theorem dX9_feed_29 : decode cX9_feed 29 = .ok (.if_icmp .le 6, 3) := by decide +kernel
theorem dX9_feed_32 : decode cX9_feed 32 = .ok (.ldc 74, 2) := by decide +kernel
theorem dX9_feed_34 : decode cX9_feed 34 = .ok (.ireturn, 1) := by decide +kernel
theorem dX9_feed_35 : decode cX9_feed 35 = .ok (.iload_n 3, 1) := by decide +kernel
theorem dX9_feed_36 : decode cX9_feed 36 = .ok (.iconst 1, 1) := by decide +kernel
theorem dX9_feed_37 : decode cX9_feed 37 = .ok (.isub, 1) := by decide +kernel
theorem dX9_feed_38 : decode cX9_feed 38 = .ok (.istore 4, 2) := by decide +kernel
theorem dX9_feed_40 : decode cX9_feed 40 = .ok (.iload 4, 2) := by decide +kernel
theorem dX9_feed_42 : decode cX9_feed 42 = .ok (.ifCond .lt 40, 3) := by decide +kernel
theorem dX9_feed_45 : decode cX9_feed 45 = .ok (.aload_n 0, 1) := by decide +kernel
theorem dX9_feed_46 : decode cX9_feed 46 = .ok (.getfield 28, 3) := by decide +kernel
theorem dX9_feed_49 : decode cX9_feed 49 = .ok (.aload_n 0, 1) := by decide +kernel
theorem dX9_feed_50 : decode cX9_feed 50 = .ok (.getfield 71, 3) := by decide +kernel
theorem dX9_feed_53 : decode cX9_feed 53 = .ok (.lload_n 1, 1) := by decide +kernel
theorem dX9_feed_54 : decode cX9_feed 54 = .ok (.bipush 8, 2) := by decide +kernel
theorem dX9_feed_56 : decode cX9_feed 56 = .ok (.iload 4, 2) := by decide +kernel
theorem dX9_feed_58 : decode cX9_feed 58 = .ok (.imul, 1) := by decide +kernel
theorem dX9_feed_59 : decode cX9_feed 59 = .ok (.lshr, 1) := by decide +kernel
theorem dX9_feed_60 : decode cX9_feed 60 = .ok (.ldc2_w 75, 3) := by decide +kernel
theorem dX9_feed_63 : decode cX9_feed 63 = .ok (.land, 1) := by decide +kernel
theorem dX9_feed_64 : decode cX9_feed 64 = .ok (.l2i, 1) := by decide +kernel
theorem dX9_feed_65 : decode cX9_feed 65 = .ok (.iastore, 1) := by decide +kernel
theorem dX9_feed_66 : decode cX9_feed 66 = .ok (.aload_n 0, 1) := by decide +kernel
theorem dX9_feed_67 : decode cX9_feed 67 = .ok (.dup, 1) := by decide +kernel
theorem dX9_feed_68 : decode cX9_feed 68 = .ok (.getfield 71, 3) := by decide +kernel
theorem dX9_feed_71 : decode cX9_feed 71 = .ok (.iconst 1, 1) := by decide +kernel
theorem dX9_feed_72 : decode cX9_feed 72 = .ok (.iadd, 1) := by decide +kernel
theorem dX9_feed_73 : decode cX9_feed 73 = .ok (.putfield 71, 3) := by decide +kernel
theorem dX9_feed_76 : decode cX9_feed 76 = .ok (.iinc 4 (-1), 3) := by decide +kernel
theorem dX9_feed_79 : decode cX9_feed 79 = .ok (.goto (-39), 3) := by decide +kernel
theorem dX9_feed_82 : decode cX9_feed 82 = .ok (.aload_n 0, 1) := by decide +kernel
theorem dX9_feed_83 : decode cX9_feed 83 = .ok (.getfield 71, 3) := by decide +kernel
theorem dX9_feed_86 : decode cX9_feed 86 = .ok (.ireturn, 1) := by decide +kernel
theorem dX9_byteAt_0 : decode cX9_byteAt 0 = .ok (.iload_n 1, 1) := by decide +kernel
theorem dX9_byteAt_1 : decode cX9_byteAt 1 = .ok (.aload_n 0, 1) := by decide +kernel
theorem dX9_byteAt_2 : decode cX9_byteAt 2 = .ok (.getfield 77, 3) := by decide +kernel
theorem dX9_byteAt_5 : decode cX9_byteAt 5 = .ok (.if_icmp .ge 12, 3) := by decide +kernel
theorem dX9_byteAt_8 : decode cX9_byteAt 8 = .ok (.aload_n 0, 1) := by decide +kernel
theorem dX9_byteAt_9 : decode cX9_byteAt 9 = .ok (.getfield 28, 3) := by decide +kernel
theorem dX9_byteAt_12 : decode cX9_byteAt 12 = .ok (.iload_n 1, 1) := by decide +kernel
theorem dX9_byteAt_13 : decode cX9_byteAt 13 = .ok (.iaload, 1) := by decide +kernel
theorem dX9_byteAt_14 : decode cX9_byteAt 14 = .ok (.goto 5, 3) := by decide +kernel
theorem dX9_byteAt_17 : decode cX9_byteAt 17 = .ok (.ldc 80, 2) := by decide +kernel
theorem dX9_byteAt_19 : decode cX9_byteAt 19 = .ok (.ireturn, 1) := by decide +kernel
theorem dX9_isLetter_0 : decode cX9_isLetter 0 = .ok (.iload_n 0, 1) := by decide +kernel
theorem dX9_isLetter_1 : decode cX9_isLetter 1 = .ok (.bipush 97, 2) := by decide +kernel
theorem dX9_isLetter_3 : decode cX9_isLetter 3 = .ok (.if_icmp .lt 13, 3) := by decide +kernel
theorem dX9_isLetter_6 : decode cX9_isLetter 6 = .ok (.iload_n 0, 1) := by decide +kernel
theorem dX9_isLetter_7 : decode cX9_isLetter 7 = .ok (.bipush 122, 2) := by decide +kernel
theorem dX9_isLetter_9 : decode cX9_isLetter 9 = .ok (.if_icmp .gt 7, 3) := by decide +kernel
theorem dX9_isLetter_12 : decode cX9_isLetter 12 = .ok (.iconst 1, 1) := by decide +kernel
theorem dX9_isLetter_13 : decode cX9_isLetter 13 = .ok (.goto 4, 3) := by decide +kernel
theorem dX9_isLetter_16 : decode cX9_isLetter 16 = .ok (.iconst 0, 1) := by decide +kernel
theorem dX9_isLetter_17 : decode cX9_isLetter 17 = .ok (.ireturn, 1) := by decide +kernel
theorem dX9_isFigure_0 : decode cX9_isFigure 0 = .ok (.iload_n 0, 1) := by decide +kernel
theorem dX9_isFigure_1 : decode cX9_isFigure 1 = .ok (.bipush 48, 2) := by decide +kernel
theorem dX9_isFigure_3 : decode cX9_isFigure 3 = .ok (.if_icmp .lt 13, 3) := by decide +kernel
theorem dX9_isFigure_6 : decode cX9_isFigure 6 = .ok (.iload_n 0, 1) := by decide +kernel
theorem dX9_isFigure_7 : decode cX9_isFigure 7 = .ok (.bipush 57, 2) := by decide +kernel
theorem dX9_isFigure_9 : decode cX9_isFigure 9 = .ok (.if_icmp .gt 7, 3) := by decide +kernel
theorem dX9_isFigure_12 : decode cX9_isFigure 12 = .ok (.iconst 1, 1) := by decide +kernel
theorem dX9_isFigure_13 : decode cX9_isFigure 13 = .ok (.goto 4, 3) := by decide +kernel
theorem dX9_isFigure_16 : decode cX9_isFigure 16 = .ok (.iconst 0, 1) := by decide +kernel
theorem dX9_isFigure_17 : decode cX9_isFigure 17 = .ok (.ireturn, 1) := by decide +kernel
theorem dX9_next_0 : decode cX9_next 0 = .ok (.aload_n 0, 1) := by decide +kernel
theorem dX9_next_1 : decode cX9_next 1 = .ok (.aload_n 0, 1) := by decide +kernel
theorem dX9_next_2 : decode cX9_next 2 = .ok (.getfield 81, 3) := by decide +kernel
theorem dX9_next_5 : decode cX9_next 5 = .ok (.invokevirtual 84, 3) := by decide +kernel
theorem dX9_next_8 : decode cX9_next 8 = .ok (.bipush 32, 2) := by decide +kernel
theorem dX9_next_10 : decode cX9_next 10 = .ok (.if_icmp .eq 16, 3) := by decide +kernel
theorem dX9_next_13 : decode cX9_next 13 = .ok (.aload_n 0, 1) := by decide +kernel
theorem dX9_next_14 : decode cX9_next 14 = .ok (.aload_n 0, 1) := by decide +kernel
theorem dX9_next_15 : decode cX9_next 15 = .ok (.getfield 81, 3) := by decide +kernel
theorem dX9_next_18 : decode cX9_next 18 = .ok (.invokevirtual 84, 3) := by decide +kernel
theorem dX9_next_21 : decode cX9_next 21 = .ok (.bipush 10, 2) := by decide +kernel
theorem dX9_next_23 : decode cX9_next 23 = .ok (.if_icmp .ne 16, 3) := by decide +kernel
theorem dX9_next_26 : decode cX9_next 26 = .ok (.aload_n 0, 1) := by decide +kernel
theorem dX9_next_27 : decode cX9_next 27 = .ok (.dup, 1) := by decide +kernel
theorem dX9_next_28 : decode cX9_next 28 = .ok (.getfield 81, 3) := by decide +kernel
theorem dX9_next_31 : decode cX9_next 31 = .ok (.iconst 1, 1) := by decide +kernel
theorem dX9_next_32 : decode cX9_next 32 = .ok (.iadd, 1) := by decide +kernel
theorem dX9_next_33 : decode cX9_next 33 = .ok (.putfield 81, 3) := by decide +kernel
theorem dX9_next_36 : decode cX9_next 36 = .ok (.goto (-36), 3) := by decide +kernel
theorem dX9_next_39 : decode cX9_next 39 = .ok (.aload_n 0, 1) := by decide +kernel
theorem dX9_next_40 : decode cX9_next 40 = .ok (.aload_n 0, 1) := by decide +kernel
theorem dX9_next_41 : decode cX9_next 41 = .ok (.getfield 81, 3) := by decide +kernel
theorem dX9_next_44 : decode cX9_next 44 = .ok (.putfield 87, 3) := by decide +kernel
theorem dX9_next_47 : decode cX9_next 47 = .ok (.aload_n 0, 1) := by decide +kernel
theorem dX9_next_48 : decode cX9_next 48 = .ok (.aload_n 0, 1) := by decide +kernel
theorem dX9_next_49 : decode cX9_next 49 = .ok (.getfield 81, 3) := by decide +kernel
theorem dX9_next_52 : decode cX9_next 52 = .ok (.invokevirtual 84, 3) := by decide +kernel
theorem dX9_next_55 : decode cX9_next 55 = .ok (.istore_n 1, 1) := by decide +kernel
theorem dX9_next_56 : decode cX9_next 56 = .ok (.iload_n 1, 1) := by decide +kernel
theorem dX9_next_57 : decode cX9_next 57 = .ok (.ldc 80, 2) := by decide +kernel
theorem dX9_next_59 : decode cX9_next 59 = .ok (.if_icmp .ne 11, 3) := by decide +kernel
theorem dX9_next_62 : decode cX9_next 62 = .ok (.aload_n 0, 1) := by decide +kernel
theorem dX9_next_63 : decode cX9_next 63 = .ok (.iconst 1, 1) := by decide +kernel
theorem dX9_next_64 : decode cX9_next 64 = .ok (.putfield 90, 3) := by decide +kernel
theorem dX9_next_67 : decode cX9_next 67 = .ok (.goto 129, 3) := by decide +kernel
theorem dX9_next_70 : decode cX9_next 70 = .ok (.iload_n 1, 1) := by decide +kernel
theorem dX9_next_71 : decode cX9_next 71 = .ok (.invokestatic 93, 3) := by decide +kernel
theorem dX9_next_74 : decode cX9_next 74 = .ok (.ifCond .eq 38, 3) := by decide +kernel
theorem dX9_next_77 : decode cX9_next 77 = .ok (.aload_n 0, 1) := by decide +kernel
theorem dX9_next_78 : decode cX9_next 78 = .ok (.aload_n 0, 1) := by decide +kernel
theorem dX9_next_79 : decode cX9_next 79 = .ok (.getfield 81, 3) := by decide +kernel
theorem dX9_next_82 : decode cX9_next 82 = .ok (.invokevirtual 84, 3) := by decide +kernel
theorem dX9_next_85 : decode cX9_next 85 = .ok (.invokestatic 93, 3) := by decide +kernel
theorem dX9_next_88 : decode cX9_next 88 = .ok (.ifCond .eq 16, 3) := by decide +kernel
theorem dX9_next_91 : decode cX9_next 91 = .ok (.aload_n 0, 1) := by decide +kernel
theorem dX9_next_92 : decode cX9_next 92 = .ok (.dup, 1) := by decide +kernel
theorem dX9_next_93 : decode cX9_next 93 = .ok (.getfield 81, 3) := by decide +kernel
theorem dX9_next_96 : decode cX9_next 96 = .ok (.iconst 1, 1) := by decide +kernel
theorem dX9_next_97 : decode cX9_next 97 = .ok (.iadd, 1) := by decide +kernel
theorem dX9_next_98 : decode cX9_next 98 = .ok (.putfield 81, 3) := by decide +kernel
theorem dX9_next_101 : decode cX9_next 101 = .ok (.goto (-24), 3) := by decide +kernel
theorem dX9_next_104 : decode cX9_next 104 = .ok (.aload_n 0, 1) := by decide +kernel
theorem dX9_next_105 : decode cX9_next 105 = .ok (.iconst 2, 1) := by decide +kernel
theorem dX9_next_106 : decode cX9_next 106 = .ok (.putfield 90, 3) := by decide +kernel
theorem dX9_next_109 : decode cX9_next 109 = .ok (.goto 87, 3) := by decide +kernel
theorem dX9_next_112 : decode cX9_next 112 = .ok (.iload_n 1, 1) := by decide +kernel
theorem dX9_next_113 : decode cX9_next 113 = .ok (.invokestatic 96, 3) := by decide +kernel
theorem dX9_next_116 : decode cX9_next 116 = .ok (.ifCond .eq 55, 3) := by decide +kernel
theorem dX9_next_119 : decode cX9_next 119 = .ok (.aload_n 0, 1) := by decide +kernel
theorem dX9_next_120 : decode cX9_next 120 = .ok (.aload_n 0, 1) := by decide +kernel
theorem dX9_next_121 : decode cX9_next 121 = .ok (.getfield 81, 3) := by decide +kernel
theorem dX9_next_124 : decode cX9_next 124 = .ok (.invokevirtual 84, 3) := by decide +kernel
theorem dX9_next_127 : decode cX9_next 127 = .ok (.invokestatic 96, 3) := by decide +kernel
theorem dX9_next_130 : decode cX9_next 130 = .ok (.ifCond .eq 16, 3) := by decide +kernel
theorem dX9_next_133 : decode cX9_next 133 = .ok (.aload_n 0, 1) := by decide +kernel
theorem dX9_next_134 : decode cX9_next 134 = .ok (.dup, 1) := by decide +kernel
theorem dX9_next_135 : decode cX9_next 135 = .ok (.getfield 81, 3) := by decide +kernel
theorem dX9_next_138 : decode cX9_next 138 = .ok (.iconst 1, 1) := by decide +kernel
theorem dX9_next_139 : decode cX9_next 139 = .ok (.iadd, 1) := by decide +kernel
theorem dX9_next_140 : decode cX9_next 140 = .ok (.putfield 81, 3) := by decide +kernel
theorem dX9_next_143 : decode cX9_next 143 = .ok (.goto (-24), 3) := by decide +kernel
theorem dX9_next_146 : decode cX9_next 146 = .ok (.aload_n 0, 1) := by decide +kernel
theorem dX9_next_147 : decode cX9_next 147 = .ok (.aload_n 0, 1) := by decide +kernel
theorem dX9_next_148 : decode cX9_next 148 = .ok (.getfield 81, 3) := by decide +kernel
theorem dX9_next_151 : decode cX9_next 151 = .ok (.aload_n 0, 1) := by decide +kernel
theorem dX9_next_152 : decode cX9_next 152 = .ok (.getfield 87, 3) := by decide +kernel
theorem dX9_next_155 : decode cX9_next 155 = .ok (.isub, 1) := by decide +kernel
theorem dX9_next_156 : decode cX9_next 156 = .ok (.iconst 3, 1) := by decide +kernel
theorem dX9_next_157 : decode cX9_next 157 = .ok (.if_icmp .le 7, 3) := by decide +kernel
theorem dX9_next_160 : decode cX9_next 160 = .ok (.iconst 0, 1) := by decide +kernel
theorem dX9_next_161 : decode cX9_next 161 = .ok (.goto 4, 3) := by decide +kernel
theorem dX9_next_164 : decode cX9_next 164 = .ok (.iconst 3, 1) := by decide +kernel
theorem dX9_next_165 : decode cX9_next 165 = .ok (.putfield 90, 3) := by decide +kernel
theorem dX9_next_168 : decode cX9_next 168 = .ok (.goto 28, 3) := by decide +kernel
theorem dX9_next_171 : decode cX9_next 171 = .ok (.aload_n 0, 1) := by decide +kernel
theorem dX9_next_172 : decode cX9_next 172 = .ok (.dup, 1) := by decide +kernel
theorem dX9_next_173 : decode cX9_next 173 = .ok (.getfield 81, 3) := by decide +kernel
theorem dX9_next_176 : decode cX9_next 176 = .ok (.iconst 1, 1) := by decide +kernel
theorem dX9_next_177 : decode cX9_next 177 = .ok (.iadd, 1) := by decide +kernel
theorem dX9_next_178 : decode cX9_next 178 = .ok (.putfield 81, 3) := by decide +kernel
theorem dX9_next_181 : decode cX9_next 181 = .ok (.aload_n 0, 1) := by decide +kernel
theorem dX9_next_182 : decode cX9_next 182 = .ok (.iload_n 1, 1) := by decide +kernel
theorem dX9_next_183 : decode cX9_next 183 = .ok (.bipush 59, 2) := by decide +kernel
theorem dX9_next_185 : decode cX9_next 185 = .ok (.if_icmp .ne 7, 3) := by decide +kernel
theorem dX9_next_188 : decode cX9_next 188 = .ok (.iconst 4, 1) := by decide +kernel
theorem dX9_next_189 : decode cX9_next 189 = .ok (.goto 4, 3) := by decide +kernel
theorem dX9_next_192 : decode cX9_next 192 = .ok (.iconst 0, 1) := by decide +kernel
theorem dX9_next_193 : decode cX9_next 193 = .ok (.putfield 90, 3) := by decide +kernel
theorem dX9_next_196 : decode cX9_next 196 = .ok (.aload_n 0, 1) := by decide +kernel
theorem dX9_next_197 : decode cX9_next 197 = .ok (.aload_n 0, 1) := by decide +kernel
theorem dX9_next_198 : decode cX9_next 198 = .ok (.getfield 81, 3) := by decide +kernel
theorem dX9_next_201 : decode cX9_next 201 = .ok (.putfield 99, 3) := by decide +kernel
theorem dX9_next_204 : decode cX9_next 204 = .ok (.return_, 1) := by decide +kernel
theorem dX9_begin_0 : decode cX9_begin 0 = .ok (.aload_n 0, 1) := by decide +kernel
theorem dX9_begin_1 : decode cX9_begin 1 = .ok (.aload_n 0, 1) := by decide +kernel
theorem dX9_begin_2 : decode cX9_begin 2 = .ok (.getfield 71, 3) := by decide +kernel
theorem dX9_begin_5 : decode cX9_begin 5 = .ok (.putfield 77, 3) := by decide +kernel
theorem dX9_begin_8 : decode cX9_begin 8 = .ok (.aload_n 0, 1) := by decide +kernel
theorem dX9_begin_9 : decode cX9_begin 9 = .ok (.iconst 0, 1) := by decide +kernel
theorem dX9_begin_10 : decode cX9_begin 10 = .ok (.putfield 71, 3) := by decide +kernel
theorem dX9_begin_13 : decode cX9_begin 13 = .ok (.aload_n 0, 1) := by decide +kernel
theorem dX9_begin_14 : decode cX9_begin 14 = .ok (.iconst 0, 1) := by decide +kernel
theorem dX9_begin_15 : decode cX9_begin 15 = .ok (.putfield 81, 3) := by decide +kernel
theorem dX9_begin_18 : decode cX9_begin 18 = .ok (.aload_n 0, 1) := by decide +kernel
theorem dX9_begin_19 : decode cX9_begin 19 = .ok (.iconst 0, 1) := by decide +kernel
theorem dX9_begin_20 : decode cX9_begin 20 = .ok (.putfield 102, 3) := by decide +kernel
theorem dX9_begin_23 : decode cX9_begin 23 = .ok (.aload_n 0, 1) := by decide +kernel
theorem dX9_begin_24 : decode cX9_begin 24 = .ok (.invokevirtual 105, 3) := by decide +kernel
theorem dX9_begin_27 : decode cX9_begin 27 = .ok (.return_, 1) := by decide +kernel
theorem dX9_bad_0 : decode cX9_bad 0 = .ok (.aload_n 0, 1) := by decide +kernel
theorem dX9_bad_1 : decode cX9_bad 1 = .ok (.getfield 102, 3) := by decide +kernel
theorem dX9_bad_4 : decode cX9_bad 4 = .ok (.ifCond .ne 16, 3) := by decide +kernel
theorem dX9_bad_7 : decode cX9_bad 7 = .ok (.aload_n 0, 1) := by decide +kernel
theorem dX9_bad_8 : decode cX9_bad 8 = .ok (.iload_n 1, 1) := by decide +kernel
theorem dX9_bad_9 : decode cX9_bad 9 = .ok (.putfield 102, 3) := by decide +kernel
theorem dX9_bad_12 : decode cX9_bad 12 = .ok (.aload_n 0, 1) := by decide +kernel
theorem dX9_bad_13 : decode cX9_bad 13 = .ok (.aload_n 0, 1) := by decide +kernel
theorem dX9_bad_14 : decode cX9_bad 14 = .ok (.getfield 87, 3) := by decide +kernel
theorem dX9_bad_17 : decode cX9_bad 17 = .ok (.putfield 108, 3) := by decide +kernel
theorem dX9_bad_20 : decode cX9_bad 20 = .ok (.return_, 1) := by decide +kernel
theorem dX9_must_0 : decode cX9_must 0 = .ok (.iload_n 1, 1) := by decide +kernel
theorem dX9_must_1 : decode cX9_must 1 = .ok (.ifCond .ne 8, 3) := by decide +kernel
theorem dX9_must_4 : decode cX9_must 4 = .ok (.aload_n 0, 1) := by decide +kernel
theorem dX9_must_5 : decode cX9_must 5 = .ok (.iconst 1, 1) := by decide +kernel
theorem dX9_must_6 : decode cX9_must 6 = .ok (.invokevirtual 111, 3) := by decide +kernel
theorem dX9_must_9 : decode cX9_must 9 = .ok (.aload_n 0, 1) := by decide +kernel
theorem dX9_must_10 : decode cX9_must 10 = .ok (.getfield 102, 3) := by decide +kernel
theorem dX9_must_13 : decode cX9_must 13 = .ok (.ifCond .ne 7, 3) := by decide +kernel
theorem dX9_must_16 : decode cX9_must 16 = .ok (.aload_n 0, 1) := by decide +kernel
theorem dX9_must_17 : decode cX9_must 17 = .ok (.invokevirtual 105, 3) := by decide +kernel
theorem dX9_must_20 : decode cX9_must 20 = .ok (.return_, 1) := by decide +kernel
theorem dX9_name_0 : decode cX9_name 0 = .ok (.lconst 0, 1) := by decide +kernel
theorem dX9_name_1 : decode cX9_name 1 = .ok (.lstore_n 1, 1) := by decide +kernel
theorem dX9_name_2 : decode cX9_name 2 = .ok (.aload_n 0, 1) := by decide +kernel
theorem dX9_name_3 : decode cX9_name 3 = .ok (.getfield 87, 3) := by decide +kernel
theorem dX9_name_6 : decode cX9_name 6 = .ok (.istore_n 3, 1) := by decide +kernel
theorem dX9_name_7 : decode cX9_name 7 = .ok (.iload_n 3, 1) := by decide +kernel
theorem dX9_name_8 : decode cX9_name 8 = .ok (.aload_n 0, 1) := by decide +kernel
theorem dX9_name_9 : decode cX9_name 9 = .ok (.getfield 99, 3) := by decide +kernel
theorem dX9_name_12 : decode cX9_name 12 = .ok (.if_icmp .ge 44, 3) := by decide +kernel
theorem dX9_name_15 : decode cX9_name 15 = .ok (.aload_n 0, 1) := by decide +kernel
theorem dX9_name_16 : decode cX9_name 16 = .ok (.getfield 90, 3) := by decide +kernel
theorem dX9_name_19 : decode cX9_name 19 = .ok (.iconst 2, 1) := by decide +kernel
theorem dX9_name_20 : decode cX9_name 20 = .ok (.if_icmp .ne 36, 3) := by decide +kernel
theorem dX9_name_23 : decode cX9_name 23 = .ok (.aload_n 0, 1) := by decide +kernel
theorem dX9_name_24 : decode cX9_name 24 = .ok (.getfield 99, 3) := by decide +kernel
theorem dX9_name_27 : decode cX9_name 27 = .ok (.aload_n 0, 1) := by decide +kernel
theorem dX9_name_28 : decode cX9_name 28 = .ok (.getfield 87, 3) := by decide +kernel
theorem dX9_name_31 : decode cX9_name 31 = .ok (.isub, 1) := by decide +kernel
theorem dX9_name_32 : decode cX9_name 32 = .ok (.bipush 8, 2) := by decide +kernel
theorem dX9_name_34 : decode cX9_name 34 = .ok (.if_icmp .ge 22, 3) := by decide +kernel
theorem dX9_name_37 : decode cX9_name 37 = .ok (.lload_n 1, 1) := by decide +kernel
theorem dX9_name_38 : decode cX9_name 38 = .ok (.bipush 8, 2) := by decide +kernel
theorem dX9_name_40 : decode cX9_name 40 = .ok (.lshl, 1) := by decide +kernel
theorem dX9_name_41 : decode cX9_name 41 = .ok (.aload_n 0, 1) := by decide +kernel
theorem dX9_name_42 : decode cX9_name 42 = .ok (.getfield 28, 3) := by decide +kernel
theorem dX9_name_45 : decode cX9_name 45 = .ok (.iload_n 3, 1) := by decide +kernel
theorem dX9_name_46 : decode cX9_name 46 = .ok (.iaload, 1) := by decide +kernel
theorem dX9_name_47 : decode cX9_name 47 = .ok (.i2l, 1) := by decide +kernel
theorem dX9_name_48 : decode cX9_name 48 = .ok (.lor, 1) := by decide +kernel
theorem dX9_name_49 : decode cX9_name 49 = .ok (.lstore_n 1, 1) := by decide +kernel
theorem dX9_name_50 : decode cX9_name 50 = .ok (.iinc 3 1, 3) := by decide +kernel
theorem dX9_name_53 : decode cX9_name 53 = .ok (.goto (-46), 3) := by decide +kernel
theorem dX9_name_56 : decode cX9_name 56 = .ok (.aload_n 0, 1) := by decide +kernel
theorem dX9_name_57 : decode cX9_name 57 = .ok (.getfield 102, 3) := by decide +kernel
theorem dX9_name_60 : decode cX9_name 60 = .ok (.ifCond .ne 7, 3) := by decide +kernel
theorem dX9_name_63 : decode cX9_name 63 = .ok (.lload_n 1, 1) := by decide +kernel
theorem dX9_name_64 : decode cX9_name 64 = .ok (.goto 4, 3) := by decide +kernel
theorem dX9_name_67 : decode cX9_name 67 = .ok (.lconst 0, 1) := by decide +kernel
theorem dX9_name_68 : decode cX9_name 68 = .ok (.lreturn, 1) := by decide +kernel
theorem dX9_figures_0 : decode cX9_figures 0 = .ok (.iconst 0, 1) := by decide +kernel
theorem dX9_figures_1 : decode cX9_figures 1 = .ok (.istore_n 1, 1) := by decide +kernel
theorem dX9_figures_2 : decode cX9_figures 2 = .ok (.aload_n 0, 1) := by decide +kernel
theorem dX9_figures_3 : decode cX9_figures 3 = .ok (.getfield 87, 3) := by decide +kernel
theorem dX9_figures_6 : decode cX9_figures 6 = .ok (.istore_n 2, 1) := by decide +kernel
theorem dX9_figures_7 : decode cX9_figures 7 = .ok (.iload_n 2, 1) := by decide +kernel
theorem dX9_figures_8 : decode cX9_figures 8 = .ok (.aload_n 0, 1) := by decide +kernel
theorem dX9_figures_9 : decode cX9_figures 9 = .ok (.getfield 99, 3) := by decide +kernel
theorem dX9_figures_12 : decode cX9_figures 12 = .ok (.if_icmp .ge 32, 3) := by decide +kernel
theorem dX9_figures_15 : decode cX9_figures 15 = .ok (.aload_n 0, 1) := by decide +kernel
theorem dX9_figures_16 : decode cX9_figures 16 = .ok (.getfield 90, 3) := by decide +kernel
theorem dX9_figures_19 : decode cX9_figures 19 = .ok (.iconst 3, 1) := by decide +kernel
theorem dX9_figures_20 : decode cX9_figures 20 = .ok (.if_icmp .ne 24, 3) := by decide +kernel
theorem dX9_figures_23 : decode cX9_figures 23 = .ok (.bipush 10, 2) := by decide +kernel
theorem dX9_figures_25 : decode cX9_figures 25 = .ok (.iload_n 1, 1) := by decide +kernel
theorem dX9_figures_26 : decode cX9_figures 26 = .ok (.imul, 1) := by decide +kernel
theorem dX9_figures_27 : decode cX9_figures 27 = .ok (.aload_n 0, 1) := by decide +kernel
theorem dX9_figures_28 : decode cX9_figures 28 = .ok (.getfield 28, 3) := by decide +kernel
theorem dX9_figures_31 : decode cX9_figures 31 = .ok (.iload_n 2, 1) := by decide +kernel
theorem dX9_figures_32 : decode cX9_figures 32 = .ok (.iaload, 1) := by decide +kernel
theorem dX9_figures_33 : decode cX9_figures 33 = .ok (.iadd, 1) := by decide +kernel
theorem dX9_figures_34 : decode cX9_figures 34 = .ok (.bipush 48, 2) := by decide +kernel
theorem dX9_figures_36 : decode cX9_figures 36 = .ok (.isub, 1) := by decide +kernel
theorem dX9_figures_37 : decode cX9_figures 37 = .ok (.istore_n 1, 1) := by decide +kernel
theorem dX9_figures_38 : decode cX9_figures 38 = .ok (.iinc 2 1, 3) := by decide +kernel
theorem dX9_figures_41 : decode cX9_figures 41 = .ok (.goto (-34), 3) := by decide +kernel
theorem dX9_figures_44 : decode cX9_figures 44 = .ok (.iload_n 1, 1) := by decide +kernel
theorem dX9_figures_45 : decode cX9_figures 45 = .ok (.ireturn, 1) := by decide +kernel
theorem dX9_number_0 : decode cX9_number 0 = .ok (.aload_n 0, 1) := by decide +kernel
theorem dX9_number_1 : decode cX9_number 1 = .ok (.getfield 102, 3) := by decide +kernel
theorem dX9_number_4 : decode cX9_number 4 = .ok (.ifCond .le 5, 3) := by decide +kernel
theorem dX9_number_7 : decode cX9_number 7 = .ok (.iconst 0, 1) := by decide +kernel
theorem dX9_number_8 : decode cX9_number 8 = .ok (.ireturn, 1) := by decide +kernel
theorem dX9_number_9 : decode cX9_number 9 = .ok (.aload_n 0, 1) := by decide +kernel
theorem dX9_number_10 : decode cX9_number 10 = .ok (.invokevirtual 115, 3) := by decide +kernel
theorem dX9_number_13 : decode cX9_number 13 = .ok (.istore_n 3, 1) := by decide +kernel
theorem dX9_number_14 : decode cX9_number 14 = .ok (.aload_n 0, 1) := by decide +kernel
theorem dX9_number_15 : decode cX9_number 15 = .ok (.getfield 90, 3) := by decide +kernel
theorem dX9_number_18 : decode cX9_number 18 = .ok (.iconst 3, 1) := by decide +kernel
theorem dX9_number_19 : decode cX9_number 19 = .ok (.if_icmp .ne 20, 3) := by decide +kernel
theorem dX9_number_22 : decode cX9_number 22 = .ok (.iload_n 3, 1) := by decide +kernel
theorem dX9_number_23 : decode cX9_number 23 = .ok (.i2l, 1) := by decide +kernel
theorem dX9_number_24 : decode cX9_number 24 = .ok (.iload_n 1, 1) := by decide +kernel
theorem dX9_number_25 : decode cX9_number 25 = .ok (.i2l, 1) := by decide +kernel
theorem dX9_number_26 : decode cX9_number 26 = .ok (.iload_n 2, 1) := by decide +kernel
theorem dX9_number_27 : decode cX9_number 27 = .ok (.i2l, 1) := by decide +kernel
theorem dX9_number_28 : decode cX9_number 28 = .ok (.invokestatic 54, 3) := by decide +kernel
theorem dX9_number_31 : decode cX9_number 31 = .ok (.ifCond .ne 8, 3) := by decide +kernel
theorem dX9_number_34 : decode cX9_number 34 = .ok (.aload_n 0, 1) := by decide +kernel
theorem dX9_number_35 : decode cX9_number 35 = .ok (.iconst 2, 1) := by decide +kernel
theorem dX9_number_36 : decode cX9_number 36 = .ok (.invokevirtual 111, 3) := by decide +kernel
theorem dX9_number_39 : decode cX9_number 39 = .ok (.aload_n 0, 1) := by decide +kernel
theorem dX9_number_40 : decode cX9_number 40 = .ok (.aload_n 0, 1) := by decide +kernel
theorem dX9_number_41 : decode cX9_number 41 = .ok (.getfield 90, 3) := by decide +kernel
theorem dX9_number_44 : decode cX9_number 44 = .ok (.iconst 3, 1) := by decide +kernel
theorem dX9_number_45 : decode cX9_number 45 = .ok (.if_icmp .ne 7, 3) := by decide +kernel
theorem dX9_number_48 : decode cX9_number 48 = .ok (.iconst 1, 1) := by decide +kernel
theorem dX9_number_49 : decode cX9_number 49 = .ok (.goto 4, 3) := by decide +kernel
theorem dX9_number_52 : decode cX9_number 52 = .ok (.iconst 0, 1) := by decide +kernel
theorem dX9_number_53 : decode cX9_number 53 = .ok (.invokevirtual 119, 3) := by decide +kernel
theorem dX9_number_56 : decode cX9_number 56 = .ok (.iload_n 3, 1) := by decide +kernel
theorem dX9_number_57 : decode cX9_number 57 = .ok (.ireturn, 1) := by decide +kernel
theorem dX9_kindBy_0 : decode cX9_kindBy 0 = .ok (.lload_n 0, 1) := by decide +kernel
theorem dX9_kindBy_1 : decode cX9_kindBy 1 = .ok (.ldc2_w 123, 3) := by decide +kernel
theorem dX9_kindBy_4 : decode cX9_kindBy 4 = .ok (.lcmp, 1) := by decide +kernel
theorem dX9_kindBy_5 : decode cX9_kindBy 5 = .ok (.ifCond .ne 7, 3) := by decide +kernel
theorem dX9_kindBy_8 : decode cX9_kindBy 8 = .ok (.iconst 1, 1) := by decide +kernel
theorem dX9_kindBy_9 : decode cX9_kindBy 9 = .ok (.goto 53, 3) := by decide +kernel
theorem dX9_kindBy_12 : decode cX9_kindBy 12 = .ok (.lload_n 0, 1) := by decide +kernel
theorem dX9_kindBy_13 : decode cX9_kindBy 13 = .ok (.ldc2_w 125, 3) := by decide +kernel
theorem dX9_kindBy_16 : decode cX9_kindBy 16 = .ok (.lcmp, 1) := by decide +kernel
theorem dX9_kindBy_17 : decode cX9_kindBy 17 = .ok (.ifCond .ne 7, 3) := by decide +kernel
theorem dX9_kindBy_20 : decode cX9_kindBy 20 = .ok (.iconst 2, 1) := by decide +kernel
theorem dX9_kindBy_21 : decode cX9_kindBy 21 = .ok (.goto 41, 3) := by decide +kernel
theorem dX9_kindBy_24 : decode cX9_kindBy 24 = .ok (.lload_n 0, 1) := by decide +kernel
theorem dX9_kindBy_25 : decode cX9_kindBy 25 = .ok (.ldc2_w 127, 3) := by decide +kernel
theorem dX9_kindBy_28 : decode cX9_kindBy 28 = .ok (.lcmp, 1) := by decide +kernel
theorem dX9_kindBy_29 : decode cX9_kindBy 29 = .ok (.ifCond .ne 7, 3) := by decide +kernel
theorem dX9_kindBy_32 : decode cX9_kindBy 32 = .ok (.iconst 3, 1) := by decide +kernel
theorem dX9_kindBy_33 : decode cX9_kindBy 33 = .ok (.goto 29, 3) := by decide +kernel
theorem dX9_kindBy_36 : decode cX9_kindBy 36 = .ok (.lload_n 0, 1) := by decide +kernel
theorem dX9_kindBy_37 : decode cX9_kindBy 37 = .ok (.ldc2_w 129, 3) := by decide +kernel
theorem dX9_kindBy_40 : decode cX9_kindBy 40 = .ok (.lcmp, 1) := by decide +kernel
theorem dX9_kindBy_41 : decode cX9_kindBy 41 = .ok (.ifCond .ne 7, 3) := by decide +kernel
theorem dX9_kindBy_44 : decode cX9_kindBy 44 = .ok (.iconst 4, 1) := by decide +kernel
theorem dX9_kindBy_45 : decode cX9_kindBy 45 = .ok (.goto 17, 3) := by decide +kernel
theorem dX9_kindBy_48 : decode cX9_kindBy 48 = .ok (.lload_n 0, 1) := by decide +kernel
theorem dX9_kindBy_49 : decode cX9_kindBy 49 = .ok (.ldc2_w 131, 3) := by decide +kernel
theorem dX9_kindBy_52 : decode cX9_kindBy 52 = .ok (.lcmp, 1) := by decide +kernel
theorem dX9_kindBy_53 : decode cX9_kindBy 53 = .ok (.ifCond .ne 7, 3) := by decide +kernel
theorem dX9_kindBy_56 : decode cX9_kindBy 56 = .ok (.iconst 5, 1) := by decide +kernel
theorem dX9_kindBy_57 : decode cX9_kindBy 57 = .ok (.goto 5, 3) := by decide +kernel
theorem dX9_kindBy_60 : decode cX9_kindBy 60 = .ok (.ldc 80, 2) := by decide +kernel
theorem dX9_kindBy_62 : decode cX9_kindBy 62 = .ok (.ireturn, 1) := by decide +kernel
theorem dX9_mustEnd_0 : decode cX9_mustEnd 0 = .ok (.aload_n 0, 1) := by decide +kernel
theorem dX9_mustEnd_1 : decode cX9_mustEnd 1 = .ok (.getfield 102, 3) := by decide +kernel
theorem dX9_mustEnd_4 : decode cX9_mustEnd 4 = .ok (.ifCond .ne 20, 3) := by decide +kernel
theorem dX9_mustEnd_7 : decode cX9_mustEnd 7 = .ok (.aload_n 0, 1) := by decide +kernel
theorem dX9_mustEnd_8 : decode cX9_mustEnd 8 = .ok (.aload_n 0, 1) := by decide +kernel
theorem dX9_mustEnd_9 : decode cX9_mustEnd 9 = .ok (.getfield 90, 3) := by decide +kernel
theorem dX9_mustEnd_12 : decode cX9_mustEnd 12 = .ok (.iconst 4, 1) := by decide +kernel
theorem dX9_mustEnd_13 : decode cX9_mustEnd 13 = .ok (.if_icmp .ne 7, 3) := by decide +kernel
theorem dX9_mustEnd_16 : decode cX9_mustEnd 16 = .ok (.iconst 1, 1) := by decide +kernel
theorem dX9_mustEnd_17 : decode cX9_mustEnd 17 = .ok (.goto 4, 3) := by decide +kernel
theorem dX9_mustEnd_20 : decode cX9_mustEnd 20 = .ok (.iconst 0, 1) := by decide +kernel
theorem dX9_mustEnd_21 : decode cX9_mustEnd 21 = .ok (.invokevirtual 119, 3) := by decide +kernel
theorem dX9_mustEnd_24 : decode cX9_mustEnd 24 = .ok (.return_, 1) := by decide +kernel
theorem dX9_begins_0 : decode cX9_begins 0 = .ok (.aload_n 0, 1) := by decide +kernel
theorem dX9_begins_1 : decode cX9_begins 1 = .ok (.getfield 22, 3) := by decide +kernel
theorem dX9_begins_4 : decode cX9_begins 4 = .ok (.iload_n 1, 1) := by decide +kernel
theorem dX9_begins_5 : decode cX9_begins 5 = .ok (.iaload, 1) := by decide +kernel
theorem dX9_begins_6 : decode cX9_begins 6 = .ok (.iload_n 2, 1) := by decide +kernel
theorem dX9_begins_7 : decode cX9_begins 7 = .ok (.if_icmp .ne 8, 3) := by decide +kernel
theorem dX9_begins_10 : decode cX9_begins 10 = .ok (.aload_n 0, 1) := by decide +kernel
theorem dX9_begins_11 : decode cX9_begins 11 = .ok (.iconst 3, 1) := by decide +kernel
theorem dX9_begins_12 : decode cX9_begins 12 = .ok (.invokevirtual 111, 3) := by decide +kernel
theorem dX9_begins_15 : decode cX9_begins 15 = .ok (.aload_n 0, 1) := by decide +kernel
theorem dX9_begins_16 : decode cX9_begins 16 = .ok (.iconst 1, 1) := by decide +kernel
theorem dX9_begins_17 : decode cX9_begins 17 = .ok (.invokevirtual 119, 3) := by decide +kernel
theorem dX9_begins_20 : decode cX9_begins 20 = .ok (.return_, 1) := by decide +kernel
theorem dX9_readPerson_0 : decode cX9_readPerson 0 = .ok (.aload_n 0, 1) := by decide +kernel
theorem dX9_readPerson_1 : decode cX9_readPerson 1 = .ok (.iconst 2, 1) := by decide +kernel
theorem dX9_readPerson_2 : decode cX9_readPerson 2 = .ok (.iconst 4, 1) := by decide +kernel
theorem dX9_readPerson_3 : decode cX9_readPerson 3 = .ok (.invokevirtual 133, 3) := by decide +kernel
theorem dX9_readPerson_6 : decode cX9_readPerson 6 = .ok (.aload_n 0, 1) := by decide +kernel
theorem dX9_readPerson_7 : decode cX9_readPerson 7 = .ok (.invokevirtual 137, 3) := by decide +kernel
theorem dX9_readPerson_10 : decode cX9_readPerson 10 = .ok (.invokestatic 141, 3) := by decide +kernel
theorem dX9_readPerson_13 : decode cX9_readPerson 13 = .ok (.istore_n 1, 1) := by decide +kernel
theorem dX9_readPerson_14 : decode cX9_readPerson 14 = .ok (.aload_n 0, 1) := by decide +kernel
theorem dX9_readPerson_15 : decode cX9_readPerson 15 = .ok (.getfield 102, 3) := by decide +kernel
theorem dX9_readPerson_18 : decode cX9_readPerson 18 = .ok (.ifCond .ne 18, 3) := by decide +kernel
theorem dX9_readPerson_21 : decode cX9_readPerson 21 = .ok (.aload_n 0, 1) := by decide +kernel
theorem dX9_readPerson_22 : decode cX9_readPerson 22 = .ok (.iload_n 1, 1) := by decide +kernel
theorem dX9_readPerson_23 : decode cX9_readPerson 23 = .ok (.ldc 80, 2) := by decide +kernel
theorem dX9_readPerson_25 : decode cX9_readPerson 25 = .ok (.if_icmp .eq 7, 3) := by decide +kernel
theorem dX9_readPerson_28 : decode cX9_readPerson 28 = .ok (.iconst 1, 1) := by decide +kernel
theorem dX9_readPerson_29 : decode cX9_readPerson 29 = .ok (.goto 4, 3) := by decide +kernel
theorem dX9_readPerson_32 : decode cX9_readPerson 32 = .ok (.iconst 0, 1) := by decide +kernel
theorem dX9_readPerson_33 : decode cX9_readPerson 33 = .ok (.invokevirtual 119, 3) := by decide +kernel
theorem dX9_readPerson_36 : decode cX9_readPerson 36 = .ok (.aload_n 0, 1) := by decide +kernel
theorem dX9_readPerson_37 : decode cX9_readPerson 37 = .ok (.invokevirtual 145, 3) := by decide +kernel
theorem dX9_readPerson_40 : decode cX9_readPerson 40 = .ok (.aload_n 0, 1) := by decide +kernel
theorem dX9_readPerson_41 : decode cX9_readPerson 41 = .ok (.getfield 102, 3) := by decide +kernel
theorem dX9_readPerson_44 : decode cX9_readPerson 44 = .ok (.ifCond .ne 27, 3) := by decide +kernel
theorem dX9_readPerson_47 : decode cX9_readPerson 47 = .ok (.aload_n 0, 1) := by decide +kernel
theorem dX9_readPerson_48 : decode cX9_readPerson 48 = .ok (.getfield 22, 3) := by decide +kernel
theorem dX9_readPerson_51 : decode cX9_readPerson 51 = .ok (.iconst 4, 1) := by decide +kernel
theorem dX9_readPerson_52 : decode cX9_readPerson 52 = .ok (.aload_n 0, 1) := by decide +kernel
theorem dX9_readPerson_53 : decode cX9_readPerson 53 = .ok (.getfield 22, 3) := by decide +kernel
theorem dX9_readPerson_56 : decode cX9_readPerson 56 = .ok (.iconst 2, 1) := by decide +kernel
theorem dX9_readPerson_57 : decode cX9_readPerson 57 = .ok (.iaload, 1) := by decide +kernel
theorem dX9_readPerson_58 : decode cX9_readPerson 58 = .ok (.iadd, 1) := by decide +kernel
theorem dX9_readPerson_59 : decode cX9_readPerson 59 = .ok (.iload_n 1, 1) := by decide +kernel
theorem dX9_readPerson_60 : decode cX9_readPerson 60 = .ok (.iastore, 1) := by decide +kernel
theorem dX9_readPerson_61 : decode cX9_readPerson 61 = .ok (.aload_n 0, 1) := by decide +kernel
theorem dX9_readPerson_62 : decode cX9_readPerson 62 = .ok (.getfield 22, 3) := by decide +kernel
theorem dX9_readPerson_65 : decode cX9_readPerson 65 = .ok (.iconst 2, 1) := by decide +kernel
theorem dX9_readPerson_66 : decode cX9_readPerson 66 = .ok (.dup2, 1) := by decide +kernel
theorem dX9_readPerson_67 : decode cX9_readPerson 67 = .ok (.iaload, 1) := by decide +kernel
theorem dX9_readPerson_68 : decode cX9_readPerson 68 = .ok (.iconst 1, 1) := by decide +kernel
theorem dX9_readPerson_69 : decode cX9_readPerson 69 = .ok (.iadd, 1) := by decide +kernel
theorem dX9_readPerson_70 : decode cX9_readPerson 70 = .ok (.iastore, 1) := by decide +kernel
theorem dX9_readPerson_71 : decode cX9_readPerson 71 = .ok (.return_, 1) := by decide +kernel
theorem dX9_readThing_0 : decode cX9_readThing 0 = .ok (.aload_n 0, 1) := by decide +kernel
theorem dX9_readThing_1 : decode cX9_readThing 1 = .ok (.iconst 3, 1) := by decide +kernel
theorem dX9_readThing_2 : decode cX9_readThing 2 = .ok (.iconst 5, 1) := by decide +kernel
theorem dX9_readThing_3 : decode cX9_readThing 3 = .ok (.invokevirtual 133, 3) := by decide +kernel
theorem dX9_readThing_6 : decode cX9_readThing 6 = .ok (.aload_n 0, 1) := by decide +kernel
theorem dX9_readThing_7 : decode cX9_readThing 7 = .ok (.getfield 102, 3) := by decide +kernel
theorem dX9_readThing_10 : decode cX9_readThing 10 = .ok (.ifCond .ne 18, 3) := by decide +kernel
theorem dX9_readThing_13 : decode cX9_readThing 13 = .ok (.bipush 12, 2) := by decide +kernel
theorem dX9_readThing_15 : decode cX9_readThing 15 = .ok (.bipush 6, 2) := by decide +kernel
theorem dX9_readThing_17 : decode cX9_readThing 17 = .ok (.aload_n 0, 1) := by decide +kernel
theorem dX9_readThing_18 : decode cX9_readThing 18 = .ok (.getfield 22, 3) := by decide +kernel
theorem dX9_readThing_21 : decode cX9_readThing 21 = .ok (.iconst 3, 1) := by decide +kernel
theorem dX9_readThing_22 : decode cX9_readThing 22 = .ok (.iaload, 1) := by decide +kernel
theorem dX9_readThing_23 : decode cX9_readThing 23 = .ok (.imul, 1) := by decide +kernel
theorem dX9_readThing_24 : decode cX9_readThing 24 = .ok (.iadd, 1) := by decide +kernel
theorem dX9_readThing_25 : decode cX9_readThing 25 = .ok (.goto 5, 3) := by decide +kernel
theorem dX9_readThing_28 : decode cX9_readThing 28 = .ok (.bipush 12, 2) := by decide +kernel
theorem dX9_readThing_30 : decode cX9_readThing 30 = .ok (.istore_n 1, 1) := by decide +kernel
theorem dX9_readThing_31 : decode cX9_readThing 31 = .ok (.iconst 0, 1) := by decide +kernel
theorem dX9_readThing_32 : decode cX9_readThing 32 = .ok (.istore_n 2, 1) := by decide +kernel
theorem dX9_readThing_33 : decode cX9_readThing 33 = .ok (.iload_n 2, 1) := by decide +kernel
theorem dX9_readThing_34 : decode cX9_readThing 34 = .ok (.aload_n 0, 1) := by decide +kernel
theorem dX9_readThing_35 : decode cX9_readThing 35 = .ok (.getfield 22, 3) := by decide +kernel
theorem dX9_readThing_38 : decode cX9_readThing 38 = .ok (.iconst 2, 1) := by decide +kernel
theorem dX9_readThing_39 : decode cX9_readThing 39 = .ok (.iaload, 1) := by decide +kernel
theorem dX9_readThing_40 : decode cX9_readThing 40 = .ok (.if_icmp .ge 37, 3) := by decide +kernel
theorem dX9_readThing_43 : decode cX9_readThing 43 = .ok (.aload_n 0, 1) := by decide +kernel
theorem dX9_readThing_44 : decode cX9_readThing 44 = .ok (.iconst 0, 1) := by decide +kernel
theorem dX9_readThing_45 : decode cX9_readThing 45 = .ok (.bipush 60, 2) := by decide +kernel
theorem dX9_readThing_47 : decode cX9_readThing 47 = .ok (.invokevirtual 148, 3) := by decide +kernel
theorem dX9_readThing_50 : decode cX9_readThing 50 = .ok (.istore_n 3, 1) := by decide +kernel
theorem dX9_readThing_51 : decode cX9_readThing 51 = .ok (.aload_n 0, 1) := by decide +kernel
theorem dX9_readThing_52 : decode cX9_readThing 52 = .ok (.getfield 22, 3) := by decide +kernel
theorem dX9_readThing_55 : decode cX9_readThing 55 = .ok (.iload_n 1, 1) := by decide +kernel
theorem dX9_readThing_56 : decode cX9_readThing 56 = .ok (.iload_n 2, 1) := by decide +kernel
theorem dX9_readThing_57 : decode cX9_readThing 57 = .ok (.iadd, 1) := by decide +kernel
theorem dX9_readThing_58 : decode cX9_readThing 58 = .ok (.aload_n 0, 1) := by decide +kernel
theorem dX9_readThing_59 : decode cX9_readThing 59 = .ok (.getfield 102, 3) := by decide +kernel
theorem dX9_readThing_62 : decode cX9_readThing 62 = .ok (.ifCond .ne 7, 3) := by decide +kernel
theorem dX9_readThing_65 : decode cX9_readThing 65 = .ok (.iload_n 3, 1) := by decide +kernel
theorem dX9_readThing_66 : decode cX9_readThing 66 = .ok (.goto 4, 3) := by decide +kernel
theorem dX9_readThing_69 : decode cX9_readThing 69 = .ok (.iconst 0, 1) := by decide +kernel
theorem dX9_readThing_70 : decode cX9_readThing 70 = .ok (.iastore, 1) := by decide +kernel
theorem dX9_readThing_71 : decode cX9_readThing 71 = .ok (.iinc 2 1, 3) := by decide +kernel
theorem dX9_readThing_74 : decode cX9_readThing 74 = .ok (.goto (-41), 3) := by decide +kernel
theorem dX9_readThing_77 : decode cX9_readThing 77 = .ok (.aload_n 0, 1) := by decide +kernel
theorem dX9_readThing_78 : decode cX9_readThing 78 = .ok (.invokevirtual 145, 3) := by decide +kernel
theorem dX9_readThing_81 : decode cX9_readThing 81 = .ok (.aload_n 0, 1) := by decide +kernel
theorem dX9_readThing_82 : decode cX9_readThing 82 = .ok (.getfield 102, 3) := by decide +kernel
theorem dX9_readThing_85 : decode cX9_readThing 85 = .ok (.ifCond .ne 32, 3) := by decide +kernel
theorem dX9_readThing_88 : decode cX9_readThing 88 = .ok (.aload_n 0, 1) := by decide +kernel
theorem dX9_readThing_89 : decode cX9_readThing 89 = .ok (.getfield 22, 3) := by decide +kernel
theorem dX9_readThing_92 : decode cX9_readThing 92 = .ok (.iload_n 1, 1) := by decide +kernel
theorem dX9_readThing_93 : decode cX9_readThing 93 = .ok (.iconst 4, 1) := by decide +kernel
theorem dX9_readThing_94 : decode cX9_readThing 94 = .ok (.iadd, 1) := by decide +kernel
theorem dX9_readThing_95 : decode cX9_readThing 95 = .ok (.ldc 80, 2) := by decide +kernel
theorem dX9_readThing_97 : decode cX9_readThing 97 = .ok (.iastore, 1) := by decide +kernel
theorem dX9_readThing_98 : decode cX9_readThing 98 = .ok (.aload_n 0, 1) := by decide +kernel
theorem dX9_readThing_99 : decode cX9_readThing 99 = .ok (.getfield 22, 3) := by decide +kernel
theorem dX9_readThing_102 : decode cX9_readThing 102 = .ok (.iload_n 1, 1) := by decide +kernel
theorem dX9_readThing_103 : decode cX9_readThing 103 = .ok (.iconst 5, 1) := by decide +kernel
theorem dX9_readThing_104 : decode cX9_readThing 104 = .ok (.iadd, 1) := by decide +kernel
theorem dX9_readThing_105 : decode cX9_readThing 105 = .ok (.iconst 0, 1) := by decide +kernel
theorem dX9_readThing_106 : decode cX9_readThing 106 = .ok (.iastore, 1) := by decide +kernel
theorem dX9_readThing_107 : decode cX9_readThing 107 = .ok (.aload_n 0, 1) := by decide +kernel
theorem dX9_readThing_108 : decode cX9_readThing 108 = .ok (.getfield 22, 3) := by decide +kernel
theorem dX9_readThing_111 : decode cX9_readThing 111 = .ok (.iconst 3, 1) := by decide +kernel
theorem dX9_readThing_112 : decode cX9_readThing 112 = .ok (.dup2, 1) := by decide +kernel
theorem dX9_readThing_113 : decode cX9_readThing 113 = .ok (.iaload, 1) := by decide +kernel
theorem dX9_readThing_114 : decode cX9_readThing 114 = .ok (.iconst 1, 1) := by decide +kernel
theorem dX9_readThing_115 : decode cX9_readThing 115 = .ok (.iadd, 1) := by decide +kernel
theorem dX9_readThing_116 : decode cX9_readThing 116 = .ok (.iastore, 1) := by decide +kernel
theorem dX9_readThing_117 : decode cX9_readThing 117 = .ok (.return_, 1) := by decide +kernel
theorem dX9_town_0 : decode cX9_town 0 = .ok (.aload_n 0, 1) := by decide +kernel
theorem dX9_town_1 : decode cX9_town 1 = .ok (.iconst 0, 1) := by decide +kernel
theorem dX9_town_2 : decode cX9_town 2 = .ok (.putfield 44, 3) := by decide +kernel
theorem dX9_town_5 : decode cX9_town 5 = .ok (.aload_n 0, 1) := by decide +kernel
theorem dX9_town_6 : decode cX9_town 6 = .ok (.invokevirtual 152, 3) := by decide +kernel
theorem dX9_town_9 : decode cX9_town 9 = .ok (.iconst 0, 1) := by decide +kernel
theorem dX9_town_10 : decode cX9_town 10 = .ok (.istore_n 1, 1) := by decide +kernel
theorem dX9_town_11 : decode cX9_town 11 = .ok (.iload_n 1, 1) := by decide +kernel
theorem dX9_town_12 : decode cX9_town 12 = .ok (.bipush 42, 2) := by decide +kernel
theorem dX9_town_14 : decode cX9_town 14 = .ok (.if_icmp .ge 16, 3) := by decide +kernel
theorem dX9_town_17 : decode cX9_town 17 = .ok (.aload_n 0, 1) := by decide +kernel
theorem dX9_town_18 : decode cX9_town 18 = .ok (.getfield 22, 3) := by decide +kernel
theorem dX9_town_21 : decode cX9_town 21 = .ok (.iload_n 1, 1) := by decide +kernel
theorem dX9_town_22 : decode cX9_town 22 = .ok (.iconst 0, 1) := by decide +kernel
theorem dX9_town_23 : decode cX9_town 23 = .ok (.iastore, 1) := by decide +kernel
theorem dX9_town_24 : decode cX9_town 24 = .ok (.iinc 1 1, 3) := by decide +kernel
theorem dX9_town_27 : decode cX9_town 27 = .ok (.goto (-16), 3) := by decide +kernel
theorem dX9_town_30 : decode cX9_town 30 = .ok (.aload_n 0, 1) := by decide +kernel
theorem dX9_town_31 : decode cX9_town 31 = .ok (.aload_n 0, 1) := by decide +kernel
theorem dX9_town_32 : decode cX9_town 32 = .ok (.invokevirtual 137, 3) := by decide +kernel
theorem dX9_town_35 : decode cX9_town 35 = .ok (.ldc2_w 155, 3) := by decide +kernel
theorem dX9_town_38 : decode cX9_town 38 = .ok (.lcmp, 1) := by decide +kernel
theorem dX9_town_39 : decode cX9_town 39 = .ok (.ifCond .ne 7, 3) := by decide +kernel
theorem dX9_town_42 : decode cX9_town 42 = .ok (.iconst 1, 1) := by decide +kernel
theorem dX9_town_43 : decode cX9_town 43 = .ok (.goto 4, 3) := by decide +kernel
theorem dX9_town_46 : decode cX9_town 46 = .ok (.iconst 0, 1) := by decide +kernel
theorem dX9_town_47 : decode cX9_town 47 = .ok (.invokevirtual 119, 3) := by decide +kernel
theorem dX9_town_50 : decode cX9_town 50 = .ok (.aload_n 0, 1) := by decide +kernel
theorem dX9_town_51 : decode cX9_town 51 = .ok (.getfield 22, 3) := by decide +kernel
theorem dX9_town_54 : decode cX9_town 54 = .ok (.iconst 0, 1) := by decide +kernel
theorem dX9_town_55 : decode cX9_town 55 = .ok (.aload_n 0, 1) := by decide +kernel
theorem dX9_town_56 : decode cX9_town 56 = .ok (.iconst 0, 1) := by decide +kernel
theorem dX9_town_57 : decode cX9_town 57 = .ok (.iconst 3, 1) := by decide +kernel
theorem dX9_town_58 : decode cX9_town 58 = .ok (.invokevirtual 148, 3) := by decide +kernel
theorem dX9_town_61 : decode cX9_town 61 = .ok (.iastore, 1) := by decide +kernel
theorem dX9_town_62 : decode cX9_town 62 = .ok (.aload_n 0, 1) := by decide +kernel
theorem dX9_town_63 : decode cX9_town 63 = .ok (.getfield 22, 3) := by decide +kernel
theorem dX9_town_66 : decode cX9_town 66 = .ok (.iconst 1, 1) := by decide +kernel
theorem dX9_town_67 : decode cX9_town 67 = .ok (.aload_n 0, 1) := by decide +kernel
theorem dX9_town_68 : decode cX9_town 68 = .ok (.iconst 0, 1) := by decide +kernel
theorem dX9_town_69 : decode cX9_town 69 = .ok (.bipush 20, 2) := by decide +kernel
theorem dX9_town_71 : decode cX9_town 71 = .ok (.invokevirtual 148, 3) := by decide +kernel
theorem dX9_town_74 : decode cX9_town 74 = .ok (.iastore, 1) := by decide +kernel
theorem dX9_town_75 : decode cX9_town 75 = .ok (.aload_n 0, 1) := by decide +kernel
theorem dX9_town_76 : decode cX9_town 76 = .ok (.invokevirtual 145, 3) := by decide +kernel
theorem dX9_town_79 : decode cX9_town 79 = .ok (.aload_n 0, 1) := by decide +kernel
theorem dX9_town_80 : decode cX9_town 80 = .ok (.invokevirtual 137, 3) := by decide +kernel
theorem dX9_town_83 : decode cX9_town 83 = .ok (.ldc2_w 157, 3) := by decide +kernel
theorem dX9_town_86 : decode cX9_town 86 = .ok (.lcmp, 1) := by decide +kernel
theorem dX9_town_87 : decode cX9_town 87 = .ok (.ifCond .eq 8, 3) := by decide +kernel
theorem dX9_town_90 : decode cX9_town 90 = .ok (.aload_n 0, 1) := by decide +kernel
theorem dX9_town_91 : decode cX9_town 91 = .ok (.iconst 1, 1) := by decide +kernel
theorem dX9_town_92 : decode cX9_town 92 = .ok (.invokevirtual 111, 3) := by decide +kernel
theorem dX9_town_95 : decode cX9_town 95 = .ok (.aload_n 0, 1) := by decide +kernel
theorem dX9_town_96 : decode cX9_town 96 = .ok (.invokevirtual 137, 3) := by decide +kernel
theorem dX9_town_99 : decode cX9_town 99 = .ok (.ldc2_w 157, 3) := by decide +kernel
theorem dX9_town_102 : decode cX9_town 102 = .ok (.lcmp, 1) := by decide +kernel
theorem dX9_town_103 : decode cX9_town 103 = .ok (.ifCond .ne 10, 3) := by decide +kernel
theorem dX9_town_106 : decode cX9_town 106 = .ok (.aload_n 0, 1) := by decide +kernel
theorem dX9_town_107 : decode cX9_town 107 = .ok (.invokevirtual 159, 3) := by decide +kernel
theorem dX9_town_110 : decode cX9_town 110 = .ok (.goto (-15), 3) := by decide +kernel
theorem dX9_town_113 : decode cX9_town 113 = .ok (.aload_n 0, 1) := by decide +kernel
theorem dX9_town_114 : decode cX9_town 114 = .ok (.invokevirtual 137, 3) := by decide +kernel
theorem dX9_town_117 : decode cX9_town 117 = .ok (.ldc2_w 162, 3) := by decide +kernel
theorem dX9_town_120 : decode cX9_town 120 = .ok (.lcmp, 1) := by decide +kernel
theorem dX9_town_121 : decode cX9_town 121 = .ok (.ifCond .ne 10, 3) := by decide +kernel
theorem dX9_town_124 : decode cX9_town 124 = .ok (.aload_n 0, 1) := by decide +kernel
theorem dX9_town_125 : decode cX9_town 125 = .ok (.invokevirtual 164, 3) := by decide +kernel
theorem dX9_town_128 : decode cX9_town 128 = .ok (.goto (-15), 3) := by decide +kernel
theorem dX9_town_131 : decode cX9_town 131 = .ok (.aload_n 0, 1) := by decide +kernel
theorem dX9_town_132 : decode cX9_town 132 = .ok (.getfield 102, 3) := by decide +kernel
theorem dX9_town_135 : decode cX9_town 135 = .ok (.ifCond .ne 16, 3) := by decide +kernel
theorem dX9_town_138 : decode cX9_town 138 = .ok (.aload_n 0, 1) := by decide +kernel
theorem dX9_town_139 : decode cX9_town 139 = .ok (.getfield 90, 3) := by decide +kernel
theorem dX9_town_142 : decode cX9_town 142 = .ok (.iconst 1, 1) := by decide +kernel
theorem dX9_town_143 : decode cX9_town 143 = .ok (.if_icmp .eq 8, 3) := by decide +kernel
theorem dX9_town_146 : decode cX9_town 146 = .ok (.aload_n 0, 1) := by decide +kernel
theorem dX9_town_147 : decode cX9_town 147 = .ok (.iconst 1, 1) := by decide +kernel
theorem dX9_town_148 : decode cX9_town 148 = .ok (.invokevirtual 111, 3) := by decide +kernel
theorem dX9_town_151 : decode cX9_town 151 = .ok (.aload_n 0, 1) := by decide +kernel
theorem dX9_town_152 : decode cX9_town 152 = .ok (.getfield 102, 3) := by decide +kernel
theorem dX9_town_155 : decode cX9_town 155 = .ok (.ifCond .le 19, 3) := by decide +kernel
theorem dX9_town_158 : decode cX9_town 158 = .ok (.aload_n 0, 1) := by decide +kernel
theorem dX9_town_159 : decode cX9_town 159 = .ok (.aload_n 0, 1) := by decide +kernel
theorem dX9_town_160 : decode cX9_town 160 = .ok (.getfield 102, 3) := by decide +kernel
theorem dX9_town_163 : decode cX9_town 163 = .ok (.putfield 167, 3) := by decide +kernel
theorem dX9_town_166 : decode cX9_town 166 = .ok (.ldc 170, 2) := by decide +kernel
theorem dX9_town_168 : decode cX9_town 168 = .ok (.aload_n 0, 1) := by decide +kernel
theorem dX9_town_169 : decode cX9_town 169 = .ok (.getfield 108, 3) := by decide +kernel
theorem dX9_town_172 : decode cX9_town 172 = .ok (.isub, 1) := by decide +kernel
theorem dX9_town_173 : decode cX9_town 173 = .ok (.ireturn, 1) := by decide +kernel
theorem dX9_town_174 : decode cX9_town 174 = .ok (.aload_n 0, 1) := by decide +kernel
theorem dX9_town_175 : decode cX9_town 175 = .ok (.iconst 0, 1) := by decide +kernel
theorem dX9_town_176 : decode cX9_town 176 = .ok (.putfield 171, 3) := by decide +kernel
theorem dX9_town_179 : decode cX9_town 179 = .ok (.iconst 0, 1) := by decide +kernel
theorem dX9_town_180 : decode cX9_town 180 = .ok (.istore_n 1, 1) := by decide +kernel
theorem dX9_town_181 : decode cX9_town 181 = .ok (.iload_n 1, 1) := by decide +kernel
theorem dX9_town_182 : decode cX9_town 182 = .ok (.bipush 42, 2) := by decide +kernel
theorem dX9_town_184 : decode cX9_town 184 = .ok (.if_icmp .ge 21, 3) := by decide +kernel
theorem dX9_town_187 : decode cX9_town 187 = .ok (.aload_n 0, 1) := by decide +kernel
theorem dX9_town_188 : decode cX9_town 188 = .ok (.getfield 19, 3) := by decide +kernel
theorem dX9_town_191 : decode cX9_town 191 = .ok (.iload_n 1, 1) := by decide +kernel
theorem dX9_town_192 : decode cX9_town 192 = .ok (.aload_n 0, 1) := by decide +kernel
theorem dX9_town_193 : decode cX9_town 193 = .ok (.getfield 22, 3) := by decide +kernel
theorem dX9_town_196 : decode cX9_town 196 = .ok (.iload_n 1, 1) := by decide +kernel
theorem dX9_town_197 : decode cX9_town 197 = .ok (.iaload, 1) := by decide +kernel
theorem dX9_town_198 : decode cX9_town 198 = .ok (.iastore, 1) := by decide +kernel
theorem dX9_town_199 : decode cX9_town 199 = .ok (.iinc 1 1, 3) := by decide +kernel
theorem dX9_town_202 : decode cX9_town 202 = .ok (.goto (-21), 3) := by decide +kernel
theorem dX9_town_205 : decode cX9_town 205 = .ok (.aload_n 0, 1) := by decide +kernel
theorem dX9_town_206 : decode cX9_town 206 = .ok (.getfield 19, 3) := by decide +kernel
theorem dX9_town_209 : decode cX9_town 209 = .ok (.iconst 2, 1) := by decide +kernel
theorem dX9_town_210 : decode cX9_town 210 = .ok (.iaload, 1) := by decide +kernel
theorem dX9_town_211 : decode cX9_town 211 = .ok (.ireturn, 1) := by decide +kernel
theorem dX9_fault_0 : decode cX9_fault 0 = .ok (.aload_n 0, 1) := by decide +kernel
theorem dX9_fault_1 : decode cX9_fault 1 = .ok (.iconst 0, 1) := by decide +kernel
theorem dX9_fault_2 : decode cX9_fault 2 = .ok (.putfield 44, 3) := by decide +kernel
theorem dX9_fault_5 : decode cX9_fault 5 = .ok (.aload_n 0, 1) := by decide +kernel
theorem dX9_fault_6 : decode cX9_fault 6 = .ok (.getfield 167, 3) := by decide +kernel
theorem dX9_fault_9 : decode cX9_fault 9 = .ok (.ireturn, 1) := by decide +kernel
theorem dX9_isThere_0 : decode cX9_isThere 0 = .ok (.aload_n 0, 1) := by decide +kernel
theorem dX9_isThere_1 : decode cX9_isThere 1 = .ok (.getfield 19, 3) := by decide +kernel
theorem dX9_isThere_4 : decode cX9_isThere 4 = .ok (.iconst 2, 1) := by decide +kernel
theorem dX9_isThere_5 : decode cX9_isThere 5 = .ok (.iaload, 1) := by decide +kernel
theorem dX9_isThere_6 : decode cX9_isThere 6 = .ok (.ifCond .le 7, 3) := by decide +kernel
theorem dX9_isThere_9 : decode cX9_isThere 9 = .ok (.iconst 1, 1) := by decide +kernel
theorem dX9_isThere_10 : decode cX9_isThere 10 = .ok (.goto 4, 3) := by decide +kernel
theorem dX9_isThere_13 : decode cX9_isThere 13 = .ok (.iconst 0, 1) := by decide +kernel
theorem dX9_isThere_14 : decode cX9_isThere 14 = .ok (.ireturn, 1) := by decide +kernel
theorem dX9_isPerson_0 : decode cX9_isPerson 0 = .ok (.iload_n 1, 1) := by decide +kernel
theorem dX9_isPerson_1 : decode cX9_isPerson 1 = .ok (.i2l, 1) := by decide +kernel
theorem dX9_isPerson_2 : decode cX9_isPerson 2 = .ok (.lconst 0, 1) := by decide +kernel
theorem dX9_isPerson_3 : decode cX9_isPerson 3 = .ok (.aload_n 0, 1) := by decide +kernel
theorem dX9_isPerson_4 : decode cX9_isPerson 4 = .ok (.getfield 19, 3) := by decide +kernel
theorem dX9_isPerson_7 : decode cX9_isPerson 7 = .ok (.iconst 2, 1) := by decide +kernel
theorem dX9_isPerson_8 : decode cX9_isPerson 8 = .ok (.iaload, 1) := by decide +kernel
theorem dX9_isPerson_9 : decode cX9_isPerson 9 = .ok (.iconst 1, 1) := by decide +kernel
theorem dX9_isPerson_10 : decode cX9_isPerson 10 = .ok (.isub, 1) := by decide +kernel
theorem dX9_isPerson_11 : decode cX9_isPerson 11 = .ok (.i2l, 1) := by decide +kernel
theorem dX9_isPerson_12 : decode cX9_isPerson 12 = .ok (.invokestatic 54, 3) := by decide +kernel
theorem dX9_isPerson_15 : decode cX9_isPerson 15 = .ok (.ireturn, 1) := by decide +kernel
theorem dX9_isThing_0 : decode cX9_isThing 0 = .ok (.iload_n 1, 1) := by decide +kernel
theorem dX9_isThing_1 : decode cX9_isThing 1 = .ok (.i2l, 1) := by decide +kernel
theorem dX9_isThing_2 : decode cX9_isThing 2 = .ok (.lconst 0, 1) := by decide +kernel
theorem dX9_isThing_3 : decode cX9_isThing 3 = .ok (.aload_n 0, 1) := by decide +kernel
theorem dX9_isThing_4 : decode cX9_isThing 4 = .ok (.getfield 19, 3) := by decide +kernel
theorem dX9_isThing_7 : decode cX9_isThing 7 = .ok (.iconst 3, 1) := by decide +kernel
theorem dX9_isThing_8 : decode cX9_isThing 8 = .ok (.iaload, 1) := by decide +kernel
theorem dX9_isThing_9 : decode cX9_isThing 9 = .ok (.iconst 1, 1) := by decide +kernel
theorem dX9_isThing_10 : decode cX9_isThing 10 = .ok (.isub, 1) := by decide +kernel
theorem dX9_isThing_11 : decode cX9_isThing 11 = .ok (.i2l, 1) := by decide +kernel
theorem dX9_isThing_12 : decode cX9_isThing 12 = .ok (.invokestatic 54, 3) := by decide +kernel
theorem dX9_isThing_15 : decode cX9_isThing 15 = .ok (.ireturn, 1) := by decide +kernel
theorem dX9_isSeed_0 : decode cX9_isSeed 0 = .ok (.iload_n 0, 1) := by decide +kernel
theorem dX9_isSeed_1 : decode cX9_isSeed 1 = .ok (.i2l, 1) := by decide +kernel
theorem dX9_isSeed_2 : decode cX9_isSeed 2 = .ok (.lconst 1, 1) := by decide +kernel
theorem dX9_isSeed_3 : decode cX9_isSeed 3 = .ok (.ldc2_w 174, 3) := by decide +kernel
theorem dX9_isSeed_6 : decode cX9_isSeed 6 = .ok (.invokestatic 54, 3) := by decide +kernel
theorem dX9_isSeed_9 : decode cX9_isSeed 9 = .ok (.ireturn, 1) := by decide +kernel
theorem dX9_of_0 : decode cX9_of 0 = .ok (.aload_n 0, 1) := by decide +kernel
theorem dX9_of_1 : decode cX9_of 1 = .ok (.getfield 19, 3) := by decide +kernel
theorem dX9_of_4 : decode cX9_of 4 = .ok (.bipush 12, 2) := by decide +kernel
theorem dX9_of_6 : decode cX9_of 6 = .ok (.bipush 6, 2) := by decide +kernel
theorem dX9_of_8 : decode cX9_of 8 = .ok (.iload_n 1, 1) := by decide +kernel
theorem dX9_of_9 : decode cX9_of 9 = .ok (.imul, 1) := by decide +kernel
theorem dX9_of_10 : decode cX9_of 10 = .ok (.iadd, 1) := by decide +kernel
theorem dX9_of_11 : decode cX9_of 11 = .ok (.iload_n 2, 1) := by decide +kernel
theorem dX9_of_12 : decode cX9_of 12 = .ok (.iadd, 1) := by decide +kernel
theorem dX9_of_13 : decode cX9_of 13 = .ok (.iaload, 1) := by decide +kernel
theorem dX9_of_14 : decode cX9_of 14 = .ok (.ireturn, 1) := by decide +kernel
theorem dX9_worthOf_0 : decode cX9_worthOf 0 = .ok (.aload_n 0, 1) := by decide +kernel
theorem dX9_worthOf_1 : decode cX9_worthOf 1 = .ok (.iload_n 1, 1) := by decide +kernel
theorem dX9_worthOf_2 : decode cX9_worthOf 2 = .ok (.iload_n 2, 1) := by decide +kernel
theorem dX9_worthOf_3 : decode cX9_worthOf 3 = .ok (.invokevirtual 176, 3) := by decide +kernel
theorem dX9_worthOf_6 : decode cX9_worthOf 6 = .ok (.bipush 30, 2) := by decide +kernel
theorem dX9_worthOf_8 : decode cX9_worthOf 8 = .ok (.isub, 1) := by decide +kernel
theorem dX9_worthOf_9 : decode cX9_worthOf 9 = .ok (.iconst 2, 1) := by decide +kernel
theorem dX9_worthOf_10 : decode cX9_worthOf 10 = .ok (.aload_n 0, 1) := by decide +kernel
theorem dX9_worthOf_11 : decode cX9_worthOf 11 = .ok (.iload_n 1, 1) := by decide +kernel
theorem dX9_worthOf_12 : decode cX9_worthOf 12 = .ok (.iconst 5, 1) := by decide +kernel
theorem dX9_worthOf_13 : decode cX9_worthOf 13 = .ok (.invokevirtual 176, 3) := by decide +kernel
theorem dX9_worthOf_16 : decode cX9_worthOf 16 = .ok (.imul, 1) := by decide +kernel
theorem dX9_worthOf_17 : decode cX9_worthOf 17 = .ok (.isub, 1) := by decide +kernel
theorem dX9_worthOf_18 : decode cX9_worthOf 18 = .ok (.ireturn, 1) := by decide +kernel
theorem dX9_ownOf_0 : decode cX9_ownOf 0 = .ok (.bipush 30, 2) := by decide +kernel
theorem dX9_ownOf_2 : decode cX9_ownOf 2 = .ok (.aload_n 0, 1) := by decide +kernel
theorem dX9_ownOf_3 : decode cX9_ownOf 3 = .ok (.iload_n 1, 1) := by decide +kernel
theorem dX9_ownOf_4 : decode cX9_ownOf 4 = .ok (.iload_n 2, 1) := by decide +kernel
theorem dX9_ownOf_5 : decode cX9_ownOf 5 = .ok (.invokevirtual 179, 3) := by decide +kernel
theorem dX9_ownOf_8 : decode cX9_ownOf 8 = .ok (.iadd, 1) := by decide +kernel
theorem dX9_ownOf_9 : decode cX9_ownOf 9 = .ok (.bipush 10, 2) := by decide +kernel
theorem dX9_ownOf_11 : decode cX9_ownOf 11 = .ok (.idiv, 1) := by decide +kernel
theorem dX9_ownOf_12 : decode cX9_ownOf 12 = .ok (.istore_n 3, 1) := by decide +kernel
theorem dX9_ownOf_13 : decode cX9_ownOf 13 = .ok (.iload_n 3, 1) := by decide +kernel
theorem dX9_ownOf_14 : decode cX9_ownOf 14 = .ok (.ifCond .ge 7, 3) := by decide +kernel
theorem dX9_ownOf_17 : decode cX9_ownOf 17 = .ok (.iconst 0, 1) := by decide +kernel
theorem dX9_ownOf_18 : decode cX9_ownOf 18 = .ok (.goto 13, 3) := by decide +kernel
theorem dX9_ownOf_21 : decode cX9_ownOf 21 = .ok (.iload_n 3, 1) := by decide +kernel
theorem dX9_ownOf_22 : decode cX9_ownOf 22 = .ok (.iconst 5, 1) := by decide +kernel
theorem dX9_ownOf_23 : decode cX9_ownOf 23 = .ok (.if_icmp .le 7, 3) := by decide +kernel
theorem dX9_ownOf_26 : decode cX9_ownOf 26 = .ok (.iconst 5, 1) := by decide +kernel
theorem dX9_ownOf_27 : decode cX9_ownOf 27 = .ok (.goto 4, 3) := by decide +kernel
theorem dX9_ownOf_30 : decode cX9_ownOf 30 = .ok (.iload_n 3, 1) := by decide +kernel
theorem dX9_ownOf_31 : decode cX9_ownOf 31 = .ok (.istore_n 3, 1) := by decide +kernel
theorem dX9_ownOf_32 : decode cX9_ownOf 32 = .ok (.aload_n 0, 1) := by decide +kernel
theorem dX9_ownOf_33 : decode cX9_ownOf 33 = .ok (.getfield 19, 3) := by decide +kernel
theorem dX9_ownOf_36 : decode cX9_ownOf 36 = .ok (.iconst 4, 1) := by decide +kernel
theorem dX9_ownOf_37 : decode cX9_ownOf 37 = .ok (.iload_n 2, 1) := by decide +kernel
theorem dX9_ownOf_38 : decode cX9_ownOf 38 = .ok (.iadd, 1) := by decide +kernel
theorem dX9_ownOf_39 : decode cX9_ownOf 39 = .ok (.iaload, 1) := by decide +kernel
theorem dX9_ownOf_40 : decode cX9_ownOf 40 = .ok (.tableswitch 61 2 5 #[32, 36, 48, 59], 32) := by decide +kernel
theorem dX9_ownOf_72 : decode cX9_ownOf 72 = .ok (.iconst 5, 1) := by decide +kernel
theorem dX9_ownOf_73 : decode cX9_ownOf 73 = .ok (.iload_n 3, 1) := by decide +kernel
theorem dX9_ownOf_74 : decode cX9_ownOf 74 = .ok (.isub, 1) := by decide +kernel
theorem dX9_ownOf_75 : decode cX9_ownOf 75 = .ok (.ireturn, 1) := by decide +kernel
theorem dX9_ownOf_76 : decode cX9_ownOf 76 = .ok (.iload_n 3, 1) := by decide +kernel
theorem dX9_ownOf_77 : decode cX9_ownOf 77 = .ok (.ifCond .ne 7, 3) := by decide +kernel
theorem dX9_ownOf_80 : decode cX9_ownOf 80 = .ok (.iconst 0, 1) := by decide +kernel
theorem dX9_ownOf_81 : decode cX9_ownOf 81 = .ok (.goto 6, 3) := by decide +kernel
theorem dX9_ownOf_84 : decode cX9_ownOf 84 = .ok (.iload_n 3, 1) := by decide +kernel
theorem dX9_ownOf_85 : decode cX9_ownOf 85 = .ok (.iconst 1, 1) := by decide +kernel
theorem dX9_ownOf_86 : decode cX9_ownOf 86 = .ok (.isub, 1) := by decide +kernel
theorem dX9_ownOf_87 : decode cX9_ownOf 87 = .ok (.ireturn, 1) := by decide +kernel
theorem dX9_ownOf_88 : decode cX9_ownOf 88 = .ok (.iload_n 3, 1) := by decide +kernel
theorem dX9_ownOf_89 : decode cX9_ownOf 89 = .ok (.iconst 3, 1) := by decide +kernel
theorem dX9_ownOf_90 : decode cX9_ownOf 90 = .ok (.if_icmp .ge 7, 3) := by decide +kernel
theorem dX9_ownOf_93 : decode cX9_ownOf 93 = .ok (.iconst 3, 1) := by decide +kernel
theorem dX9_ownOf_94 : decode cX9_ownOf 94 = .ok (.goto 4, 3) := by decide +kernel
theorem dX9_ownOf_97 : decode cX9_ownOf 97 = .ok (.iload_n 3, 1) := by decide +kernel
theorem dX9_ownOf_98 : decode cX9_ownOf 98 = .ok (.ireturn, 1) := by decide +kernel
theorem dX9_ownOf_99 : decode cX9_ownOf 99 = .ok (.iconst 0, 1) := by decide +kernel
theorem dX9_ownOf_100 : decode cX9_ownOf 100 = .ok (.ireturn, 1) := by decide +kernel
theorem dX9_ownOf_101 : decode cX9_ownOf 101 = .ok (.iload_n 3, 1) := by decide +kernel
theorem dX9_ownOf_102 : decode cX9_ownOf 102 = .ok (.ireturn, 1) := by decide +kernel
theorem dX9_layOwn_0 : decode cX9_layOwn 0 = .ok (.iconst 0, 1) := by decide +kernel
theorem dX9_layOwn_1 : decode cX9_layOwn 1 = .ok (.istore_n 2, 1) := by decide +kernel
theorem dX9_layOwn_2 : decode cX9_layOwn 2 = .ok (.iload_n 2, 1) := by decide +kernel
theorem dX9_layOwn_3 : decode cX9_layOwn 3 = .ok (.aload_n 0, 1) := by decide +kernel
theorem dX9_layOwn_4 : decode cX9_layOwn 4 = .ok (.getfield 19, 3) := by decide +kernel
theorem dX9_layOwn_7 : decode cX9_layOwn 7 = .ok (.iconst 2, 1) := by decide +kernel
theorem dX9_layOwn_8 : decode cX9_layOwn 8 = .ok (.iaload, 1) := by decide +kernel
theorem dX9_layOwn_9 : decode cX9_layOwn 9 = .ok (.if_icmp .ge 21, 3) := by decide +kernel
theorem dX9_layOwn_12 : decode cX9_layOwn 12 = .ok (.aload_n 0, 1) := by decide +kernel
theorem dX9_layOwn_13 : decode cX9_layOwn 13 = .ok (.getfield 31, 3) := by decide +kernel
theorem dX9_layOwn_16 : decode cX9_layOwn 16 = .ok (.iload_n 2, 1) := by decide +kernel
theorem dX9_layOwn_17 : decode cX9_layOwn 17 = .ok (.aload_n 0, 1) := by decide +kernel
theorem dX9_layOwn_18 : decode cX9_layOwn 18 = .ok (.iload_n 1, 1) := by decide +kernel
theorem dX9_layOwn_19 : decode cX9_layOwn 19 = .ok (.iload_n 2, 1) := by decide +kernel
theorem dX9_layOwn_20 : decode cX9_layOwn 20 = .ok (.invokevirtual 182, 3) := by decide +kernel
theorem dX9_layOwn_23 : decode cX9_layOwn 23 = .ok (.iastore, 1) := by decide +kernel
theorem dX9_layOwn_24 : decode cX9_layOwn 24 = .ok (.iinc 2 1, 3) := by decide +kernel
theorem dX9_layOwn_27 : decode cX9_layOwn 27 = .ok (.goto (-25), 3) := by decide +kernel
theorem dX9_layOwn_30 : decode cX9_layOwn 30 = .ok (.return_, 1) := by decide +kernel
theorem dX9_barred_0 : decode cX9_barred 0 = .ok (.aload_n 0, 1) := by decide +kernel
theorem dX9_barred_1 : decode cX9_barred 1 = .ok (.getfield 7, 3) := by decide +kernel
theorem dX9_barred_4 : decode cX9_barred 4 = .ok (.iload_n 1, 1) := by decide +kernel
theorem dX9_barred_5 : decode cX9_barred 5 = .ok (.iaload, 1) := by decide +kernel
theorem dX9_barred_6 : decode cX9_barred 6 = .ok (.ifCond .ge 9, 3) := by decide +kernel
theorem dX9_barred_9 : decode cX9_barred 9 = .ok (.aload_n 0, 1) := by decide +kernel
theorem dX9_barred_10 : decode cX9_barred 10 = .ok (.iconst 1, 1) := by decide +kernel
theorem dX9_barred_11 : decode cX9_barred 11 = .ok (.invokevirtual 65, 3) := by decide +kernel
theorem dX9_barred_14 : decode cX9_barred 14 = .ok (.ireturn, 1) := by decide +kernel
theorem dX9_barred_15 : decode cX9_barred 15 = .ok (.aload_n 0, 1) := by decide +kernel
theorem dX9_barred_16 : decode cX9_barred 16 = .ok (.getfield 19, 3) := by decide +kernel
theorem dX9_barred_19 : decode cX9_barred 19 = .ok (.iconst 2, 1) := by decide +kernel
theorem dX9_barred_20 : decode cX9_barred 20 = .ok (.iaload, 1) := by decide +kernel
theorem dX9_barred_21 : decode cX9_barred 21 = .ok (.aload_n 0, 1) := by decide +kernel
theorem dX9_barred_22 : decode cX9_barred 22 = .ok (.getfield 13, 3) := by decide +kernel
theorem dX9_barred_25 : decode cX9_barred 25 = .ok (.iload_n 1, 1) := by decide +kernel
theorem dX9_barred_26 : decode cX9_barred 26 = .ok (.iaload, 1) := by decide +kernel
theorem dX9_barred_27 : decode cX9_barred 27 = .ok (.if_icmp .le 9, 3) := by decide +kernel
theorem dX9_barred_30 : decode cX9_barred 30 = .ok (.aload_n 0, 1) := by decide +kernel
theorem dX9_barred_31 : decode cX9_barred 31 = .ok (.iconst 2, 1) := by decide +kernel
theorem dX9_barred_32 : decode cX9_barred 32 = .ok (.invokevirtual 65, 3) := by decide +kernel
theorem dX9_barred_35 : decode cX9_barred 35 = .ok (.ireturn, 1) := by decide +kernel
theorem dX9_barred_36 : decode cX9_barred 36 = .ok (.iconst 0, 1) := by decide +kernel
theorem dX9_barred_37 : decode cX9_barred 37 = .ok (.istore_n 2, 1) := by decide +kernel
theorem dX9_barred_38 : decode cX9_barred 38 = .ok (.iload_n 2, 1) := by decide +kernel
theorem dX9_barred_39 : decode cX9_barred 39 = .ok (.aload_n 0, 1) := by decide +kernel
theorem dX9_barred_40 : decode cX9_barred 40 = .ok (.getfield 19, 3) := by decide +kernel
theorem dX9_barred_43 : decode cX9_barred 43 = .ok (.iconst 2, 1) := by decide +kernel
theorem dX9_barred_44 : decode cX9_barred 44 = .ok (.iaload, 1) := by decide +kernel
theorem dX9_barred_45 : decode cX9_barred 45 = .ok (.if_icmp .ge 51, 3) := by decide +kernel
theorem dX9_barred_48 : decode cX9_barred 48 = .ok (.aload_n 0, 1) := by decide +kernel
theorem dX9_barred_49 : decode cX9_barred 49 = .ok (.getfield 16, 3) := by decide +kernel
theorem dX9_barred_52 : decode cX9_barred 52 = .ok (.bipush 40, 2) := by decide +kernel
theorem dX9_barred_54 : decode cX9_barred 54 = .ok (.iload_n 1, 1) := by decide +kernel
theorem dX9_barred_55 : decode cX9_barred 55 = .ok (.imul, 1) := by decide +kernel
theorem dX9_barred_56 : decode cX9_barred 56 = .ok (.iload_n 2, 1) := by decide +kernel
theorem dX9_barred_57 : decode cX9_barred 57 = .ok (.iadd, 1) := by decide +kernel
theorem dX9_barred_58 : decode cX9_barred 58 = .ok (.iaload, 1) := by decide +kernel
theorem dX9_barred_59 : decode cX9_barred 59 = .ok (.i2l, 1) := by decide +kernel
theorem dX9_barred_60 : decode cX9_barred 60 = .ok (.lconst 0, 1) := by decide +kernel
theorem dX9_barred_61 : decode cX9_barred 61 = .ok (.ldc2_w 185, 3) := by decide +kernel
theorem dX9_barred_64 : decode cX9_barred 64 = .ok (.invokestatic 54, 3) := by decide +kernel
theorem dX9_barred_67 : decode cX9_barred 67 = .ok (.ifCond .ne 6, 3) := by decide +kernel
theorem dX9_barred_70 : decode cX9_barred 70 = .ok (.ldc 64, 2) := by decide +kernel
theorem dX9_barred_72 : decode cX9_barred 72 = .ok (.ireturn, 1) := by decide +kernel
theorem dX9_barred_73 : decode cX9_barred 73 = .ok (.aload_n 0, 1) := by decide +kernel
theorem dX9_barred_74 : decode cX9_barred 74 = .ok (.getfield 31, 3) := by decide +kernel
theorem dX9_barred_77 : decode cX9_barred 77 = .ok (.iload_n 2, 1) := by decide +kernel
theorem dX9_barred_78 : decode cX9_barred 78 = .ok (.aload_n 0, 1) := by decide +kernel
theorem dX9_barred_79 : decode cX9_barred 79 = .ok (.getfield 16, 3) := by decide +kernel
theorem dX9_barred_82 : decode cX9_barred 82 = .ok (.bipush 40, 2) := by decide +kernel
theorem dX9_barred_84 : decode cX9_barred 84 = .ok (.iload_n 1, 1) := by decide +kernel
theorem dX9_barred_85 : decode cX9_barred 85 = .ok (.imul, 1) := by decide +kernel
theorem dX9_barred_86 : decode cX9_barred 86 = .ok (.iload_n 2, 1) := by decide +kernel
theorem dX9_barred_87 : decode cX9_barred 87 = .ok (.iadd, 1) := by decide +kernel
theorem dX9_barred_88 : decode cX9_barred 88 = .ok (.iaload, 1) := by decide +kernel
theorem dX9_barred_89 : decode cX9_barred 89 = .ok (.iastore, 1) := by decide +kernel
theorem dX9_barred_90 : decode cX9_barred 90 = .ok (.iinc 2 1, 3) := by decide +kernel
theorem dX9_barred_93 : decode cX9_barred 93 = .ok (.goto (-55), 3) := by decide +kernel
theorem dX9_barred_96 : decode cX9_barred 96 = .ok (.aload_n 0, 1) := by decide +kernel
theorem dX9_barred_97 : decode cX9_barred 97 = .ok (.iconst 0, 1) := by decide +kernel
theorem dX9_barred_98 : decode cX9_barred 98 = .ok (.putfield 48, 3) := by decide +kernel
theorem dX9_barred_101 : decode cX9_barred 101 = .ok (.iconst 0, 1) := by decide +kernel
theorem dX9_barred_102 : decode cX9_barred 102 = .ok (.ireturn, 1) := by decide +kernel
theorem dX9_leastBut_0 : decode cX9_leastBut 0 = .ok (.ldc 80, 2) := by decide +kernel
theorem dX9_leastBut_2 : decode cX9_leastBut 2 = .ok (.istore_n 2, 1) := by decide +kernel
theorem dX9_leastBut_3 : decode cX9_leastBut 3 = .ok (.iconst 0, 1) := by decide +kernel
theorem dX9_leastBut_4 : decode cX9_leastBut 4 = .ok (.istore_n 3, 1) := by decide +kernel
theorem dX9_leastBut_5 : decode cX9_leastBut 5 = .ok (.iload_n 3, 1) := by decide +kernel
theorem dX9_leastBut_6 : decode cX9_leastBut 6 = .ok (.aload_n 0, 1) := by decide +kernel
theorem dX9_leastBut_7 : decode cX9_leastBut 7 = .ok (.getfield 19, 3) := by decide +kernel
theorem dX9_leastBut_10 : decode cX9_leastBut 10 = .ok (.iconst 2, 1) := by decide +kernel
theorem dX9_leastBut_11 : decode cX9_leastBut 11 = .ok (.iaload, 1) := by decide +kernel
theorem dX9_leastBut_12 : decode cX9_leastBut 12 = .ok (.if_icmp .ge 41, 3) := by decide +kernel
theorem dX9_leastBut_15 : decode cX9_leastBut 15 = .ok (.iload_n 3, 1) := by decide +kernel
theorem dX9_leastBut_16 : decode cX9_leastBut 16 = .ok (.iload_n 1, 1) := by decide +kernel
theorem dX9_leastBut_17 : decode cX9_leastBut 17 = .ok (.if_icmp .eq 28, 3) := by decide +kernel
theorem dX9_leastBut_20 : decode cX9_leastBut 20 = .ok (.iload_n 2, 1) := by decide +kernel
theorem dX9_leastBut_21 : decode cX9_leastBut 21 = .ok (.ldc 80, 2) := by decide +kernel
theorem dX9_leastBut_23 : decode cX9_leastBut 23 = .ok (.if_icmp .eq 13, 3) := by decide +kernel
theorem dX9_leastBut_26 : decode cX9_leastBut 26 = .ok (.aload_n 0, 1) := by decide +kernel
theorem dX9_leastBut_27 : decode cX9_leastBut 27 = .ok (.getfield 31, 3) := by decide +kernel
theorem dX9_leastBut_30 : decode cX9_leastBut 30 = .ok (.iload_n 3, 1) := by decide +kernel
theorem dX9_leastBut_31 : decode cX9_leastBut 31 = .ok (.iaload, 1) := by decide +kernel
theorem dX9_leastBut_32 : decode cX9_leastBut 32 = .ok (.iload_n 2, 1) := by decide +kernel
theorem dX9_leastBut_33 : decode cX9_leastBut 33 = .ok (.if_icmp .ge 12, 3) := by decide +kernel
theorem dX9_leastBut_36 : decode cX9_leastBut 36 = .ok (.aload_n 0, 1) := by decide +kernel
theorem dX9_leastBut_37 : decode cX9_leastBut 37 = .ok (.getfield 31, 3) := by decide +kernel
theorem dX9_leastBut_40 : decode cX9_leastBut 40 = .ok (.iload_n 3, 1) := by decide +kernel
theorem dX9_leastBut_41 : decode cX9_leastBut 41 = .ok (.iaload, 1) := by decide +kernel
theorem dX9_leastBut_42 : decode cX9_leastBut 42 = .ok (.goto 4, 3) := by decide +kernel
theorem dX9_leastBut_45 : decode cX9_leastBut 45 = .ok (.iload_n 2, 1) := by decide +kernel
theorem dX9_leastBut_46 : decode cX9_leastBut 46 = .ok (.istore_n 2, 1) := by decide +kernel
theorem dX9_leastBut_47 : decode cX9_leastBut 47 = .ok (.iinc 3 1, 3) := by decide +kernel
theorem dX9_leastBut_50 : decode cX9_leastBut 50 = .ok (.goto (-45), 3) := by decide +kernel
theorem dX9_leastBut_53 : decode cX9_leastBut 53 = .ok (.iload_n 2, 1) := by decide +kernel
theorem dX9_leastBut_54 : decode cX9_leastBut 54 = .ok (.ldc 80, 2) := by decide +kernel
theorem dX9_leastBut_56 : decode cX9_leastBut 56 = .ok (.if_icmp .ne 7, 3) := by decide +kernel
theorem dX9_leastBut_59 : decode cX9_leastBut 59 = .ok (.iconst 0, 1) := by decide +kernel
theorem dX9_leastBut_60 : decode cX9_leastBut 60 = .ok (.goto 4, 3) := by decide +kernel
theorem dX9_leastBut_63 : decode cX9_leastBut 63 = .ok (.iload_n 2, 1) := by decide +kernel
theorem dX9_leastBut_64 : decode cX9_leastBut 64 = .ok (.ireturn, 1) := by decide +kernel
theorem dX9_likeOnes_0 : decode cX9_likeOnes 0 = .ok (.aload_n 0, 1) := by decide +kernel
theorem dX9_likeOnes_1 : decode cX9_likeOnes 1 = .ok (.ldc 80, 2) := by decide +kernel
theorem dX9_likeOnes_3 : decode cX9_likeOnes 3 = .ok (.invokevirtual 187, 3) := by decide +kernel
theorem dX9_likeOnes_6 : decode cX9_likeOnes 6 = .ok (.istore_n 1, 1) := by decide +kernel
theorem dX9_likeOnes_7 : decode cX9_likeOnes 7 = .ok (.iconst 0, 1) := by decide +kernel
theorem dX9_likeOnes_8 : decode cX9_likeOnes 8 = .ok (.istore_n 2, 1) := by decide +kernel
theorem dX9_likeOnes_9 : decode cX9_likeOnes 9 = .ok (.iconst 0, 1) := by decide +kernel
theorem dX9_likeOnes_10 : decode cX9_likeOnes 10 = .ok (.istore_n 3, 1) := by decide +kernel
theorem dX9_likeOnes_11 : decode cX9_likeOnes 11 = .ok (.iload_n 3, 1) := by decide +kernel
theorem dX9_likeOnes_12 : decode cX9_likeOnes 12 = .ok (.aload_n 0, 1) := by decide +kernel
theorem dX9_likeOnes_13 : decode cX9_likeOnes 13 = .ok (.getfield 19, 3) := by decide +kernel
theorem dX9_likeOnes_16 : decode cX9_likeOnes 16 = .ok (.iconst 2, 1) := by decide +kernel
theorem dX9_likeOnes_17 : decode cX9_likeOnes 17 = .ok (.iaload, 1) := by decide +kernel
theorem dX9_likeOnes_18 : decode cX9_likeOnes 18 = .ok (.if_icmp .ge 27, 3) := by decide +kernel
theorem dX9_likeOnes_21 : decode cX9_likeOnes 21 = .ok (.iload_n 2, 1) := by decide +kernel
theorem dX9_likeOnes_22 : decode cX9_likeOnes 22 = .ok (.aload_n 0, 1) := by decide +kernel
theorem dX9_likeOnes_23 : decode cX9_likeOnes 23 = .ok (.getfield 31, 3) := by decide +kernel
theorem dX9_likeOnes_26 : decode cX9_likeOnes 26 = .ok (.iload_n 3, 1) := by decide +kernel
theorem dX9_likeOnes_27 : decode cX9_likeOnes 27 = .ok (.iaload, 1) := by decide +kernel
theorem dX9_likeOnes_28 : decode cX9_likeOnes 28 = .ok (.iload_n 1, 1) := by decide +kernel
theorem dX9_likeOnes_29 : decode cX9_likeOnes 29 = .ok (.if_icmp .ne 7, 3) := by decide +kernel
theorem dX9_likeOnes_32 : decode cX9_likeOnes 32 = .ok (.iconst 1, 1) := by decide +kernel
theorem dX9_likeOnes_33 : decode cX9_likeOnes 33 = .ok (.goto 4, 3) := by decide +kernel
theorem dX9_likeOnes_36 : decode cX9_likeOnes 36 = .ok (.iconst 0, 1) := by decide +kernel
theorem dX9_likeOnes_37 : decode cX9_likeOnes 37 = .ok (.iadd, 1) := by decide +kernel
theorem dX9_likeOnes_38 : decode cX9_likeOnes 38 = .ok (.istore_n 2, 1) := by decide +kernel
theorem dX9_likeOnes_39 : decode cX9_likeOnes 39 = .ok (.iinc 3 1, 3) := by decide +kernel
theorem dX9_likeOnes_42 : decode cX9_likeOnes 42 = .ok (.goto (-31), 3) := by decide +kernel
theorem dX9_likeOnes_45 : decode cX9_likeOnes 45 = .ok (.iload_n 2, 1) := by decide +kernel
theorem dX9_likeOnes_46 : decode cX9_likeOnes 46 = .ok (.ireturn, 1) := by decide +kernel
theorem dX9_coinBy_0 : decode cX9_coinBy 0 = .ok (.iload_n 1, 1) := by decide +kernel
theorem dX9_coinBy_1 : decode cX9_coinBy 1 = .ok (.iconst 3, 1) := by decide +kernel
theorem dX9_coinBy_2 : decode cX9_coinBy 2 = .ok (.if_icmp .ne 34, 3) := by decide +kernel
theorem dX9_coinBy_5 : decode cX9_coinBy 5 = .ok (.iload_n 2, 1) := by decide +kernel
theorem dX9_coinBy_6 : decode cX9_coinBy 6 = .ok (.iload_n 3, 1) := by decide +kernel
theorem dX9_coinBy_7 : decode cX9_coinBy 7 = .ok (.if_icmp .ne 21, 3) := by decide +kernel
theorem dX9_coinBy_10 : decode cX9_coinBy 10 = .ok (.aload_n 0, 1) := by decide +kernel
theorem dX9_coinBy_11 : decode cX9_coinBy 11 = .ok (.getfield 19, 3) := by decide +kernel
theorem dX9_coinBy_14 : decode cX9_coinBy 14 = .ok (.iconst 1, 1) := by decide +kernel
theorem dX9_coinBy_15 : decode cX9_coinBy 15 = .ok (.iaload, 1) := by decide +kernel
theorem dX9_coinBy_16 : decode cX9_coinBy 16 = .ok (.aload_n 0, 1) := by decide +kernel
theorem dX9_coinBy_17 : decode cX9_coinBy 17 = .ok (.getfield 19, 3) := by decide +kernel
theorem dX9_coinBy_20 : decode cX9_coinBy 20 = .ok (.iconst 2, 1) := by decide +kernel
theorem dX9_coinBy_21 : decode cX9_coinBy 21 = .ok (.iaload, 1) := by decide +kernel
theorem dX9_coinBy_22 : decode cX9_coinBy 22 = .ok (.iconst 1, 1) := by decide +kernel
theorem dX9_coinBy_23 : decode cX9_coinBy 23 = .ok (.isub, 1) := by decide +kernel
theorem dX9_coinBy_24 : decode cX9_coinBy 24 = .ok (.imul, 1) := by decide +kernel
theorem dX9_coinBy_25 : decode cX9_coinBy 25 = .ok (.goto 10, 3) := by decide +kernel
theorem dX9_coinBy_28 : decode cX9_coinBy 28 = .ok (.aload_n 0, 1) := by decide +kernel
theorem dX9_coinBy_29 : decode cX9_coinBy 29 = .ok (.getfield 19, 3) := by decide +kernel
theorem dX9_coinBy_32 : decode cX9_coinBy 32 = .ok (.iconst 1, 1) := by decide +kernel
theorem dX9_coinBy_33 : decode cX9_coinBy 33 = .ok (.iaload, 1) := by decide +kernel
theorem dX9_coinBy_34 : decode cX9_coinBy 34 = .ok (.ineg, 1) := by decide +kernel
theorem dX9_coinBy_35 : decode cX9_coinBy 35 = .ok (.ireturn, 1) := by decide +kernel
theorem dX9_coinBy_36 : decode cX9_coinBy 36 = .ok (.aload_n 0, 1) := by decide +kernel
theorem dX9_coinBy_37 : decode cX9_coinBy 37 = .ok (.getfield 19, 3) := by decide +kernel
theorem dX9_coinBy_40 : decode cX9_coinBy 40 = .ok (.iconst 1, 1) := by decide +kernel
theorem dX9_coinBy_41 : decode cX9_coinBy 41 = .ok (.iaload, 1) := by decide +kernel
theorem dX9_coinBy_42 : decode cX9_coinBy 42 = .ok (.aload_n 0, 1) := by decide +kernel
theorem dX9_coinBy_43 : decode cX9_coinBy 43 = .ok (.iload_n 3, 1) := by decide +kernel
theorem dX9_coinBy_44 : decode cX9_coinBy 44 = .ok (.invokevirtual 187, 3) := by decide +kernel
theorem dX9_coinBy_47 : decode cX9_coinBy 47 = .ok (.imul, 1) := by decide +kernel
theorem dX9_coinBy_48 : decode cX9_coinBy 48 = .ok (.istore 4, 2) := by decide +kernel
theorem dX9_coinBy_50 : decode cX9_coinBy 50 = .ok (.iload_n 2, 1) := by decide +kernel
theorem dX9_coinBy_51 : decode cX9_coinBy 51 = .ok (.iload_n 3, 1) := by decide +kernel
theorem dX9_coinBy_52 : decode cX9_coinBy 52 = .ok (.if_icmp .ne 7, 3) := by decide +kernel
theorem dX9_coinBy_55 : decode cX9_coinBy 55 = .ok (.iload_n 1, 1) := by decide +kernel
theorem dX9_coinBy_56 : decode cX9_coinBy 56 = .ok (.ifCond .ne 7, 3) := by decide +kernel
theorem dX9_coinBy_59 : decode cX9_coinBy 59 = .ok (.iconst 0, 1) := by decide +kernel
theorem dX9_coinBy_60 : decode cX9_coinBy 60 = .ok (.goto 16, 3) := by decide +kernel
theorem dX9_coinBy_63 : decode cX9_coinBy 63 = .ok (.iload_n 1, 1) := by decide +kernel
theorem dX9_coinBy_64 : decode cX9_coinBy 64 = .ok (.iconst 1, 1) := by decide +kernel
theorem dX9_coinBy_65 : decode cX9_coinBy 65 = .ok (.if_icmp .ne 9, 3) := by decide +kernel
theorem dX9_coinBy_68 : decode cX9_coinBy 68 = .ok (.iload 4, 2) := by decide +kernel
theorem dX9_coinBy_70 : decode cX9_coinBy 70 = .ok (.ineg, 1) := by decide +kernel
theorem dX9_coinBy_71 : decode cX9_coinBy 71 = .ok (.goto 5, 3) := by decide +kernel
theorem dX9_coinBy_74 : decode cX9_coinBy 74 = .ok (.iload 4, 2) := by decide +kernel
theorem dX9_coinBy_76 : decode cX9_coinBy 76 = .ok (.ireturn, 1) := by decide +kernel
theorem dX9_gainBy_0 : decode cX9_gainBy 0 = .ok (.aload_n 0, 1) := by decide +kernel
theorem dX9_gainBy_1 : decode cX9_gainBy 1 = .ok (.ldc 80, 2) := by decide +kernel
theorem dX9_gainBy_3 : decode cX9_gainBy 3 = .ok (.invokevirtual 187, 3) := by decide +kernel
theorem dX9_gainBy_6 : decode cX9_gainBy 6 = .ok (.istore 4, 2) := by decide +kernel
theorem dX9_gainBy_8 : decode cX9_gainBy 8 = .ok (.iconst 0, 1) := by decide +kernel
theorem dX9_gainBy_9 : decode cX9_gainBy 9 = .ok (.istore 5, 2) := by decide +kernel
theorem dX9_gainBy_11 : decode cX9_gainBy 11 = .ok (.iconst 0, 1) := by decide +kernel
theorem dX9_gainBy_12 : decode cX9_gainBy 12 = .ok (.istore 6, 2) := by decide +kernel
theorem dX9_gainBy_14 : decode cX9_gainBy 14 = .ok (.iload 6, 2) := by decide +kernel
theorem dX9_gainBy_16 : decode cX9_gainBy 16 = .ok (.aload_n 0, 1) := by decide +kernel
theorem dX9_gainBy_17 : decode cX9_gainBy 17 = .ok (.getfield 19, 3) := by decide +kernel
theorem dX9_gainBy_20 : decode cX9_gainBy 20 = .ok (.iconst 2, 1) := by decide +kernel
theorem dX9_gainBy_21 : decode cX9_gainBy 21 = .ok (.iaload, 1) := by decide +kernel
theorem dX9_gainBy_22 : decode cX9_gainBy 22 = .ok (.if_icmp .ge 51, 3) := by decide +kernel
theorem dX9_gainBy_25 : decode cX9_gainBy 25 = .ok (.aload_n 0, 1) := by decide +kernel
theorem dX9_gainBy_26 : decode cX9_gainBy 26 = .ok (.getfield 31, 3) := by decide +kernel
theorem dX9_gainBy_29 : decode cX9_gainBy 29 = .ok (.iload 6, 2) := by decide +kernel
theorem dX9_gainBy_31 : decode cX9_gainBy 31 = .ok (.iaload, 1) := by decide +kernel
theorem dX9_gainBy_32 : decode cX9_gainBy 32 = .ok (.iload 4, 2) := by decide +kernel
theorem dX9_gainBy_34 : decode cX9_gainBy 34 = .ok (.if_icmp .ne 33, 3) := by decide +kernel
theorem dX9_gainBy_37 : decode cX9_gainBy 37 = .ok (.iload 5, 2) := by decide +kernel
theorem dX9_gainBy_39 : decode cX9_gainBy 39 = .ok (.aload_n 0, 1) := by decide +kernel
theorem dX9_gainBy_40 : decode cX9_gainBy 40 = .ok (.iload_n 1, 1) := by decide +kernel
theorem dX9_gainBy_41 : decode cX9_gainBy 41 = .ok (.iload_n 3, 1) := by decide +kernel
theorem dX9_gainBy_42 : decode cX9_gainBy 42 = .ok (.iload 6, 2) := by decide +kernel
theorem dX9_gainBy_44 : decode cX9_gainBy 44 = .ok (.invokevirtual 190, 3) := by decide +kernel
theorem dX9_gainBy_47 : decode cX9_gainBy 47 = .ok (.iload_n 3, 1) := by decide +kernel
theorem dX9_gainBy_48 : decode cX9_gainBy 48 = .ok (.iload 6, 2) := by decide +kernel
theorem dX9_gainBy_50 : decode cX9_gainBy 50 = .ok (.if_icmp .ne 12, 3) := by decide +kernel
theorem dX9_gainBy_53 : decode cX9_gainBy 53 = .ok (.aload_n 0, 1) := by decide +kernel
theorem dX9_gainBy_54 : decode cX9_gainBy 54 = .ok (.iload_n 2, 1) := by decide +kernel
theorem dX9_gainBy_55 : decode cX9_gainBy 55 = .ok (.iload_n 3, 1) := by decide +kernel
theorem dX9_gainBy_56 : decode cX9_gainBy 56 = .ok (.invokevirtual 179, 3) := by decide +kernel
theorem dX9_gainBy_59 : decode cX9_gainBy 59 = .ok (.goto 4, 3) := by decide +kernel
theorem dX9_gainBy_62 : decode cX9_gainBy 62 = .ok (.iconst 0, 1) := by decide +kernel
theorem dX9_gainBy_63 : decode cX9_gainBy 63 = .ok (.iadd, 1) := by decide +kernel
theorem dX9_gainBy_64 : decode cX9_gainBy 64 = .ok (.iadd, 1) := by decide +kernel
theorem dX9_gainBy_65 : decode cX9_gainBy 65 = .ok (.istore 5, 2) := by decide +kernel
theorem dX9_gainBy_67 : decode cX9_gainBy 67 = .ok (.iinc 6 1, 3) := by decide +kernel
theorem dX9_gainBy_70 : decode cX9_gainBy 70 = .ok (.goto (-56), 3) := by decide +kernel
theorem dX9_gainBy_73 : decode cX9_gainBy 73 = .ok (.iload 5, 2) := by decide +kernel
theorem dX9_gainBy_75 : decode cX9_gainBy 75 = .ok (.bipush 12, 2) := by decide +kernel
theorem dX9_gainBy_77 : decode cX9_gainBy 77 = .ok (.aload_n 0, 1) := by decide +kernel
theorem dX9_gainBy_78 : decode cX9_gainBy 78 = .ok (.invokevirtual 194, 3) := by decide +kernel
theorem dX9_gainBy_81 : decode cX9_gainBy 81 = .ok (.idiv, 1) := by decide +kernel
theorem dX9_gainBy_82 : decode cX9_gainBy 82 = .ok (.imul, 1) := by decide +kernel
theorem dX9_gainBy_83 : decode cX9_gainBy 83 = .ok (.ireturn, 1) := by decide +kernel
theorem dX9_bestBy_0 : decode cX9_bestBy 0 = .ok (.aload_n 0, 1) := by decide +kernel
theorem dX9_bestBy_1 : decode cX9_bestBy 1 = .ok (.getfield 31, 3) := by decide +kernel
theorem dX9_bestBy_4 : decode cX9_bestBy 4 = .ok (.iload_n 3, 1) := by decide +kernel
theorem dX9_bestBy_5 : decode cX9_bestBy 5 = .ok (.iaload, 1) := by decide +kernel
theorem dX9_bestBy_6 : decode cX9_bestBy 6 = .ok (.istore 4, 2) := by decide +kernel
theorem dX9_bestBy_8 : decode cX9_bestBy 8 = .ok (.iconst 0, 1) := by decide +kernel
theorem dX9_bestBy_9 : decode cX9_bestBy 9 = .ok (.istore 5, 2) := by decide +kernel
theorem dX9_bestBy_11 : decode cX9_bestBy 11 = .ok (.ldc 80, 2) := by decide +kernel
theorem dX9_bestBy_13 : decode cX9_bestBy 13 = .ok (.istore 6, 2) := by decide +kernel
theorem dX9_bestBy_15 : decode cX9_bestBy 15 = .ok (.iconst 0, 1) := by decide +kernel
theorem dX9_bestBy_16 : decode cX9_bestBy 16 = .ok (.istore 7, 2) := by decide +kernel
theorem dX9_bestBy_18 : decode cX9_bestBy 18 = .ok (.iload 7, 2) := by decide +kernel
theorem dX9_bestBy_20 : decode cX9_bestBy 20 = .ok (.iconst 5, 1) := by decide +kernel
theorem dX9_bestBy_21 : decode cX9_bestBy 21 = .ok (.if_icmp .gt 58, 3) := by decide +kernel
theorem dX9_bestBy_24 : decode cX9_bestBy 24 = .ok (.aload_n 0, 1) := by decide +kernel
theorem dX9_bestBy_25 : decode cX9_bestBy 25 = .ok (.getfield 31, 3) := by decide +kernel
theorem dX9_bestBy_28 : decode cX9_bestBy 28 = .ok (.iload_n 3, 1) := by decide +kernel
theorem dX9_bestBy_29 : decode cX9_bestBy 29 = .ok (.iload 7, 2) := by decide +kernel
theorem dX9_bestBy_31 : decode cX9_bestBy 31 = .ok (.iastore, 1) := by decide +kernel
theorem dX9_bestBy_32 : decode cX9_bestBy 32 = .ok (.aload_n 0, 1) := by decide +kernel
theorem dX9_bestBy_33 : decode cX9_bestBy 33 = .ok (.iload_n 1, 1) := by decide +kernel
theorem dX9_bestBy_34 : decode cX9_bestBy 34 = .ok (.iload_n 2, 1) := by decide +kernel
theorem dX9_bestBy_35 : decode cX9_bestBy 35 = .ok (.iload_n 3, 1) := by decide +kernel
theorem dX9_bestBy_36 : decode cX9_bestBy 36 = .ok (.invokevirtual 197, 3) := by decide +kernel
theorem dX9_bestBy_39 : decode cX9_bestBy 39 = .ok (.istore 8, 2) := by decide +kernel
theorem dX9_bestBy_41 : decode cX9_bestBy 41 = .ok (.iload 8, 2) := by decide +kernel
theorem dX9_bestBy_43 : decode cX9_bestBy 43 = .ok (.iload 6, 2) := by decide +kernel
theorem dX9_bestBy_45 : decode cX9_bestBy 45 = .ok (.if_icmp .le 8, 3) := by decide +kernel
theorem dX9_bestBy_48 : decode cX9_bestBy 48 = .ok (.iload 7, 2) := by decide +kernel
theorem dX9_bestBy_50 : decode cX9_bestBy 50 = .ok (.goto 5, 3) := by decide +kernel
theorem dX9_bestBy_53 : decode cX9_bestBy 53 = .ok (.iload 5, 2) := by decide +kernel
theorem dX9_bestBy_55 : decode cX9_bestBy 55 = .ok (.istore 5, 2) := by decide +kernel
theorem dX9_bestBy_57 : decode cX9_bestBy 57 = .ok (.iload 8, 2) := by decide +kernel
theorem dX9_bestBy_59 : decode cX9_bestBy 59 = .ok (.iload 6, 2) := by decide +kernel
theorem dX9_bestBy_61 : decode cX9_bestBy 61 = .ok (.if_icmp .le 8, 3) := by decide +kernel
theorem dX9_bestBy_64 : decode cX9_bestBy 64 = .ok (.iload 8, 2) := by decide +kernel
theorem dX9_bestBy_66 : decode cX9_bestBy 66 = .ok (.goto 5, 3) := by decide +kernel
theorem dX9_bestBy_69 : decode cX9_bestBy 69 = .ok (.iload 6, 2) := by decide +kernel
theorem dX9_bestBy_71 : decode cX9_bestBy 71 = .ok (.istore 6, 2) := by decide +kernel
theorem dX9_bestBy_73 : decode cX9_bestBy 73 = .ok (.iinc 7 1, 3) := by decide +kernel
theorem dX9_bestBy_76 : decode cX9_bestBy 76 = .ok (.goto (-58), 3) := by decide +kernel
theorem dX9_bestBy_79 : decode cX9_bestBy 79 = .ok (.aload_n 0, 1) := by decide +kernel
theorem dX9_bestBy_80 : decode cX9_bestBy 80 = .ok (.getfield 31, 3) := by decide +kernel
theorem dX9_bestBy_83 : decode cX9_bestBy 83 = .ok (.iload_n 3, 1) := by decide +kernel
theorem dX9_bestBy_84 : decode cX9_bestBy 84 = .ok (.iload 4, 2) := by decide +kernel
theorem dX9_bestBy_86 : decode cX9_bestBy 86 = .ok (.iastore, 1) := by decide +kernel
theorem dX9_bestBy_87 : decode cX9_bestBy 87 = .ok (.iload 5, 2) := by decide +kernel
theorem dX9_bestBy_89 : decode cX9_bestBy 89 = .ok (.ireturn, 1) := by decide +kernel
theorem dX9_isRest_0 : decode cX9_isRest 0 = .ok (.iconst 1, 1) := by decide +kernel
theorem dX9_isRest_1 : decode cX9_isRest 1 = .ok (.istore_n 3, 1) := by decide +kernel
theorem dX9_isRest_2 : decode cX9_isRest 2 = .ok (.iconst 0, 1) := by decide +kernel
theorem dX9_isRest_3 : decode cX9_isRest 3 = .ok (.istore 4, 2) := by decide +kernel
theorem dX9_isRest_5 : decode cX9_isRest 5 = .ok (.iload 4, 2) := by decide +kernel
theorem dX9_isRest_7 : decode cX9_isRest 7 = .ok (.aload_n 0, 1) := by decide +kernel
theorem dX9_isRest_8 : decode cX9_isRest 8 = .ok (.getfield 19, 3) := by decide +kernel
theorem dX9_isRest_11 : decode cX9_isRest 11 = .ok (.iconst 2, 1) := by decide +kernel
theorem dX9_isRest_12 : decode cX9_isRest 12 = .ok (.iaload, 1) := by decide +kernel
theorem dX9_isRest_13 : decode cX9_isRest 13 = .ok (.if_icmp .ge 75, 3) := by decide +kernel
theorem dX9_isRest_16 : decode cX9_isRest 16 = .ok (.iload_n 3, 1) := by decide +kernel
theorem dX9_isRest_17 : decode cX9_isRest 17 = .ok (.ifCond .eq 71, 3) := by decide +kernel
theorem dX9_isRest_20 : decode cX9_isRest 20 = .ok (.aload_n 0, 1) := by decide +kernel
theorem dX9_isRest_21 : decode cX9_isRest 21 = .ok (.getfield 31, 3) := by decide +kernel
theorem dX9_isRest_24 : decode cX9_isRest 24 = .ok (.iload 4, 2) := by decide +kernel
theorem dX9_isRest_26 : decode cX9_isRest 26 = .ok (.iaload, 1) := by decide +kernel
theorem dX9_isRest_27 : decode cX9_isRest 27 = .ok (.istore 5, 2) := by decide +kernel
theorem dX9_isRest_29 : decode cX9_isRest 29 = .ok (.aload_n 0, 1) := by decide +kernel
theorem dX9_isRest_30 : decode cX9_isRest 30 = .ok (.iload_n 1, 1) := by decide +kernel
theorem dX9_isRest_31 : decode cX9_isRest 31 = .ok (.iload_n 2, 1) := by decide +kernel
theorem dX9_isRest_32 : decode cX9_isRest 32 = .ok (.iload 4, 2) := by decide +kernel
theorem dX9_isRest_34 : decode cX9_isRest 34 = .ok (.invokevirtual 197, 3) := by decide +kernel
theorem dX9_isRest_37 : decode cX9_isRest 37 = .ok (.istore 6, 2) := by decide +kernel
theorem dX9_isRest_39 : decode cX9_isRest 39 = .ok (.aload_n 0, 1) := by decide +kernel
theorem dX9_isRest_40 : decode cX9_isRest 40 = .ok (.getfield 31, 3) := by decide +kernel
theorem dX9_isRest_43 : decode cX9_isRest 43 = .ok (.iload 4, 2) := by decide +kernel
theorem dX9_isRest_45 : decode cX9_isRest 45 = .ok (.aload_n 0, 1) := by decide +kernel
theorem dX9_isRest_46 : decode cX9_isRest 46 = .ok (.iload_n 1, 1) := by decide +kernel
theorem dX9_isRest_47 : decode cX9_isRest 47 = .ok (.iload_n 2, 1) := by decide +kernel
theorem dX9_isRest_48 : decode cX9_isRest 48 = .ok (.iload 4, 2) := by decide +kernel
theorem dX9_isRest_50 : decode cX9_isRest 50 = .ok (.invokevirtual 200, 3) := by decide +kernel
theorem dX9_isRest_53 : decode cX9_isRest 53 = .ok (.iastore, 1) := by decide +kernel
theorem dX9_isRest_54 : decode cX9_isRest 54 = .ok (.aload_n 0, 1) := by decide +kernel
theorem dX9_isRest_55 : decode cX9_isRest 55 = .ok (.iload_n 1, 1) := by decide +kernel
theorem dX9_isRest_56 : decode cX9_isRest 56 = .ok (.iload_n 2, 1) := by decide +kernel
theorem dX9_isRest_57 : decode cX9_isRest 57 = .ok (.iload 4, 2) := by decide +kernel
theorem dX9_isRest_59 : decode cX9_isRest 59 = .ok (.invokevirtual 197, 3) := by decide +kernel
theorem dX9_isRest_62 : decode cX9_isRest 62 = .ok (.iload 6, 2) := by decide +kernel
theorem dX9_isRest_64 : decode cX9_isRest 64 = .ok (.if_icmp .gt 7, 3) := by decide +kernel
theorem dX9_isRest_67 : decode cX9_isRest 67 = .ok (.iconst 1, 1) := by decide +kernel
theorem dX9_isRest_68 : decode cX9_isRest 68 = .ok (.goto 4, 3) := by decide +kernel
theorem dX9_isRest_71 : decode cX9_isRest 71 = .ok (.iconst 0, 1) := by decide +kernel
theorem dX9_isRest_72 : decode cX9_isRest 72 = .ok (.istore_n 3, 1) := by decide +kernel
theorem dX9_isRest_73 : decode cX9_isRest 73 = .ok (.aload_n 0, 1) := by decide +kernel
theorem dX9_isRest_74 : decode cX9_isRest 74 = .ok (.getfield 31, 3) := by decide +kernel
theorem dX9_isRest_77 : decode cX9_isRest 77 = .ok (.iload 4, 2) := by decide +kernel
theorem dX9_isRest_79 : decode cX9_isRest 79 = .ok (.iload 5, 2) := by decide +kernel
theorem dX9_isRest_81 : decode cX9_isRest 81 = .ok (.iastore, 1) := by decide +kernel
theorem dX9_isRest_82 : decode cX9_isRest 82 = .ok (.iinc 4 1, 3) := by decide +kernel
theorem dX9_isRest_85 : decode cX9_isRest 85 = .ok (.goto (-80), 3) := by decide +kernel
theorem dX9_isRest_88 : decode cX9_isRest 88 = .ok (.iload_n 3, 1) := by decide +kernel
theorem dX9_isRest_89 : decode cX9_isRest 89 = .ok (.ireturn, 1) := by decide +kernel
theorem dX9_keep_0 : decode cX9_keep 0 = .ok (.aload_n 0, 1) := by decide +kernel
theorem dX9_keep_1 : decode cX9_keep 1 = .ok (.getfield 171, 3) := by decide +kernel
theorem dX9_keep_4 : decode cX9_keep 4 = .ok (.bipush 24, 2) := by decide +kernel
theorem dX9_keep_6 : decode cX9_keep 6 = .ok (.if_icmp .ne 43, 3) := by decide +kernel
theorem dX9_keep_9 : decode cX9_keep 9 = .ok (.iconst 0, 1) := by decide +kernel
theorem dX9_keep_10 : decode cX9_keep 10 = .ok (.istore_n 1, 1) := by decide +kernel
theorem dX9_keep_11 : decode cX9_keep 11 = .ok (.iload_n 1, 1) := by decide +kernel
theorem dX9_keep_12 : decode cX9_keep 12 = .ok (.sipush 966, 3) := by decide +kernel
theorem dX9_keep_15 : decode cX9_keep 15 = .ok (.if_icmp .ge 24, 3) := by decide +kernel
theorem dX9_keep_18 : decode cX9_keep 18 = .ok (.aload_n 0, 1) := by decide +kernel
theorem dX9_keep_19 : decode cX9_keep 19 = .ok (.getfield 25, 3) := by decide +kernel
theorem dX9_keep_22 : decode cX9_keep 22 = .ok (.iload_n 1, 1) := by decide +kernel
theorem dX9_keep_23 : decode cX9_keep 23 = .ok (.aload_n 0, 1) := by decide +kernel
theorem dX9_keep_24 : decode cX9_keep 24 = .ok (.getfield 25, 3) := by decide +kernel
theorem dX9_keep_27 : decode cX9_keep 27 = .ok (.iload_n 1, 1) := by decide +kernel
theorem dX9_keep_28 : decode cX9_keep 28 = .ok (.bipush 42, 2) := by decide +kernel
theorem dX9_keep_30 : decode cX9_keep 30 = .ok (.iadd, 1) := by decide +kernel
theorem dX9_keep_31 : decode cX9_keep 31 = .ok (.iaload, 1) := by decide +kernel
theorem dX9_keep_32 : decode cX9_keep 32 = .ok (.iastore, 1) := by decide +kernel
theorem dX9_keep_33 : decode cX9_keep 33 = .ok (.iinc 1 1, 3) := by decide +kernel
theorem dX9_keep_36 : decode cX9_keep 36 = .ok (.goto (-25), 3) := by decide +kernel
theorem dX9_keep_39 : decode cX9_keep 39 = .ok (.aload_n 0, 1) := by decide +kernel
theorem dX9_keep_40 : decode cX9_keep 40 = .ok (.dup, 1) := by decide +kernel
theorem dX9_keep_41 : decode cX9_keep 41 = .ok (.getfield 171, 3) := by decide +kernel
theorem dX9_keep_44 : decode cX9_keep 44 = .ok (.iconst 1, 1) := by decide +kernel
theorem dX9_keep_45 : decode cX9_keep 45 = .ok (.isub, 1) := by decide +kernel
theorem dX9_keep_46 : decode cX9_keep 46 = .ok (.putfield 171, 3) := by decide +kernel
theorem dX9_keep_49 : decode cX9_keep 49 = .ok (.iconst 0, 1) := by decide +kernel
theorem dX9_keep_50 : decode cX9_keep 50 = .ok (.istore_n 1, 1) := by decide +kernel
theorem dX9_keep_51 : decode cX9_keep 51 = .ok (.iload_n 1, 1) := by decide +kernel
theorem dX9_keep_52 : decode cX9_keep 52 = .ok (.bipush 42, 2) := by decide +kernel
theorem dX9_keep_54 : decode cX9_keep 54 = .ok (.if_icmp .ge 29, 3) := by decide +kernel
theorem dX9_keep_57 : decode cX9_keep 57 = .ok (.aload_n 0, 1) := by decide +kernel
theorem dX9_keep_58 : decode cX9_keep 58 = .ok (.getfield 25, 3) := by decide +kernel
theorem dX9_keep_61 : decode cX9_keep 61 = .ok (.bipush 42, 2) := by decide +kernel
theorem dX9_keep_63 : decode cX9_keep 63 = .ok (.aload_n 0, 1) := by decide +kernel
theorem dX9_keep_64 : decode cX9_keep 64 = .ok (.getfield 171, 3) := by decide +kernel
theorem dX9_keep_67 : decode cX9_keep 67 = .ok (.imul, 1) := by decide +kernel
theorem dX9_keep_68 : decode cX9_keep 68 = .ok (.iload_n 1, 1) := by decide +kernel
theorem dX9_keep_69 : decode cX9_keep 69 = .ok (.iadd, 1) := by decide +kernel
theorem dX9_keep_70 : decode cX9_keep 70 = .ok (.aload_n 0, 1) := by decide +kernel
theorem dX9_keep_71 : decode cX9_keep 71 = .ok (.getfield 19, 3) := by decide +kernel
theorem dX9_keep_74 : decode cX9_keep 74 = .ok (.iload_n 1, 1) := by decide +kernel
theorem dX9_keep_75 : decode cX9_keep 75 = .ok (.iaload, 1) := by decide +kernel
theorem dX9_keep_76 : decode cX9_keep 76 = .ok (.iastore, 1) := by decide +kernel
theorem dX9_keep_77 : decode cX9_keep 77 = .ok (.iinc 1 1, 3) := by decide +kernel
theorem dX9_keep_80 : decode cX9_keep 80 = .ok (.goto (-29), 3) := by decide +kernel
theorem dX9_keep_83 : decode cX9_keep 83 = .ok (.aload_n 0, 1) := by decide +kernel
theorem dX9_keep_84 : decode cX9_keep 84 = .ok (.dup, 1) := by decide +kernel
theorem dX9_keep_85 : decode cX9_keep 85 = .ok (.getfield 171, 3) := by decide +kernel
theorem dX9_keep_88 : decode cX9_keep 88 = .ok (.iconst 1, 1) := by decide +kernel
theorem dX9_keep_89 : decode cX9_keep 89 = .ok (.iadd, 1) := by decide +kernel
theorem dX9_keep_90 : decode cX9_keep 90 = .ok (.putfield 171, 3) := by decide +kernel
theorem dX9_keep_93 : decode cX9_keep 93 = .ok (.return_, 1) := by decide +kernel
theorem dX9_goRound_0 : decode cX9_goRound 0 = .ok (.aload_n 0, 1) := by decide +kernel
theorem dX9_goRound_1 : decode cX9_goRound 1 = .ok (.invokevirtual 203, 3) := by decide +kernel
theorem dX9_goRound_4 : decode cX9_goRound 4 = .ok (.iload_n 2, 1) := by decide +kernel
theorem dX9_goRound_5 : decode cX9_goRound 5 = .ok (.i2l, 1) := by decide +kernel
theorem dX9_goRound_6 : decode cX9_goRound 6 = .ok (.ldc2_w 206, 3) := by decide +kernel
theorem dX9_goRound_9 : decode cX9_goRound 9 = .ok (.lmul, 1) := by decide +kernel
theorem dX9_goRound_10 : decode cX9_goRound 10 = .ok (.ldc2_w 208, 3) := by decide +kernel
theorem dX9_goRound_13 : decode cX9_goRound 13 = .ok (.lrem, 1) := by decide +kernel
theorem dX9_goRound_14 : decode cX9_goRound 14 = .ok (.aload_n 0, 1) := by decide +kernel
theorem dX9_goRound_15 : decode cX9_goRound 15 = .ok (.invokevirtual 194, 3) := by decide +kernel
theorem dX9_goRound_18 : decode cX9_goRound 18 = .ok (.i2l, 1) := by decide +kernel
theorem dX9_goRound_19 : decode cX9_goRound 19 = .ok (.lrem, 1) := by decide +kernel
theorem dX9_goRound_20 : decode cX9_goRound 20 = .ok (.l2i, 1) := by decide +kernel
theorem dX9_goRound_21 : decode cX9_goRound 21 = .ok (.istore_n 3, 1) := by decide +kernel
theorem dX9_goRound_22 : decode cX9_goRound 22 = .ok (.aload_n 0, 1) := by decide +kernel
theorem dX9_goRound_23 : decode cX9_goRound 23 = .ok (.ldc 80, 2) := by decide +kernel
theorem dX9_goRound_25 : decode cX9_goRound 25 = .ok (.invokevirtual 187, 3) := by decide +kernel
theorem dX9_goRound_28 : decode cX9_goRound 28 = .ok (.istore 4, 2) := by decide +kernel
theorem dX9_goRound_30 : decode cX9_goRound 30 = .ok (.ldc 80, 2) := by decide +kernel
theorem dX9_goRound_32 : decode cX9_goRound 32 = .ok (.istore 5, 2) := by decide +kernel
theorem dX9_goRound_34 : decode cX9_goRound 34 = .ok (.iconst 0, 1) := by decide +kernel
theorem dX9_goRound_35 : decode cX9_goRound 35 = .ok (.istore 6, 2) := by decide +kernel
theorem dX9_goRound_37 : decode cX9_goRound 37 = .ok (.iload 6, 2) := by decide +kernel
theorem dX9_goRound_39 : decode cX9_goRound 39 = .ok (.aload_n 0, 1) := by decide +kernel
theorem dX9_goRound_40 : decode cX9_goRound 40 = .ok (.getfield 19, 3) := by decide +kernel
theorem dX9_goRound_43 : decode cX9_goRound 43 = .ok (.iconst 2, 1) := by decide +kernel
theorem dX9_goRound_44 : decode cX9_goRound 44 = .ok (.iaload, 1) := by decide +kernel
theorem dX9_goRound_45 : decode cX9_goRound 45 = .ok (.if_icmp .ge 37, 3) := by decide +kernel
theorem dX9_goRound_48 : decode cX9_goRound 48 = .ok (.aload_n 0, 1) := by decide +kernel
theorem dX9_goRound_49 : decode cX9_goRound 49 = .ok (.getfield 31, 3) := by decide +kernel
theorem dX9_goRound_52 : decode cX9_goRound 52 = .ok (.iload 6, 2) := by decide +kernel
theorem dX9_goRound_54 : decode cX9_goRound 54 = .ok (.iaload, 1) := by decide +kernel
theorem dX9_goRound_55 : decode cX9_goRound 55 = .ok (.iload 4, 2) := by decide +kernel
theorem dX9_goRound_57 : decode cX9_goRound 57 = .ok (.if_icmp .ne 19, 3) := by decide +kernel
theorem dX9_goRound_60 : decode cX9_goRound 60 = .ok (.iload_n 3, 1) := by decide +kernel
theorem dX9_goRound_61 : decode cX9_goRound 61 = .ok (.ifCond .ne 8, 3) := by decide +kernel
theorem dX9_goRound_64 : decode cX9_goRound 64 = .ok (.iload 6, 2) := by decide +kernel
theorem dX9_goRound_66 : decode cX9_goRound 66 = .ok (.goto 5, 3) := by decide +kernel
theorem dX9_goRound_69 : decode cX9_goRound 69 = .ok (.iload 5, 2) := by decide +kernel
theorem dX9_goRound_71 : decode cX9_goRound 71 = .ok (.istore 5, 2) := by decide +kernel
theorem dX9_goRound_73 : decode cX9_goRound 73 = .ok (.iinc 3 (-1), 3) := by decide +kernel
theorem dX9_goRound_76 : decode cX9_goRound 76 = .ok (.iinc 6 1, 3) := by decide +kernel
theorem dX9_goRound_79 : decode cX9_goRound 79 = .ok (.goto (-42), 3) := by decide +kernel
theorem dX9_goRound_82 : decode cX9_goRound 82 = .ok (.iconst 0, 1) := by decide +kernel
theorem dX9_goRound_83 : decode cX9_goRound 83 = .ok (.istore 6, 2) := by decide +kernel
theorem dX9_goRound_85 : decode cX9_goRound 85 = .ok (.iload 6, 2) := by decide +kernel
theorem dX9_goRound_87 : decode cX9_goRound 87 = .ok (.aload_n 0, 1) := by decide +kernel
theorem dX9_goRound_88 : decode cX9_goRound 88 = .ok (.getfield 19, 3) := by decide +kernel
theorem dX9_goRound_91 : decode cX9_goRound 91 = .ok (.iconst 2, 1) := by decide +kernel
theorem dX9_goRound_92 : decode cX9_goRound 92 = .ok (.iaload, 1) := by decide +kernel
theorem dX9_goRound_93 : decode cX9_goRound 93 = .ok (.if_icmp .ge 36, 3) := by decide +kernel
theorem dX9_goRound_96 : decode cX9_goRound 96 = .ok (.aload_n 0, 1) := by decide +kernel
theorem dX9_goRound_97 : decode cX9_goRound 97 = .ok (.getfield 19, 3) := by decide +kernel
theorem dX9_goRound_100 : decode cX9_goRound 100 = .ok (.bipush 8, 2) := by decide +kernel
theorem dX9_goRound_102 : decode cX9_goRound 102 = .ok (.iload 6, 2) := by decide +kernel
theorem dX9_goRound_104 : decode cX9_goRound 104 = .ok (.iadd, 1) := by decide +kernel
theorem dX9_goRound_105 : decode cX9_goRound 105 = .ok (.dup2, 1) := by decide +kernel
theorem dX9_goRound_106 : decode cX9_goRound 106 = .ok (.iaload, 1) := by decide +kernel
theorem dX9_goRound_107 : decode cX9_goRound 107 = .ok (.aload_n 0, 1) := by decide +kernel
theorem dX9_goRound_108 : decode cX9_goRound 108 = .ok (.aload_n 0, 1) := by decide +kernel
theorem dX9_goRound_109 : decode cX9_goRound 109 = .ok (.getfield 19, 3) := by decide +kernel
theorem dX9_goRound_112 : decode cX9_goRound 112 = .ok (.iconst 0, 1) := by decide +kernel
theorem dX9_goRound_113 : decode cX9_goRound 113 = .ok (.iaload, 1) := by decide +kernel
theorem dX9_goRound_114 : decode cX9_goRound 114 = .ok (.iload 6, 2) := by decide +kernel
theorem dX9_goRound_116 : decode cX9_goRound 116 = .ok (.iload 5, 2) := by decide +kernel
theorem dX9_goRound_118 : decode cX9_goRound 118 = .ok (.invokevirtual 190, 3) := by decide +kernel
theorem dX9_goRound_121 : decode cX9_goRound 121 = .ok (.iadd, 1) := by decide +kernel
theorem dX9_goRound_122 : decode cX9_goRound 122 = .ok (.iastore, 1) := by decide +kernel
theorem dX9_goRound_123 : decode cX9_goRound 123 = .ok (.iinc 6 1, 3) := by decide +kernel
theorem dX9_goRound_126 : decode cX9_goRound 126 = .ok (.goto (-41), 3) := by decide +kernel
theorem dX9_goRound_129 : decode cX9_goRound 129 = .ok (.aload_n 0, 1) := by decide +kernel
theorem dX9_goRound_130 : decode cX9_goRound 130 = .ok (.getfield 19, 3) := by decide +kernel
theorem dX9_goRound_133 : decode cX9_goRound 133 = .ok (.bipush 12, 2) := by decide +kernel
theorem dX9_goRound_135 : decode cX9_goRound 135 = .ok (.bipush 6, 2) := by decide +kernel
theorem dX9_goRound_137 : decode cX9_goRound 137 = .ok (.iload_n 1, 1) := by decide +kernel
theorem dX9_goRound_138 : decode cX9_goRound 138 = .ok (.imul, 1) := by decide +kernel
theorem dX9_goRound_139 : decode cX9_goRound 139 = .ok (.iadd, 1) := by decide +kernel
theorem dX9_goRound_140 : decode cX9_goRound 140 = .ok (.iconst 4, 1) := by decide +kernel
theorem dX9_goRound_141 : decode cX9_goRound 141 = .ok (.iadd, 1) := by decide +kernel
theorem dX9_goRound_142 : decode cX9_goRound 142 = .ok (.iload 5, 2) := by decide +kernel
theorem dX9_goRound_144 : decode cX9_goRound 144 = .ok (.iastore, 1) := by decide +kernel
theorem dX9_goRound_145 : decode cX9_goRound 145 = .ok (.iload 5, 2) := by decide +kernel
theorem dX9_goRound_147 : decode cX9_goRound 147 = .ok (.ireturn, 1) := by decide +kernel
theorem dX9_give_0 : decode cX9_give 0 = .ok (.aload_n 0, 1) := by decide +kernel
theorem dX9_give_1 : decode cX9_give 1 = .ok (.iconst 0, 1) := by decide +kernel
theorem dX9_give_2 : decode cX9_give 2 = .ok (.putfield 44, 3) := by decide +kernel
theorem dX9_give_5 : decode cX9_give 5 = .ok (.aload_n 0, 1) := by decide +kernel
theorem dX9_give_6 : decode cX9_give 6 = .ok (.iload_n 1, 1) := by decide +kernel
theorem dX9_give_7 : decode cX9_give 7 = .ok (.invokevirtual 210, 3) := by decide +kernel
theorem dX9_give_10 : decode cX9_give 10 = .ok (.ifCond .eq 17, 3) := by decide +kernel
theorem dX9_give_13 : decode cX9_give 13 = .ok (.iload_n 2, 1) := by decide +kernel
theorem dX9_give_14 : decode cX9_give 14 = .ok (.invokestatic 58, 3) := by decide +kernel
theorem dX9_give_17 : decode cX9_give 17 = .ok (.ifCond .eq 10, 3) := by decide +kernel
theorem dX9_give_20 : decode cX9_give 20 = .ok (.iload_n 3, 1) := by decide +kernel
theorem dX9_give_21 : decode cX9_give 21 = .ok (.invokestatic 213, 3) := by decide +kernel
theorem dX9_give_24 : decode cX9_give 24 = .ok (.ifCond .ne 6, 3) := by decide +kernel
theorem dX9_give_27 : decode cX9_give 27 = .ok (.ldc 64, 2) := by decide +kernel
theorem dX9_give_29 : decode cX9_give 29 = .ok (.ireturn, 1) := by decide +kernel
theorem dX9_give_30 : decode cX9_give 30 = .ok (.aload_n 0, 1) := by decide +kernel
theorem dX9_give_31 : decode cX9_give 31 = .ok (.iload_n 1, 1) := by decide +kernel
theorem dX9_give_32 : decode cX9_give 32 = .ok (.iconst 4, 1) := by decide +kernel
theorem dX9_give_33 : decode cX9_give 33 = .ok (.invokevirtual 176, 3) := by decide +kernel
theorem dX9_give_36 : decode cX9_give 36 = .ok (.ldc 80, 2) := by decide +kernel
theorem dX9_give_38 : decode cX9_give 38 = .ok (.if_icmp .eq 6, 3) := by decide +kernel
theorem dX9_give_41 : decode cX9_give 41 = .ok (.ldc 216, 2) := by decide +kernel
theorem dX9_give_43 : decode cX9_give 43 = .ok (.ireturn, 1) := by decide +kernel
theorem dX9_give_44 : decode cX9_give 44 = .ok (.aload_n 0, 1) := by decide +kernel
theorem dX9_give_45 : decode cX9_give 45 = .ok (.iload_n 2, 1) := by decide +kernel
theorem dX9_give_46 : decode cX9_give 46 = .ok (.invokevirtual 217, 3) := by decide +kernel
theorem dX9_give_49 : decode cX9_give 49 = .ok (.istore 4, 2) := by decide +kernel
theorem dX9_give_51 : decode cX9_give 51 = .ok (.iload 4, 2) := by decide +kernel
theorem dX9_give_53 : decode cX9_give 53 = .ok (.ifCond .ge 8, 3) := by decide +kernel
theorem dX9_give_56 : decode cX9_give 56 = .ok (.iload 4, 2) := by decide +kernel
theorem dX9_give_58 : decode cX9_give 58 = .ok (.goto 9, 3) := by decide +kernel
theorem dX9_give_61 : decode cX9_give 61 = .ok (.aload_n 0, 1) := by decide +kernel
theorem dX9_give_62 : decode cX9_give 62 = .ok (.iload_n 1, 1) := by decide +kernel
theorem dX9_give_63 : decode cX9_give 63 = .ok (.iload_n 3, 1) := by decide +kernel
theorem dX9_give_64 : decode cX9_give 64 = .ok (.invokevirtual 220, 3) := by decide +kernel
theorem dX9_give_67 : decode cX9_give 67 = .ok (.ireturn, 1) := by decide +kernel
theorem dX9_offer_0 : decode cX9_offer 0 = .ok (.aload_n 0, 1) := by decide +kernel
theorem dX9_offer_1 : decode cX9_offer 1 = .ok (.iconst 0, 1) := by decide +kernel
theorem dX9_offer_2 : decode cX9_offer 2 = .ok (.putfield 44, 3) := by decide +kernel
theorem dX9_offer_5 : decode cX9_offer 5 = .ok (.aload_n 0, 1) := by decide +kernel
theorem dX9_offer_6 : decode cX9_offer 6 = .ok (.iload_n 1, 1) := by decide +kernel
theorem dX9_offer_7 : decode cX9_offer 7 = .ok (.invokevirtual 210, 3) := by decide +kernel
theorem dX9_offer_10 : decode cX9_offer 10 = .ok (.ifCond .eq 10, 3) := by decide +kernel
theorem dX9_offer_13 : decode cX9_offer 13 = .ok (.iload_n 2, 1) := by decide +kernel
theorem dX9_offer_14 : decode cX9_offer 14 = .ok (.invokestatic 213, 3) := by decide +kernel
theorem dX9_offer_17 : decode cX9_offer 17 = .ok (.ifCond .ne 6, 3) := by decide +kernel
theorem dX9_offer_20 : decode cX9_offer 20 = .ok (.ldc 64, 2) := by decide +kernel
theorem dX9_offer_22 : decode cX9_offer 22 = .ok (.ireturn, 1) := by decide +kernel
theorem dX9_offer_23 : decode cX9_offer 23 = .ok (.aload_n 0, 1) := by decide +kernel
theorem dX9_offer_24 : decode cX9_offer 24 = .ok (.iload_n 1, 1) := by decide +kernel
theorem dX9_offer_25 : decode cX9_offer 25 = .ok (.iconst 4, 1) := by decide +kernel
theorem dX9_offer_26 : decode cX9_offer 26 = .ok (.invokevirtual 176, 3) := by decide +kernel
theorem dX9_offer_29 : decode cX9_offer 29 = .ok (.ldc 80, 2) := by decide +kernel
theorem dX9_offer_31 : decode cX9_offer 31 = .ok (.if_icmp .eq 6, 3) := by decide +kernel
theorem dX9_offer_34 : decode cX9_offer 34 = .ok (.ldc 216, 2) := by decide +kernel
theorem dX9_offer_36 : decode cX9_offer 36 = .ok (.ireturn, 1) := by decide +kernel
theorem dX9_offer_37 : decode cX9_offer 37 = .ok (.aload_n 0, 1) := by decide +kernel
theorem dX9_offer_38 : decode cX9_offer 38 = .ok (.iload_n 1, 1) := by decide +kernel
theorem dX9_offer_39 : decode cX9_offer 39 = .ok (.invokevirtual 223, 3) := by decide +kernel
theorem dX9_offer_42 : decode cX9_offer 42 = .ok (.aload_n 0, 1) := by decide +kernel
theorem dX9_offer_43 : decode cX9_offer 43 = .ok (.iload_n 1, 1) := by decide +kernel
theorem dX9_offer_44 : decode cX9_offer 44 = .ok (.iload_n 2, 1) := by decide +kernel
theorem dX9_offer_45 : decode cX9_offer 45 = .ok (.invokevirtual 220, 3) := by decide +kernel
theorem dX9_offer_48 : decode cX9_offer 48 = .ok (.ireturn, 1) := by decide +kernel
theorem dX9_back_0 : decode cX9_back 0 = .ok (.aload_n 0, 1) := by decide +kernel
theorem dX9_back_1 : decode cX9_back 1 = .ok (.iconst 0, 1) := by decide +kernel
theorem dX9_back_2 : decode cX9_back 2 = .ok (.putfield 44, 3) := by decide +kernel
theorem dX9_back_5 : decode cX9_back 5 = .ok (.aload_n 0, 1) := by decide +kernel
theorem dX9_back_6 : decode cX9_back 6 = .ok (.iload_n 1, 1) := by decide +kernel
theorem dX9_back_7 : decode cX9_back 7 = .ok (.invokevirtual 210, 3) := by decide +kernel
theorem dX9_back_10 : decode cX9_back 10 = .ok (.ifCond .ne 6, 3) := by decide +kernel
theorem dX9_back_13 : decode cX9_back 13 = .ok (.ldc 64, 2) := by decide +kernel
theorem dX9_back_15 : decode cX9_back 15 = .ok (.ireturn, 1) := by decide +kernel
theorem dX9_back_16 : decode cX9_back 16 = .ok (.aload_n 0, 1) := by decide +kernel
theorem dX9_back_17 : decode cX9_back 17 = .ok (.iload_n 1, 1) := by decide +kernel
theorem dX9_back_18 : decode cX9_back 18 = .ok (.iconst 4, 1) := by decide +kernel
theorem dX9_back_19 : decode cX9_back 19 = .ok (.invokevirtual 176, 3) := by decide +kernel
theorem dX9_back_22 : decode cX9_back 22 = .ok (.istore_n 2, 1) := by decide +kernel
theorem dX9_back_23 : decode cX9_back 23 = .ok (.iload_n 2, 1) := by decide +kernel
theorem dX9_back_24 : decode cX9_back 24 = .ok (.ldc 80, 2) := by decide +kernel
theorem dX9_back_26 : decode cX9_back 26 = .ok (.if_icmp .ne 6, 3) := by decide +kernel
theorem dX9_back_29 : decode cX9_back 29 = .ok (.ldc 216, 2) := by decide +kernel
theorem dX9_back_31 : decode cX9_back 31 = .ok (.ireturn, 1) := by decide +kernel
theorem dX9_back_32 : decode cX9_back 32 = .ok (.aload_n 0, 1) := by decide +kernel
theorem dX9_back_33 : decode cX9_back 33 = .ok (.invokevirtual 203, 3) := by decide +kernel
theorem dX9_back_36 : decode cX9_back 36 = .ok (.aload_n 0, 1) := by decide +kernel
theorem dX9_back_37 : decode cX9_back 37 = .ok (.getfield 19, 3) := by decide +kernel
theorem dX9_back_40 : decode cX9_back 40 = .ok (.bipush 12, 2) := by decide +kernel
theorem dX9_back_42 : decode cX9_back 42 = .ok (.bipush 6, 2) := by decide +kernel
theorem dX9_back_44 : decode cX9_back 44 = .ok (.iload_n 1, 1) := by decide +kernel
theorem dX9_back_45 : decode cX9_back 45 = .ok (.imul, 1) := by decide +kernel
theorem dX9_back_46 : decode cX9_back 46 = .ok (.iadd, 1) := by decide +kernel
theorem dX9_back_47 : decode cX9_back 47 = .ok (.iconst 4, 1) := by decide +kernel
theorem dX9_back_48 : decode cX9_back 48 = .ok (.iadd, 1) := by decide +kernel
theorem dX9_back_49 : decode cX9_back 49 = .ok (.ldc 80, 2) := by decide +kernel
theorem dX9_back_51 : decode cX9_back 51 = .ok (.iastore, 1) := by decide +kernel
theorem dX9_back_52 : decode cX9_back 52 = .ok (.aload_n 0, 1) := by decide +kernel
theorem dX9_back_53 : decode cX9_back 53 = .ok (.getfield 19, 3) := by decide +kernel
theorem dX9_back_56 : decode cX9_back 56 = .ok (.bipush 12, 2) := by decide +kernel
theorem dX9_back_58 : decode cX9_back 58 = .ok (.bipush 6, 2) := by decide +kernel
theorem dX9_back_60 : decode cX9_back 60 = .ok (.iload_n 1, 1) := by decide +kernel
theorem dX9_back_61 : decode cX9_back 61 = .ok (.imul, 1) := by decide +kernel
theorem dX9_back_62 : decode cX9_back 62 = .ok (.iadd, 1) := by decide +kernel
theorem dX9_back_63 : decode cX9_back 63 = .ok (.iconst 5, 1) := by decide +kernel
theorem dX9_back_64 : decode cX9_back 64 = .ok (.iadd, 1) := by decide +kernel
theorem dX9_back_65 : decode cX9_back 65 = .ok (.dup2, 1) := by decide +kernel
theorem dX9_back_66 : decode cX9_back 66 = .ok (.iaload, 1) := by decide +kernel
theorem dX9_back_67 : decode cX9_back 67 = .ok (.iconst 1, 1) := by decide +kernel
theorem dX9_back_68 : decode cX9_back 68 = .ok (.iadd, 1) := by decide +kernel
theorem dX9_back_69 : decode cX9_back 69 = .ok (.iastore, 1) := by decide +kernel
theorem dX9_back_70 : decode cX9_back 70 = .ok (.iload_n 2, 1) := by decide +kernel
theorem dX9_back_71 : decode cX9_back 71 = .ok (.ireturn, 1) := by decide +kernel
theorem dX9_undo_0 : decode cX9_undo 0 = .ok (.aload_n 0, 1) := by decide +kernel
theorem dX9_undo_1 : decode cX9_undo 1 = .ok (.iconst 0, 1) := by decide +kernel
theorem dX9_undo_2 : decode cX9_undo 2 = .ok (.putfield 44, 3) := by decide +kernel
theorem dX9_undo_5 : decode cX9_undo 5 = .ok (.aload_n 0, 1) := by decide +kernel
theorem dX9_undo_6 : decode cX9_undo 6 = .ok (.getfield 171, 3) := by decide +kernel
theorem dX9_undo_9 : decode cX9_undo 9 = .ok (.ifCond .ne 6, 3) := by decide +kernel
theorem dX9_undo_12 : decode cX9_undo 12 = .ok (.ldc 216, 2) := by decide +kernel
theorem dX9_undo_14 : decode cX9_undo 14 = .ok (.ireturn, 1) := by decide +kernel
theorem dX9_undo_15 : decode cX9_undo 15 = .ok (.aload_n 0, 1) := by decide +kernel
theorem dX9_undo_16 : decode cX9_undo 16 = .ok (.dup, 1) := by decide +kernel
theorem dX9_undo_17 : decode cX9_undo 17 = .ok (.getfield 171, 3) := by decide +kernel
theorem dX9_undo_20 : decode cX9_undo 20 = .ok (.iconst 1, 1) := by decide +kernel
theorem dX9_undo_21 : decode cX9_undo 21 = .ok (.isub, 1) := by decide +kernel
theorem dX9_undo_22 : decode cX9_undo 22 = .ok (.putfield 171, 3) := by decide +kernel
theorem dX9_undo_25 : decode cX9_undo 25 = .ok (.iconst 0, 1) := by decide +kernel
theorem dX9_undo_26 : decode cX9_undo 26 = .ok (.istore_n 1, 1) := by decide +kernel
theorem dX9_undo_27 : decode cX9_undo 27 = .ok (.iload_n 1, 1) := by decide +kernel
theorem dX9_undo_28 : decode cX9_undo 28 = .ok (.bipush 42, 2) := by decide +kernel
theorem dX9_undo_30 : decode cX9_undo 30 = .ok (.if_icmp .ge 29, 3) := by decide +kernel
theorem dX9_undo_33 : decode cX9_undo 33 = .ok (.aload_n 0, 1) := by decide +kernel
theorem dX9_undo_34 : decode cX9_undo 34 = .ok (.getfield 19, 3) := by decide +kernel
theorem dX9_undo_37 : decode cX9_undo 37 = .ok (.iload_n 1, 1) := by decide +kernel
theorem dX9_undo_38 : decode cX9_undo 38 = .ok (.aload_n 0, 1) := by decide +kernel
theorem dX9_undo_39 : decode cX9_undo 39 = .ok (.getfield 25, 3) := by decide +kernel
theorem dX9_undo_42 : decode cX9_undo 42 = .ok (.bipush 42, 2) := by decide +kernel
theorem dX9_undo_44 : decode cX9_undo 44 = .ok (.aload_n 0, 1) := by decide +kernel
theorem dX9_undo_45 : decode cX9_undo 45 = .ok (.getfield 171, 3) := by decide +kernel
theorem dX9_undo_48 : decode cX9_undo 48 = .ok (.imul, 1) := by decide +kernel
theorem dX9_undo_49 : decode cX9_undo 49 = .ok (.iload_n 1, 1) := by decide +kernel
theorem dX9_undo_50 : decode cX9_undo 50 = .ok (.iadd, 1) := by decide +kernel
theorem dX9_undo_51 : decode cX9_undo 51 = .ok (.iaload, 1) := by decide +kernel
theorem dX9_undo_52 : decode cX9_undo 52 = .ok (.iastore, 1) := by decide +kernel
theorem dX9_undo_53 : decode cX9_undo 53 = .ok (.iinc 1 1, 3) := by decide +kernel
theorem dX9_undo_56 : decode cX9_undo 56 = .ok (.goto (-29), 3) := by decide +kernel
theorem dX9_undo_59 : decode cX9_undo 59 = .ok (.aload_n 0, 1) := by decide +kernel
theorem dX9_undo_60 : decode cX9_undo 60 = .ok (.getfield 171, 3) := by decide +kernel
theorem dX9_undo_63 : decode cX9_undo 63 = .ok (.ireturn, 1) := by decide +kernel
theorem dX9_coin_0 : decode cX9_coin 0 = .ok (.aload_n 0, 1) := by decide +kernel
theorem dX9_coin_1 : decode cX9_coin 1 = .ok (.iconst 0, 1) := by decide +kernel
theorem dX9_coin_2 : decode cX9_coin 2 = .ok (.putfield 44, 3) := by decide +kernel
theorem dX9_coin_5 : decode cX9_coin 5 = .ok (.aload_n 0, 1) := by decide +kernel
theorem dX9_coin_6 : decode cX9_coin 6 = .ok (.iload_n 1, 1) := by decide +kernel
theorem dX9_coin_7 : decode cX9_coin 7 = .ok (.invokevirtual 226, 3) := by decide +kernel
theorem dX9_coin_10 : decode cX9_coin 10 = .ok (.ifCond .eq 15, 3) := by decide +kernel
theorem dX9_coin_13 : decode cX9_coin 13 = .ok (.aload_n 0, 1) := by decide +kernel
theorem dX9_coin_14 : decode cX9_coin 14 = .ok (.getfield 19, 3) := by decide +kernel
theorem dX9_coin_17 : decode cX9_coin 17 = .ok (.bipush 8, 2) := by decide +kernel
theorem dX9_coin_19 : decode cX9_coin 19 = .ok (.iload_n 1, 1) := by decide +kernel
theorem dX9_coin_20 : decode cX9_coin 20 = .ok (.iadd, 1) := by decide +kernel
theorem dX9_coin_21 : decode cX9_coin 21 = .ok (.iaload, 1) := by decide +kernel
theorem dX9_coin_22 : decode cX9_coin 22 = .ok (.goto 5, 3) := by decide +kernel
theorem dX9_coin_25 : decode cX9_coin 25 = .ok (.ldc 64, 2) := by decide +kernel
theorem dX9_coin_27 : decode cX9_coin 27 = .ok (.ireturn, 1) := by decide +kernel
theorem dX9_thing_0 : decode cX9_thing 0 = .ok (.aload_n 0, 1) := by decide +kernel
theorem dX9_thing_1 : decode cX9_thing 1 = .ok (.iconst 0, 1) := by decide +kernel
theorem dX9_thing_2 : decode cX9_thing 2 = .ok (.putfield 44, 3) := by decide +kernel
theorem dX9_thing_5 : decode cX9_thing 5 = .ok (.aload_n 0, 1) := by decide +kernel
theorem dX9_thing_6 : decode cX9_thing 6 = .ok (.iload_n 1, 1) := by decide +kernel
theorem dX9_thing_7 : decode cX9_thing 7 = .ok (.invokevirtual 210, 3) := by decide +kernel
theorem dX9_thing_10 : decode cX9_thing 10 = .ok (.ifCond .eq 24, 3) := by decide +kernel
theorem dX9_thing_13 : decode cX9_thing 13 = .ok (.iload_n 2, 1) := by decide +kernel
theorem dX9_thing_14 : decode cX9_thing 14 = .ok (.i2l, 1) := by decide +kernel
theorem dX9_thing_15 : decode cX9_thing 15 = .ok (.lconst 0, 1) := by decide +kernel
theorem dX9_thing_16 : decode cX9_thing 16 = .ok (.lconst 1, 1) := by decide +kernel
theorem dX9_thing_17 : decode cX9_thing 17 = .ok (.invokestatic 54, 3) := by decide +kernel
theorem dX9_thing_20 : decode cX9_thing 20 = .ok (.ifCond .eq 14, 3) := by decide +kernel
theorem dX9_thing_23 : decode cX9_thing 23 = .ok (.aload_n 0, 1) := by decide +kernel
theorem dX9_thing_24 : decode cX9_thing 24 = .ok (.iload_n 1, 1) := by decide +kernel
theorem dX9_thing_25 : decode cX9_thing 25 = .ok (.iconst 4, 1) := by decide +kernel
theorem dX9_thing_26 : decode cX9_thing 26 = .ok (.iload_n 2, 1) := by decide +kernel
theorem dX9_thing_27 : decode cX9_thing 27 = .ok (.iadd, 1) := by decide +kernel
theorem dX9_thing_28 : decode cX9_thing 28 = .ok (.invokevirtual 176, 3) := by decide +kernel
theorem dX9_thing_31 : decode cX9_thing 31 = .ok (.goto 5, 3) := by decide +kernel
theorem dX9_thing_34 : decode cX9_thing 34 = .ok (.ldc 64, 2) := by decide +kernel
theorem dX9_thing_36 : decode cX9_thing 36 = .ok (.ireturn, 1) := by decide +kernel
theorem dX9_worth_0 : decode cX9_worth 0 = .ok (.aload_n 0, 1) := by decide +kernel
theorem dX9_worth_1 : decode cX9_worth 1 = .ok (.iconst 0, 1) := by decide +kernel
theorem dX9_worth_2 : decode cX9_worth 2 = .ok (.putfield 44, 3) := by decide +kernel
theorem dX9_worth_5 : decode cX9_worth 5 = .ok (.aload_n 0, 1) := by decide +kernel
theorem dX9_worth_6 : decode cX9_worth 6 = .ok (.iload_n 1, 1) := by decide +kernel
theorem dX9_worth_7 : decode cX9_worth 7 = .ok (.invokevirtual 210, 3) := by decide +kernel
theorem dX9_worth_10 : decode cX9_worth 10 = .ok (.ifCond .eq 21, 3) := by decide +kernel
theorem dX9_worth_13 : decode cX9_worth 13 = .ok (.aload_n 0, 1) := by decide +kernel
theorem dX9_worth_14 : decode cX9_worth 14 = .ok (.iload_n 2, 1) := by decide +kernel
theorem dX9_worth_15 : decode cX9_worth 15 = .ok (.invokevirtual 226, 3) := by decide +kernel
theorem dX9_worth_18 : decode cX9_worth 18 = .ok (.ifCond .eq 13, 3) := by decide +kernel
theorem dX9_worth_21 : decode cX9_worth 21 = .ok (.iload_n 3, 1) := by decide +kernel
theorem dX9_worth_22 : decode cX9_worth 22 = .ok (.i2l, 1) := by decide +kernel
theorem dX9_worth_23 : decode cX9_worth 23 = .ok (.lconst 0, 1) := by decide +kernel
theorem dX9_worth_24 : decode cX9_worth 24 = .ok (.lconst 1, 1) := by decide +kernel
theorem dX9_worth_25 : decode cX9_worth 25 = .ok (.invokestatic 54, 3) := by decide +kernel
theorem dX9_worth_28 : decode cX9_worth 28 = .ok (.ifCond .ne 6, 3) := by decide +kernel
theorem dX9_worth_31 : decode cX9_worth 31 = .ok (.ldc 64, 2) := by decide +kernel
theorem dX9_worth_33 : decode cX9_worth 33 = .ok (.ireturn, 1) := by decide +kernel
theorem dX9_worth_34 : decode cX9_worth 34 = .ok (.iload_n 3, 1) := by decide +kernel
theorem dX9_worth_35 : decode cX9_worth 35 = .ok (.ifCond .ne 12, 3) := by decide +kernel
theorem dX9_worth_38 : decode cX9_worth 38 = .ok (.aload_n 0, 1) := by decide +kernel
theorem dX9_worth_39 : decode cX9_worth 39 = .ok (.iload_n 1, 1) := by decide +kernel
theorem dX9_worth_40 : decode cX9_worth 40 = .ok (.iload_n 2, 1) := by decide +kernel
theorem dX9_worth_41 : decode cX9_worth 41 = .ok (.invokevirtual 179, 3) := by decide +kernel
theorem dX9_worth_44 : decode cX9_worth 44 = .ok (.goto 9, 3) := by decide +kernel
theorem dX9_worth_47 : decode cX9_worth 47 = .ok (.aload_n 0, 1) := by decide +kernel
theorem dX9_worth_48 : decode cX9_worth 48 = .ok (.iload_n 1, 1) := by decide +kernel
theorem dX9_worth_49 : decode cX9_worth 49 = .ok (.iload_n 2, 1) := by decide +kernel
theorem dX9_worth_50 : decode cX9_worth 50 = .ok (.invokevirtual 182, 3) := by decide +kernel
theorem dX9_worth_53 : decode cX9_worth 53 = .ok (.ireturn, 1) := by decide +kernel
theorem dX9_told_0 : decode cX9_told 0 = .ok (.iload_n 0, 1) := by decide +kernel
theorem dX9_told_1 : decode cX9_told 1 = .ok (.ifCond .ge 8, 3) := by decide +kernel
theorem dX9_told_4 : decode cX9_told 4 = .ok (.iload_n 0, 1) := by decide +kernel
theorem dX9_told_5 : decode cX9_told 5 = .ok (.ineg, 1) := by decide +kernel
theorem dX9_told_6 : decode cX9_told 6 = .ok (.goto 4, 3) := by decide +kernel
theorem dX9_told_9 : decode cX9_told 9 = .ok (.iload_n 0, 1) := by decide +kernel
theorem dX9_told_10 : decode cX9_told 10 = .ok (.istore_n 2, 1) := by decide +kernel
theorem dX9_told_11 : decode cX9_told 11 = .ok (.bipush 12, 2) := by decide +kernel
theorem dX9_told_13 : decode cX9_told 13 = .ok (.istore_n 3, 1) := by decide +kernel
theorem dX9_told_14 : decode cX9_told 14 = .ok (.iload_n 3, 1) := by decide +kernel
theorem dX9_told_15 : decode cX9_told 15 = .ok (.ifCond .eq 16, 3) := by decide +kernel
theorem dX9_told_18 : decode cX9_told 18 = .ok (.iload_n 2, 1) := by decide +kernel
theorem dX9_told_19 : decode cX9_told 19 = .ok (.iload_n 3, 1) := by decide +kernel
theorem dX9_told_20 : decode cX9_told 20 = .ok (.irem, 1) := by decide +kernel
theorem dX9_told_21 : decode cX9_told 21 = .ok (.istore 4, 2) := by decide +kernel
theorem dX9_told_23 : decode cX9_told 23 = .ok (.iload_n 3, 1) := by decide +kernel
theorem dX9_told_24 : decode cX9_told 24 = .ok (.istore_n 2, 1) := by decide +kernel
theorem dX9_told_25 : decode cX9_told 25 = .ok (.iload 4, 2) := by decide +kernel
theorem dX9_told_27 : decode cX9_told 27 = .ok (.istore_n 3, 1) := by decide +kernel
theorem dX9_told_28 : decode cX9_told 28 = .ok (.goto (-14), 3) := by decide +kernel
theorem dX9_told_31 : decode cX9_told 31 = .ok (.iload_n 1, 1) := by decide +kernel
theorem dX9_told_32 : decode cX9_told 32 = .ok (.ifCond .ne 7, 3) := by decide +kernel
theorem dX9_told_35 : decode cX9_told 35 = .ok (.iload_n 0, 1) := by decide +kernel
theorem dX9_told_36 : decode cX9_told 36 = .ok (.goto 5, 3) := by decide +kernel
theorem dX9_told_39 : decode cX9_told 39 = .ok (.bipush 12, 2) := by decide +kernel
theorem dX9_told_41 : decode cX9_told 41 = .ok (.iload_n 2, 1) := by decide +kernel
theorem dX9_told_42 : decode cX9_told 42 = .ok (.idiv, 1) := by decide +kernel
theorem dX9_told_43 : decode cX9_told 43 = .ok (.ireturn, 1) := by decide +kernel
theorem dX9_gain_0 : decode cX9_gain 0 = .ok (.aload_n 0, 1) := by decide +kernel
theorem dX9_gain_1 : decode cX9_gain 1 = .ok (.iconst 0, 1) := by decide +kernel
theorem dX9_gain_2 : decode cX9_gain 2 = .ok (.putfield 44, 3) := by decide +kernel
theorem dX9_gain_5 : decode cX9_gain 5 = .ok (.aload_n 0, 1) := by decide +kernel
theorem dX9_gain_6 : decode cX9_gain 6 = .ok (.iload_n 1, 1) := by decide +kernel
theorem dX9_gain_7 : decode cX9_gain 7 = .ok (.invokevirtual 210, 3) := by decide +kernel
theorem dX9_gain_10 : decode cX9_gain 10 = .ok (.ifCond .eq 29, 3) := by decide +kernel
theorem dX9_gain_13 : decode cX9_gain 13 = .ok (.iload_n 2, 1) := by decide +kernel
theorem dX9_gain_14 : decode cX9_gain 14 = .ok (.invokestatic 58, 3) := by decide +kernel
theorem dX9_gain_17 : decode cX9_gain 17 = .ok (.ifCond .eq 22, 3) := by decide +kernel
theorem dX9_gain_20 : decode cX9_gain 20 = .ok (.aload_n 0, 1) := by decide +kernel
theorem dX9_gain_21 : decode cX9_gain 21 = .ok (.iload_n 3, 1) := by decide +kernel
theorem dX9_gain_22 : decode cX9_gain 22 = .ok (.invokevirtual 226, 3) := by decide +kernel
theorem dX9_gain_25 : decode cX9_gain 25 = .ok (.ifCond .eq 14, 3) := by decide +kernel
theorem dX9_gain_28 : decode cX9_gain 28 = .ok (.iload 4, 2) := by decide +kernel
theorem dX9_gain_30 : decode cX9_gain 30 = .ok (.i2l, 1) := by decide +kernel
theorem dX9_gain_31 : decode cX9_gain 31 = .ok (.lconst 0, 1) := by decide +kernel
theorem dX9_gain_32 : decode cX9_gain 32 = .ok (.lconst 1, 1) := by decide +kernel
theorem dX9_gain_33 : decode cX9_gain 33 = .ok (.invokestatic 54, 3) := by decide +kernel
theorem dX9_gain_36 : decode cX9_gain 36 = .ok (.ifCond .ne 6, 3) := by decide +kernel
theorem dX9_gain_39 : decode cX9_gain 39 = .ok (.ldc 64, 2) := by decide +kernel
theorem dX9_gain_41 : decode cX9_gain 41 = .ok (.ireturn, 1) := by decide +kernel
theorem dX9_gain_42 : decode cX9_gain 42 = .ok (.aload_n 0, 1) := by decide +kernel
theorem dX9_gain_43 : decode cX9_gain 43 = .ok (.iload_n 2, 1) := by decide +kernel
theorem dX9_gain_44 : decode cX9_gain 44 = .ok (.invokevirtual 217, 3) := by decide +kernel
theorem dX9_gain_47 : decode cX9_gain 47 = .ok (.istore 5, 2) := by decide +kernel
theorem dX9_gain_49 : decode cX9_gain 49 = .ok (.iload 5, 2) := by decide +kernel
theorem dX9_gain_51 : decode cX9_gain 51 = .ok (.ifCond .ge 8, 3) := by decide +kernel
theorem dX9_gain_54 : decode cX9_gain 54 = .ok (.iload 5, 2) := by decide +kernel
theorem dX9_gain_56 : decode cX9_gain 56 = .ok (.goto 20, 3) := by decide +kernel
theorem dX9_gain_59 : decode cX9_gain 59 = .ok (.aload_n 0, 1) := by decide +kernel
theorem dX9_gain_60 : decode cX9_gain 60 = .ok (.aload_n 0, 1) := by decide +kernel
theorem dX9_gain_61 : decode cX9_gain 61 = .ok (.getfield 19, 3) := by decide +kernel
theorem dX9_gain_64 : decode cX9_gain 64 = .ok (.iconst 0, 1) := by decide +kernel
theorem dX9_gain_65 : decode cX9_gain 65 = .ok (.iaload, 1) := by decide +kernel
theorem dX9_gain_66 : decode cX9_gain 66 = .ok (.iload_n 1, 1) := by decide +kernel
theorem dX9_gain_67 : decode cX9_gain 67 = .ok (.iload_n 3, 1) := by decide +kernel
theorem dX9_gain_68 : decode cX9_gain 68 = .ok (.invokevirtual 197, 3) := by decide +kernel
theorem dX9_gain_71 : decode cX9_gain 71 = .ok (.iload 4, 2) := by decide +kernel
theorem dX9_gain_73 : decode cX9_gain 73 = .ok (.invokestatic 229, 3) := by decide +kernel
theorem dX9_gain_76 : decode cX9_gain 76 = .ok (.ireturn, 1) := by decide +kernel
theorem dX9_best_0 : decode cX9_best 0 = .ok (.aload_n 0, 1) := by decide +kernel
theorem dX9_best_1 : decode cX9_best 1 = .ok (.iconst 0, 1) := by decide +kernel
theorem dX9_best_2 : decode cX9_best 2 = .ok (.putfield 44, 3) := by decide +kernel
theorem dX9_best_5 : decode cX9_best 5 = .ok (.aload_n 0, 1) := by decide +kernel
theorem dX9_best_6 : decode cX9_best 6 = .ok (.iload_n 1, 1) := by decide +kernel
theorem dX9_best_7 : decode cX9_best 7 = .ok (.invokevirtual 210, 3) := by decide +kernel
theorem dX9_best_10 : decode cX9_best 10 = .ok (.ifCond .eq 18, 3) := by decide +kernel
theorem dX9_best_13 : decode cX9_best 13 = .ok (.iload_n 2, 1) := by decide +kernel
theorem dX9_best_14 : decode cX9_best 14 = .ok (.invokestatic 58, 3) := by decide +kernel
theorem dX9_best_17 : decode cX9_best 17 = .ok (.ifCond .eq 11, 3) := by decide +kernel
theorem dX9_best_20 : decode cX9_best 20 = .ok (.aload_n 0, 1) := by decide +kernel
theorem dX9_best_21 : decode cX9_best 21 = .ok (.iload_n 3, 1) := by decide +kernel
theorem dX9_best_22 : decode cX9_best 22 = .ok (.invokevirtual 226, 3) := by decide +kernel
theorem dX9_best_25 : decode cX9_best 25 = .ok (.ifCond .ne 6, 3) := by decide +kernel
theorem dX9_best_28 : decode cX9_best 28 = .ok (.ldc 64, 2) := by decide +kernel
theorem dX9_best_30 : decode cX9_best 30 = .ok (.ireturn, 1) := by decide +kernel
theorem dX9_best_31 : decode cX9_best 31 = .ok (.aload_n 0, 1) := by decide +kernel
theorem dX9_best_32 : decode cX9_best 32 = .ok (.iload_n 2, 1) := by decide +kernel
theorem dX9_best_33 : decode cX9_best 33 = .ok (.invokevirtual 217, 3) := by decide +kernel
theorem dX9_best_36 : decode cX9_best 36 = .ok (.istore 4, 2) := by decide +kernel
theorem dX9_best_38 : decode cX9_best 38 = .ok (.iload 4, 2) := by decide +kernel
theorem dX9_best_40 : decode cX9_best 40 = .ok (.ifCond .ge 8, 3) := by decide +kernel
theorem dX9_best_43 : decode cX9_best 43 = .ok (.iload 4, 2) := by decide +kernel
theorem dX9_best_45 : decode cX9_best 45 = .ok (.goto 15, 3) := by decide +kernel
theorem dX9_best_48 : decode cX9_best 48 = .ok (.aload_n 0, 1) := by decide +kernel
theorem dX9_best_49 : decode cX9_best 49 = .ok (.aload_n 0, 1) := by decide +kernel
theorem dX9_best_50 : decode cX9_best 50 = .ok (.getfield 19, 3) := by decide +kernel
theorem dX9_best_53 : decode cX9_best 53 = .ok (.iconst 0, 1) := by decide +kernel
theorem dX9_best_54 : decode cX9_best 54 = .ok (.iaload, 1) := by decide +kernel
theorem dX9_best_55 : decode cX9_best 55 = .ok (.iload_n 1, 1) := by decide +kernel
theorem dX9_best_56 : decode cX9_best 56 = .ok (.iload_n 3, 1) := by decide +kernel
theorem dX9_best_57 : decode cX9_best 57 = .ok (.invokevirtual 200, 3) := by decide +kernel
theorem dX9_best_60 : decode cX9_best 60 = .ok (.ireturn, 1) := by decide +kernel
theorem dX9_layRow_0 : decode cX9_layRow 0 = .ok (.iload_n 1, 1) := by decide +kernel
theorem dX9_layRow_1 : decode cX9_layRow 1 = .ok (.istore_n 2, 1) := by decide +kernel
theorem dX9_layRow_2 : decode cX9_layRow 2 = .ok (.aload_n 0, 1) := by decide +kernel
theorem dX9_layRow_3 : decode cX9_layRow 3 = .ok (.getfield 19, 3) := by decide +kernel
theorem dX9_layRow_6 : decode cX9_layRow 6 = .ok (.iconst 2, 1) := by decide +kernel
theorem dX9_layRow_7 : decode cX9_layRow 7 = .ok (.iaload, 1) := by decide +kernel
theorem dX9_layRow_8 : decode cX9_layRow 8 = .ok (.iconst 1, 1) := by decide +kernel
theorem dX9_layRow_9 : decode cX9_layRow 9 = .ok (.isub, 1) := by decide +kernel
theorem dX9_layRow_10 : decode cX9_layRow 10 = .ok (.istore_n 3, 1) := by decide +kernel
theorem dX9_layRow_11 : decode cX9_layRow 11 = .ok (.iload_n 3, 1) := by decide +kernel
theorem dX9_layRow_12 : decode cX9_layRow 12 = .ok (.ifCond .lt 24, 3) := by decide +kernel
theorem dX9_layRow_15 : decode cX9_layRow 15 = .ok (.aload_n 0, 1) := by decide +kernel
theorem dX9_layRow_16 : decode cX9_layRow 16 = .ok (.getfield 31, 3) := by decide +kernel
theorem dX9_layRow_19 : decode cX9_layRow 19 = .ok (.iload_n 3, 1) := by decide +kernel
theorem dX9_layRow_20 : decode cX9_layRow 20 = .ok (.iload_n 2, 1) := by decide +kernel
theorem dX9_layRow_21 : decode cX9_layRow 21 = .ok (.bipush 6, 2) := by decide +kernel
theorem dX9_layRow_23 : decode cX9_layRow 23 = .ok (.irem, 1) := by decide +kernel
theorem dX9_layRow_24 : decode cX9_layRow 24 = .ok (.iastore, 1) := by decide +kernel
theorem dX9_layRow_25 : decode cX9_layRow 25 = .ok (.iload_n 2, 1) := by decide +kernel
theorem dX9_layRow_26 : decode cX9_layRow 26 = .ok (.bipush 6, 2) := by decide +kernel
theorem dX9_layRow_28 : decode cX9_layRow 28 = .ok (.idiv, 1) := by decide +kernel
theorem dX9_layRow_29 : decode cX9_layRow 29 = .ok (.istore_n 2, 1) := by decide +kernel
theorem dX9_layRow_30 : decode cX9_layRow 30 = .ok (.iinc 3 (-1), 3) := by decide +kernel
theorem dX9_layRow_33 : decode cX9_layRow 33 = .ok (.goto (-22), 3) := by decide +kernel
theorem dX9_layRow_36 : decode cX9_layRow 36 = .ok (.return_, 1) := by decide +kernel
theorem dX9_rests_0 : decode cX9_rests 0 = .ok (.aload_n 0, 1) := by decide +kernel
theorem dX9_rests_1 : decode cX9_rests 1 = .ok (.iconst 0, 1) := by decide +kernel
theorem dX9_rests_2 : decode cX9_rests 2 = .ok (.putfield 44, 3) := by decide +kernel
theorem dX9_rests_5 : decode cX9_rests 5 = .ok (.aload_n 0, 1) := by decide +kernel
theorem dX9_rests_6 : decode cX9_rests 6 = .ok (.iload_n 1, 1) := by decide +kernel
theorem dX9_rests_7 : decode cX9_rests 7 = .ok (.invokevirtual 210, 3) := by decide +kernel
theorem dX9_rests_10 : decode cX9_rests 10 = .ok (.ifCond .eq 23, 3) := by decide +kernel
theorem dX9_rests_13 : decode cX9_rests 13 = .ok (.iload_n 2, 1) := by decide +kernel
theorem dX9_rests_14 : decode cX9_rests 14 = .ok (.i2l, 1) := by decide +kernel
theorem dX9_rests_15 : decode cX9_rests 15 = .ok (.ldc2_w 232, 3) := by decide +kernel
theorem dX9_rests_18 : decode cX9_rests 18 = .ok (.aload_n 0, 1) := by decide +kernel
theorem dX9_rests_19 : decode cX9_rests 19 = .ok (.getfield 19, 3) := by decide +kernel
theorem dX9_rests_22 : decode cX9_rests 22 = .ok (.iconst 2, 1) := by decide +kernel
theorem dX9_rests_23 : decode cX9_rests 23 = .ok (.iaload, 1) := by decide +kernel
theorem dX9_rests_24 : decode cX9_rests 24 = .ok (.iconst 1, 1) := by decide +kernel
theorem dX9_rests_25 : decode cX9_rests 25 = .ok (.isub, 1) := by decide +kernel
theorem dX9_rests_26 : decode cX9_rests 26 = .ok (.i2l, 1) := by decide +kernel
theorem dX9_rests_27 : decode cX9_rests 27 = .ok (.invokestatic 54, 3) := by decide +kernel
theorem dX9_rests_30 : decode cX9_rests 30 = .ok (.ifCond .ne 6, 3) := by decide +kernel
theorem dX9_rests_33 : decode cX9_rests 33 = .ok (.ldc 64, 2) := by decide +kernel
theorem dX9_rests_35 : decode cX9_rests 35 = .ok (.ireturn, 1) := by decide +kernel
theorem dX9_rests_36 : decode cX9_rests 36 = .ok (.iconst 1, 1) := by decide +kernel
theorem dX9_rests_37 : decode cX9_rests 37 = .ok (.istore_n 3, 1) := by decide +kernel
theorem dX9_rests_38 : decode cX9_rests 38 = .ok (.iconst 0, 1) := by decide +kernel
theorem dX9_rests_39 : decode cX9_rests 39 = .ok (.istore 4, 2) := by decide +kernel
theorem dX9_rests_41 : decode cX9_rests 41 = .ok (.iload 4, 2) := by decide +kernel
theorem dX9_rests_43 : decode cX9_rests 43 = .ok (.aload_n 0, 1) := by decide +kernel
theorem dX9_rests_44 : decode cX9_rests 44 = .ok (.getfield 19, 3) := by decide +kernel
theorem dX9_rests_47 : decode cX9_rests 47 = .ok (.iconst 2, 1) := by decide +kernel
theorem dX9_rests_48 : decode cX9_rests 48 = .ok (.iaload, 1) := by decide +kernel
theorem dX9_rests_49 : decode cX9_rests 49 = .ok (.if_icmp .ge 14, 3) := by decide +kernel
theorem dX9_rests_52 : decode cX9_rests 52 = .ok (.iload_n 3, 1) := by decide +kernel
theorem dX9_rests_53 : decode cX9_rests 53 = .ok (.bipush 6, 2) := by decide +kernel
theorem dX9_rests_55 : decode cX9_rests 55 = .ok (.imul, 1) := by decide +kernel
theorem dX9_rests_56 : decode cX9_rests 56 = .ok (.istore_n 3, 1) := by decide +kernel
theorem dX9_rests_57 : decode cX9_rests 57 = .ok (.iinc 4 1, 3) := by decide +kernel
theorem dX9_rests_60 : decode cX9_rests 60 = .ok (.goto (-19), 3) := by decide +kernel
theorem dX9_rests_63 : decode cX9_rests 63 = .ok (.iconst 0, 1) := by decide +kernel
theorem dX9_rests_64 : decode cX9_rests 64 = .ok (.istore 4, 2) := by decide +kernel
theorem dX9_rests_66 : decode cX9_rests 66 = .ok (.ldc 80, 2) := by decide +kernel
theorem dX9_rests_68 : decode cX9_rests 68 = .ok (.istore 5, 2) := by decide +kernel
theorem dX9_rests_70 : decode cX9_rests 70 = .ok (.iconst 0, 1) := by decide +kernel
theorem dX9_rests_71 : decode cX9_rests 71 = .ok (.istore 6, 2) := by decide +kernel
theorem dX9_rests_73 : decode cX9_rests 73 = .ok (.iload 6, 2) := by decide +kernel
theorem dX9_rests_75 : decode cX9_rests 75 = .ok (.iload_n 3, 1) := by decide +kernel
theorem dX9_rests_76 : decode cX9_rests 76 = .ok (.if_icmp .ge 48, 3) := by decide +kernel
theorem dX9_rests_79 : decode cX9_rests 79 = .ok (.aload_n 0, 1) := by decide +kernel
theorem dX9_rests_80 : decode cX9_rests 80 = .ok (.iload 6, 2) := by decide +kernel
theorem dX9_rests_82 : decode cX9_rests 82 = .ok (.invokevirtual 234, 3) := by decide +kernel
theorem dX9_rests_85 : decode cX9_rests 85 = .ok (.aload_n 0, 1) := by decide +kernel
theorem dX9_rests_86 : decode cX9_rests 86 = .ok (.aload_n 0, 1) := by decide +kernel
theorem dX9_rests_87 : decode cX9_rests 87 = .ok (.getfield 19, 3) := by decide +kernel
theorem dX9_rests_90 : decode cX9_rests 90 = .ok (.iconst 0, 1) := by decide +kernel
theorem dX9_rests_91 : decode cX9_rests 91 = .ok (.iaload, 1) := by decide +kernel
theorem dX9_rests_92 : decode cX9_rests 92 = .ok (.iload_n 1, 1) := by decide +kernel
theorem dX9_rests_93 : decode cX9_rests 93 = .ok (.invokevirtual 237, 3) := by decide +kernel
theorem dX9_rests_96 : decode cX9_rests 96 = .ok (.ifCond .eq 22, 3) := by decide +kernel
theorem dX9_rests_99 : decode cX9_rests 99 = .ok (.iinc 4 1, 3) := by decide +kernel
theorem dX9_rests_102 : decode cX9_rests 102 = .ok (.iload 5, 2) := by decide +kernel
theorem dX9_rests_104 : decode cX9_rests 104 = .ok (.ldc 80, 2) := by decide +kernel
theorem dX9_rests_106 : decode cX9_rests 106 = .ok (.if_icmp .ne 8, 3) := by decide +kernel
theorem dX9_rests_109 : decode cX9_rests 109 = .ok (.iload 6, 2) := by decide +kernel
theorem dX9_rests_111 : decode cX9_rests 111 = .ok (.goto 5, 3) := by decide +kernel
theorem dX9_rests_114 : decode cX9_rests 114 = .ok (.iload 5, 2) := by decide +kernel
theorem dX9_rests_116 : decode cX9_rests 116 = .ok (.istore 5, 2) := by decide +kernel
theorem dX9_rests_118 : decode cX9_rests 118 = .ok (.iinc 6 1, 3) := by decide +kernel
theorem dX9_rests_121 : decode cX9_rests 121 = .ok (.goto (-48), 3) := by decide +kernel
theorem dX9_rests_124 : decode cX9_rests 124 = .ok (.iload_n 2, 1) := by decide +kernel
theorem dX9_rests_125 : decode cX9_rests 125 = .ok (.ifCond .lt 10, 3) := by decide +kernel
theorem dX9_rests_128 : decode cX9_rests 128 = .ok (.iload 5, 2) := by decide +kernel
theorem dX9_rests_130 : decode cX9_rests 130 = .ok (.ldc 80, 2) := by decide +kernel
theorem dX9_rests_132 : decode cX9_rests 132 = .ok (.if_icmp .ne 15, 3) := by decide +kernel
theorem dX9_rests_135 : decode cX9_rests 135 = .ok (.iload_n 2, 1) := by decide +kernel
theorem dX9_rests_136 : decode cX9_rests 136 = .ok (.ifCond .ge 8, 3) := by decide +kernel
theorem dX9_rests_139 : decode cX9_rests 139 = .ok (.iload 4, 2) := by decide +kernel
theorem dX9_rests_141 : decode cX9_rests 141 = .ok (.goto 5, 3) := by decide +kernel
theorem dX9_rests_144 : decode cX9_rests 144 = .ok (.ldc 80, 2) := by decide +kernel
theorem dX9_rests_146 : decode cX9_rests 146 = .ok (.ireturn, 1) := by decide +kernel
theorem dX9_rests_147 : decode cX9_rests 147 = .ok (.aload_n 0, 1) := by decide +kernel
theorem dX9_rests_148 : decode cX9_rests 148 = .ok (.iload 5, 2) := by decide +kernel
theorem dX9_rests_150 : decode cX9_rests 150 = .ok (.invokevirtual 234, 3) := by decide +kernel
theorem dX9_rests_153 : decode cX9_rests 153 = .ok (.aload_n 0, 1) := by decide +kernel
theorem dX9_rests_154 : decode cX9_rests 154 = .ok (.getfield 31, 3) := by decide +kernel
theorem dX9_rests_157 : decode cX9_rests 157 = .ok (.iload_n 2, 1) := by decide +kernel
theorem dX9_rests_158 : decode cX9_rests 158 = .ok (.iaload, 1) := by decide +kernel
theorem dX9_rests_159 : decode cX9_rests 159 = .ok (.ireturn, 1) := by decide +kernel
theorem dX9_rounds_0 : decode cX9_rounds 0 = .ok (.aload_n 0, 1) := by decide +kernel
theorem dX9_rounds_1 : decode cX9_rounds 1 = .ok (.iconst 0, 1) := by decide +kernel
theorem dX9_rounds_2 : decode cX9_rounds 2 = .ok (.putfield 44, 3) := by decide +kernel
theorem dX9_rounds_5 : decode cX9_rounds 5 = .ok (.aload_n 0, 1) := by decide +kernel
theorem dX9_rounds_6 : decode cX9_rounds 6 = .ok (.iload_n 1, 1) := by decide +kernel
theorem dX9_rounds_7 : decode cX9_rounds 7 = .ok (.invokevirtual 210, 3) := by decide +kernel
theorem dX9_rounds_10 : decode cX9_rounds 10 = .ok (.ifCond .eq 30, 3) := by decide +kernel
theorem dX9_rounds_13 : decode cX9_rounds 13 = .ok (.iload_n 2, 1) := by decide +kernel
theorem dX9_rounds_14 : decode cX9_rounds 14 = .ok (.invokestatic 58, 3) := by decide +kernel
theorem dX9_rounds_17 : decode cX9_rounds 17 = .ok (.ifCond .eq 23, 3) := by decide +kernel
theorem dX9_rounds_20 : decode cX9_rounds 20 = .ok (.iload_n 3, 1) := by decide +kernel
theorem dX9_rounds_21 : decode cX9_rounds 21 = .ok (.i2l, 1) := by decide +kernel
theorem dX9_rounds_22 : decode cX9_rounds 22 = .ok (.ldc2_w 232, 3) := by decide +kernel
theorem dX9_rounds_25 : decode cX9_rounds 25 = .ok (.aload_n 0, 1) := by decide +kernel
theorem dX9_rounds_26 : decode cX9_rounds 26 = .ok (.getfield 19, 3) := by decide +kernel
theorem dX9_rounds_29 : decode cX9_rounds 29 = .ok (.iconst 2, 1) := by decide +kernel
theorem dX9_rounds_30 : decode cX9_rounds 30 = .ok (.iaload, 1) := by decide +kernel
theorem dX9_rounds_31 : decode cX9_rounds 31 = .ok (.iconst 1, 1) := by decide +kernel
theorem dX9_rounds_32 : decode cX9_rounds 32 = .ok (.isub, 1) := by decide +kernel
theorem dX9_rounds_33 : decode cX9_rounds 33 = .ok (.i2l, 1) := by decide +kernel
theorem dX9_rounds_34 : decode cX9_rounds 34 = .ok (.invokestatic 54, 3) := by decide +kernel
theorem dX9_rounds_37 : decode cX9_rounds 37 = .ok (.ifCond .ne 6, 3) := by decide +kernel
theorem dX9_rounds_40 : decode cX9_rounds 40 = .ok (.ldc 64, 2) := by decide +kernel
theorem dX9_rounds_42 : decode cX9_rounds 42 = .ok (.ireturn, 1) := by decide +kernel
theorem dX9_rounds_43 : decode cX9_rounds 43 = .ok (.aload_n 0, 1) := by decide +kernel
theorem dX9_rounds_44 : decode cX9_rounds 44 = .ok (.iload_n 2, 1) := by decide +kernel
theorem dX9_rounds_45 : decode cX9_rounds 45 = .ok (.invokevirtual 217, 3) := by decide +kernel
theorem dX9_rounds_48 : decode cX9_rounds 48 = .ok (.istore 4, 2) := by decide +kernel
theorem dX9_rounds_50 : decode cX9_rounds 50 = .ok (.iload 4, 2) := by decide +kernel
theorem dX9_rounds_52 : decode cX9_rounds 52 = .ok (.ifCond .ge 6, 3) := by decide +kernel
theorem dX9_rounds_55 : decode cX9_rounds 55 = .ok (.iload 4, 2) := by decide +kernel
theorem dX9_rounds_57 : decode cX9_rounds 57 = .ok (.ireturn, 1) := by decide +kernel
theorem dX9_rounds_58 : decode cX9_rounds 58 = .ok (.ldc 80, 2) := by decide +kernel
theorem dX9_rounds_60 : decode cX9_rounds 60 = .ok (.istore 5, 2) := by decide +kernel
theorem dX9_rounds_62 : decode cX9_rounds 62 = .ok (.iconst 1, 1) := by decide +kernel
theorem dX9_rounds_63 : decode cX9_rounds 63 = .ok (.istore 6, 2) := by decide +kernel
theorem dX9_rounds_65 : decode cX9_rounds 65 = .ok (.iload 6, 2) := by decide +kernel
theorem dX9_rounds_67 : decode cX9_rounds 67 = .ok (.bipush 20, 2) := by decide +kernel
theorem dX9_rounds_69 : decode cX9_rounds 69 = .ok (.if_icmp .gt 101, 3) := by decide +kernel
theorem dX9_rounds_72 : decode cX9_rounds 72 = .ok (.iload 5, 2) := by decide +kernel
theorem dX9_rounds_74 : decode cX9_rounds 74 = .ok (.ldc 80, 2) := by decide +kernel
theorem dX9_rounds_76 : decode cX9_rounds 76 = .ok (.if_icmp .ne 94, 3) := by decide +kernel
theorem dX9_rounds_79 : decode cX9_rounds 79 = .ok (.iconst 1, 1) := by decide +kernel
theorem dX9_rounds_80 : decode cX9_rounds 80 = .ok (.istore 7, 2) := by decide +kernel
theorem dX9_rounds_82 : decode cX9_rounds 82 = .ok (.iconst 0, 1) := by decide +kernel
theorem dX9_rounds_83 : decode cX9_rounds 83 = .ok (.istore 8, 2) := by decide +kernel
theorem dX9_rounds_85 : decode cX9_rounds 85 = .ok (.iload 8, 2) := by decide +kernel
theorem dX9_rounds_87 : decode cX9_rounds 87 = .ok (.aload_n 0, 1) := by decide +kernel
theorem dX9_rounds_88 : decode cX9_rounds 88 = .ok (.getfield 19, 3) := by decide +kernel
theorem dX9_rounds_91 : decode cX9_rounds 91 = .ok (.iconst 2, 1) := by decide +kernel
theorem dX9_rounds_92 : decode cX9_rounds 92 = .ok (.iaload, 1) := by decide +kernel
theorem dX9_rounds_93 : decode cX9_rounds 93 = .ok (.if_icmp .ge 57, 3) := by decide +kernel
theorem dX9_rounds_96 : decode cX9_rounds 96 = .ok (.aload_n 0, 1) := by decide +kernel
theorem dX9_rounds_97 : decode cX9_rounds 97 = .ok (.aload_n 0, 1) := by decide +kernel
theorem dX9_rounds_98 : decode cX9_rounds 98 = .ok (.getfield 19, 3) := by decide +kernel
theorem dX9_rounds_101 : decode cX9_rounds 101 = .ok (.iconst 0, 1) := by decide +kernel
theorem dX9_rounds_102 : decode cX9_rounds 102 = .ok (.iaload, 1) := by decide +kernel
theorem dX9_rounds_103 : decode cX9_rounds 103 = .ok (.iload_n 1, 1) := by decide +kernel
theorem dX9_rounds_104 : decode cX9_rounds 104 = .ok (.iload 8, 2) := by decide +kernel
theorem dX9_rounds_106 : decode cX9_rounds 106 = .ok (.invokevirtual 200, 3) := by decide +kernel
theorem dX9_rounds_109 : decode cX9_rounds 109 = .ok (.istore 9, 2) := by decide +kernel
theorem dX9_rounds_111 : decode cX9_rounds 111 = .ok (.iload 7, 2) := by decide +kernel
theorem dX9_rounds_113 : decode cX9_rounds 113 = .ok (.ifCond .eq 19, 3) := by decide +kernel
theorem dX9_rounds_116 : decode cX9_rounds 116 = .ok (.iload 9, 2) := by decide +kernel
theorem dX9_rounds_118 : decode cX9_rounds 118 = .ok (.aload_n 0, 1) := by decide +kernel
theorem dX9_rounds_119 : decode cX9_rounds 119 = .ok (.getfield 31, 3) := by decide +kernel
theorem dX9_rounds_122 : decode cX9_rounds 122 = .ok (.iload 8, 2) := by decide +kernel
theorem dX9_rounds_124 : decode cX9_rounds 124 = .ok (.iaload, 1) := by decide +kernel
theorem dX9_rounds_125 : decode cX9_rounds 125 = .ok (.if_icmp .ne 7, 3) := by decide +kernel
theorem dX9_rounds_128 : decode cX9_rounds 128 = .ok (.iconst 1, 1) := by decide +kernel
theorem dX9_rounds_129 : decode cX9_rounds 129 = .ok (.goto 4, 3) := by decide +kernel
theorem dX9_rounds_132 : decode cX9_rounds 132 = .ok (.iconst 0, 1) := by decide +kernel
theorem dX9_rounds_133 : decode cX9_rounds 133 = .ok (.istore 7, 2) := by decide +kernel
theorem dX9_rounds_135 : decode cX9_rounds 135 = .ok (.aload_n 0, 1) := by decide +kernel
theorem dX9_rounds_136 : decode cX9_rounds 136 = .ok (.getfield 31, 3) := by decide +kernel
theorem dX9_rounds_139 : decode cX9_rounds 139 = .ok (.iload 8, 2) := by decide +kernel
theorem dX9_rounds_141 : decode cX9_rounds 141 = .ok (.iload 9, 2) := by decide +kernel
theorem dX9_rounds_143 : decode cX9_rounds 143 = .ok (.iastore, 1) := by decide +kernel
theorem dX9_rounds_144 : decode cX9_rounds 144 = .ok (.iinc 8 1, 3) := by decide +kernel
theorem dX9_rounds_147 : decode cX9_rounds 147 = .ok (.goto (-62), 3) := by decide +kernel
theorem dX9_rounds_150 : decode cX9_rounds 150 = .ok (.iload 7, 2) := by decide +kernel
theorem dX9_rounds_152 : decode cX9_rounds 152 = .ok (.ifCond .eq 8, 3) := by decide +kernel
theorem dX9_rounds_155 : decode cX9_rounds 155 = .ok (.iload 6, 2) := by decide +kernel
theorem dX9_rounds_157 : decode cX9_rounds 157 = .ok (.goto 5, 3) := by decide +kernel
theorem dX9_rounds_160 : decode cX9_rounds 160 = .ok (.ldc 80, 2) := by decide +kernel
theorem dX9_rounds_162 : decode cX9_rounds 162 = .ok (.istore 5, 2) := by decide +kernel
theorem dX9_rounds_164 : decode cX9_rounds 164 = .ok (.iinc 6 1, 3) := by decide +kernel
theorem dX9_rounds_167 : decode cX9_rounds 167 = .ok (.goto (-102), 3) := by decide +kernel
theorem dX9_rounds_170 : decode cX9_rounds 170 = .ok (.iload_n 3, 1) := by decide +kernel
theorem dX9_rounds_171 : decode cX9_rounds 171 = .ok (.ifCond .ge 8, 3) := by decide +kernel
theorem dX9_rounds_174 : decode cX9_rounds 174 = .ok (.iload 5, 2) := by decide +kernel
theorem dX9_rounds_176 : decode cX9_rounds 176 = .ok (.goto 9, 3) := by decide +kernel
theorem dX9_rounds_179 : decode cX9_rounds 179 = .ok (.aload_n 0, 1) := by decide +kernel
theorem dX9_rounds_180 : decode cX9_rounds 180 = .ok (.getfield 31, 3) := by decide +kernel
theorem dX9_rounds_183 : decode cX9_rounds 183 = .ok (.iload_n 3, 1) := by decide +kernel
theorem dX9_rounds_184 : decode cX9_rounds 184 = .ok (.iaload, 1) := by decide +kernel
theorem dX9_rounds_185 : decode cX9_rounds 185 = .ok (.ireturn, 1) := by decide +kernel
theorem dX9_extreme_0 : decode cX9_extreme 0 = .ok (.iconst 0, 1) := by decide +kernel
theorem dX9_extreme_1 : decode cX9_extreme 1 = .ok (.istore_n 3, 1) := by decide +kernel
theorem dX9_extreme_2 : decode cX9_extreme 2 = .ok (.iconst 1, 1) := by decide +kernel
theorem dX9_extreme_3 : decode cX9_extreme 3 = .ok (.istore 4, 2) := by decide +kernel
theorem dX9_extreme_5 : decode cX9_extreme 5 = .ok (.iload 4, 2) := by decide +kernel
theorem dX9_extreme_7 : decode cX9_extreme 7 = .ok (.aload_n 0, 1) := by decide +kernel
theorem dX9_extreme_8 : decode cX9_extreme 8 = .ok (.getfield 19, 3) := by decide +kernel
theorem dX9_extreme_11 : decode cX9_extreme 11 = .ok (.iconst 2, 1) := by decide +kernel
theorem dX9_extreme_12 : decode cX9_extreme 12 = .ok (.iaload, 1) := by decide +kernel
theorem dX9_extreme_13 : decode cX9_extreme 13 = .ok (.if_icmp .ge 36, 3) := by decide +kernel
theorem dX9_extreme_16 : decode cX9_extreme 16 = .ok (.iload_n 2, 1) := by decide +kernel
theorem dX9_extreme_17 : decode cX9_extreme 17 = .ok (.aload_n 0, 1) := by decide +kernel
theorem dX9_extreme_18 : decode cX9_extreme 18 = .ok (.iload_n 1, 1) := by decide +kernel
theorem dX9_extreme_19 : decode cX9_extreme 19 = .ok (.iload 4, 2) := by decide +kernel
theorem dX9_extreme_21 : decode cX9_extreme 21 = .ok (.invokevirtual 179, 3) := by decide +kernel
theorem dX9_extreme_24 : decode cX9_extreme 24 = .ok (.imul, 1) := by decide +kernel
theorem dX9_extreme_25 : decode cX9_extreme 25 = .ok (.iload_n 2, 1) := by decide +kernel
theorem dX9_extreme_26 : decode cX9_extreme 26 = .ok (.aload_n 0, 1) := by decide +kernel
theorem dX9_extreme_27 : decode cX9_extreme 27 = .ok (.iload_n 1, 1) := by decide +kernel
theorem dX9_extreme_28 : decode cX9_extreme 28 = .ok (.iload_n 3, 1) := by decide +kernel
theorem dX9_extreme_29 : decode cX9_extreme 29 = .ok (.invokevirtual 179, 3) := by decide +kernel
theorem dX9_extreme_32 : decode cX9_extreme 32 = .ok (.imul, 1) := by decide +kernel
theorem dX9_extreme_33 : decode cX9_extreme 33 = .ok (.if_icmp .ge 8, 3) := by decide +kernel
theorem dX9_extreme_36 : decode cX9_extreme 36 = .ok (.iload 4, 2) := by decide +kernel
theorem dX9_extreme_38 : decode cX9_extreme 38 = .ok (.goto 4, 3) := by decide +kernel
theorem dX9_extreme_41 : decode cX9_extreme 41 = .ok (.iload_n 3, 1) := by decide +kernel
theorem dX9_extreme_42 : decode cX9_extreme 42 = .ok (.istore_n 3, 1) := by decide +kernel
theorem dX9_extreme_43 : decode cX9_extreme 43 = .ok (.iinc 4 1, 3) := by decide +kernel
theorem dX9_extreme_46 : decode cX9_extreme 46 = .ok (.goto (-41), 3) := by decide +kernel
theorem dX9_extreme_49 : decode cX9_extreme 49 = .ok (.iload_n 3, 1) := by decide +kernel
theorem dX9_extreme_50 : decode cX9_extreme 50 = .ok (.ireturn, 1) := by decide +kernel
theorem dX9_least_0 : decode cX9_least 0 = .ok (.aload_n 0, 1) := by decide +kernel
theorem dX9_least_1 : decode cX9_least 1 = .ok (.iconst 0, 1) := by decide +kernel
theorem dX9_least_2 : decode cX9_least 2 = .ok (.putfield 44, 3) := by decide +kernel
theorem dX9_least_5 : decode cX9_least 5 = .ok (.aload_n 0, 1) := by decide +kernel
theorem dX9_least_6 : decode cX9_least 6 = .ok (.iload_n 1, 1) := by decide +kernel
theorem dX9_least_7 : decode cX9_least 7 = .ok (.invokevirtual 210, 3) := by decide +kernel
theorem dX9_least_10 : decode cX9_least 10 = .ok (.ifCond .eq 13, 3) := by decide +kernel
theorem dX9_least_13 : decode cX9_least 13 = .ok (.iload_n 2, 1) := by decide +kernel
theorem dX9_least_14 : decode cX9_least 14 = .ok (.i2l, 1) := by decide +kernel
theorem dX9_least_15 : decode cX9_least 15 = .ok (.lconst 0, 1) := by decide +kernel
theorem dX9_least_16 : decode cX9_least 16 = .ok (.lconst 1, 1) := by decide +kernel
theorem dX9_least_17 : decode cX9_least 17 = .ok (.invokestatic 54, 3) := by decide +kernel
theorem dX9_least_20 : decode cX9_least 20 = .ok (.ifCond .ne 6, 3) := by decide +kernel
theorem dX9_least_23 : decode cX9_least 23 = .ok (.ldc 64, 2) := by decide +kernel
theorem dX9_least_25 : decode cX9_least 25 = .ok (.ireturn, 1) := by decide +kernel
theorem dX9_least_26 : decode cX9_least 26 = .ok (.aload_n 0, 1) := by decide +kernel
theorem dX9_least_27 : decode cX9_least 27 = .ok (.iload_n 1, 1) := by decide +kernel
theorem dX9_least_28 : decode cX9_least 28 = .ok (.iload_n 2, 1) := by decide +kernel
theorem dX9_least_29 : decode cX9_least 29 = .ok (.ifCond .ne 7, 3) := by decide +kernel
theorem dX9_least_32 : decode cX9_least 32 = .ok (.iconst 1, 1) := by decide +kernel
theorem dX9_least_33 : decode cX9_least 33 = .ok (.goto 4, 3) := by decide +kernel
theorem dX9_least_36 : decode cX9_least 36 = .ok (.iconst (-1), 1) := by decide +kernel
theorem dX9_least_37 : decode cX9_least 37 = .ok (.invokevirtual 241, 3) := by decide +kernel
theorem dX9_least_40 : decode cX9_least 40 = .ok (.ireturn, 1) := by decide +kernel
theorem dX9_lost_0 : decode cX9_lost 0 = .ok (.aload_n 0, 1) := by decide +kernel
theorem dX9_lost_1 : decode cX9_lost 1 = .ok (.iconst 0, 1) := by decide +kernel
theorem dX9_lost_2 : decode cX9_lost 2 = .ok (.putfield 44, 3) := by decide +kernel
theorem dX9_lost_5 : decode cX9_lost 5 = .ok (.aload_n 0, 1) := by decide +kernel
theorem dX9_lost_6 : decode cX9_lost 6 = .ok (.iload_n 1, 1) := by decide +kernel
theorem dX9_lost_7 : decode cX9_lost 7 = .ok (.invokevirtual 210, 3) := by decide +kernel
theorem dX9_lost_10 : decode cX9_lost 10 = .ok (.ifCond .eq 20, 3) := by decide +kernel
theorem dX9_lost_13 : decode cX9_lost 13 = .ok (.iload_n 2, 1) := by decide +kernel
theorem dX9_lost_14 : decode cX9_lost 14 = .ok (.invokestatic 58, 3) := by decide +kernel
theorem dX9_lost_17 : decode cX9_lost 17 = .ok (.ifCond .eq 13, 3) := by decide +kernel
theorem dX9_lost_20 : decode cX9_lost 20 = .ok (.iload_n 3, 1) := by decide +kernel
theorem dX9_lost_21 : decode cX9_lost 21 = .ok (.i2l, 1) := by decide +kernel
theorem dX9_lost_22 : decode cX9_lost 22 = .ok (.lconst 0, 1) := by decide +kernel
theorem dX9_lost_23 : decode cX9_lost 23 = .ok (.lconst 1, 1) := by decide +kernel
theorem dX9_lost_24 : decode cX9_lost 24 = .ok (.invokestatic 54, 3) := by decide +kernel
theorem dX9_lost_27 : decode cX9_lost 27 = .ok (.ifCond .ne 6, 3) := by decide +kernel
theorem dX9_lost_30 : decode cX9_lost 30 = .ok (.ldc 64, 2) := by decide +kernel
theorem dX9_lost_32 : decode cX9_lost 32 = .ok (.ireturn, 1) := by decide +kernel
theorem dX9_lost_33 : decode cX9_lost 33 = .ok (.aload_n 0, 1) := by decide +kernel
theorem dX9_lost_34 : decode cX9_lost 34 = .ok (.iload_n 2, 1) := by decide +kernel
theorem dX9_lost_35 : decode cX9_lost 35 = .ok (.invokevirtual 217, 3) := by decide +kernel
theorem dX9_lost_38 : decode cX9_lost 38 = .ok (.istore 4, 2) := by decide +kernel
theorem dX9_lost_40 : decode cX9_lost 40 = .ok (.iload 4, 2) := by decide +kernel
theorem dX9_lost_42 : decode cX9_lost 42 = .ok (.ifCond .ge 6, 3) := by decide +kernel
theorem dX9_lost_45 : decode cX9_lost 45 = .ok (.iload 4, 2) := by decide +kernel
theorem dX9_lost_47 : decode cX9_lost 47 = .ok (.ireturn, 1) := by decide +kernel
theorem dX9_lost_48 : decode cX9_lost 48 = .ok (.aload_n 0, 1) := by decide +kernel
theorem dX9_lost_49 : decode cX9_lost 49 = .ok (.ldc 80, 2) := by decide +kernel
theorem dX9_lost_51 : decode cX9_lost 51 = .ok (.invokevirtual 187, 3) := by decide +kernel
theorem dX9_lost_54 : decode cX9_lost 54 = .ok (.istore 5, 2) := by decide +kernel
theorem dX9_lost_56 : decode cX9_lost 56 = .ok (.iconst 0, 1) := by decide +kernel
theorem dX9_lost_57 : decode cX9_lost 57 = .ok (.istore 6, 2) := by decide +kernel
theorem dX9_lost_59 : decode cX9_lost 59 = .ok (.iconst 0, 1) := by decide +kernel
theorem dX9_lost_60 : decode cX9_lost 60 = .ok (.istore 7, 2) := by decide +kernel
theorem dX9_lost_62 : decode cX9_lost 62 = .ok (.iload 7, 2) := by decide +kernel
theorem dX9_lost_64 : decode cX9_lost 64 = .ok (.aload_n 0, 1) := by decide +kernel
theorem dX9_lost_65 : decode cX9_lost 65 = .ok (.getfield 19, 3) := by decide +kernel
theorem dX9_lost_68 : decode cX9_lost 68 = .ok (.iconst 2, 1) := by decide +kernel
theorem dX9_lost_69 : decode cX9_lost 69 = .ok (.iaload, 1) := by decide +kernel
theorem dX9_lost_70 : decode cX9_lost 70 = .ok (.if_icmp .ge 37, 3) := by decide +kernel
theorem dX9_lost_73 : decode cX9_lost 73 = .ok (.iload 6, 2) := by decide +kernel
theorem dX9_lost_75 : decode cX9_lost 75 = .ok (.aload_n 0, 1) := by decide +kernel
theorem dX9_lost_76 : decode cX9_lost 76 = .ok (.getfield 31, 3) := by decide +kernel
theorem dX9_lost_79 : decode cX9_lost 79 = .ok (.iload 7, 2) := by decide +kernel
theorem dX9_lost_81 : decode cX9_lost 81 = .ok (.iaload, 1) := by decide +kernel
theorem dX9_lost_82 : decode cX9_lost 82 = .ok (.iload 5, 2) := by decide +kernel
theorem dX9_lost_84 : decode cX9_lost 84 = .ok (.if_icmp .ne 13, 3) := by decide +kernel
theorem dX9_lost_87 : decode cX9_lost 87 = .ok (.aload_n 0, 1) := by decide +kernel
theorem dX9_lost_88 : decode cX9_lost 88 = .ok (.iload_n 1, 1) := by decide +kernel
theorem dX9_lost_89 : decode cX9_lost 89 = .ok (.iload 7, 2) := by decide +kernel
theorem dX9_lost_91 : decode cX9_lost 91 = .ok (.invokevirtual 179, 3) := by decide +kernel
theorem dX9_lost_94 : decode cX9_lost 94 = .ok (.goto 4, 3) := by decide +kernel
theorem dX9_lost_97 : decode cX9_lost 97 = .ok (.iconst 0, 1) := by decide +kernel
theorem dX9_lost_98 : decode cX9_lost 98 = .ok (.iadd, 1) := by decide +kernel
theorem dX9_lost_99 : decode cX9_lost 99 = .ok (.istore 6, 2) := by decide +kernel
theorem dX9_lost_101 : decode cX9_lost 101 = .ok (.iinc 7 1, 3) := by decide +kernel
theorem dX9_lost_104 : decode cX9_lost 104 = .ok (.goto (-42), 3) := by decide +kernel
theorem dX9_lost_107 : decode cX9_lost 107 = .ok (.bipush 12, 2) := by decide +kernel
theorem dX9_lost_109 : decode cX9_lost 109 = .ok (.aload_n 0, 1) := by decide +kernel
theorem dX9_lost_110 : decode cX9_lost 110 = .ok (.iload_n 1, 1) := by decide +kernel
theorem dX9_lost_111 : decode cX9_lost 111 = .ok (.aload_n 0, 1) := by decide +kernel
theorem dX9_lost_112 : decode cX9_lost 112 = .ok (.iload_n 1, 1) := by decide +kernel
theorem dX9_lost_113 : decode cX9_lost 113 = .ok (.iconst (-1), 1) := by decide +kernel
theorem dX9_lost_114 : decode cX9_lost 114 = .ok (.invokevirtual 241, 3) := by decide +kernel
theorem dX9_lost_117 : decode cX9_lost 117 = .ok (.invokevirtual 179, 3) := by decide +kernel
theorem dX9_lost_120 : decode cX9_lost 120 = .ok (.imul, 1) := by decide +kernel
theorem dX9_lost_121 : decode cX9_lost 121 = .ok (.iload 6, 2) := by decide +kernel
theorem dX9_lost_123 : decode cX9_lost 123 = .ok (.bipush 12, 2) := by decide +kernel
theorem dX9_lost_125 : decode cX9_lost 125 = .ok (.aload_n 0, 1) := by decide +kernel
theorem dX9_lost_126 : decode cX9_lost 126 = .ok (.invokevirtual 194, 3) := by decide +kernel
theorem dX9_lost_129 : decode cX9_lost 129 = .ok (.idiv, 1) := by decide +kernel
theorem dX9_lost_130 : decode cX9_lost 130 = .ok (.imul, 1) := by decide +kernel
theorem dX9_lost_131 : decode cX9_lost 131 = .ok (.isub, 1) := by decide +kernel
theorem dX9_lost_132 : decode cX9_lost 132 = .ok (.iload_n 3, 1) := by decide +kernel
theorem dX9_lost_133 : decode cX9_lost 133 = .ok (.invokestatic 229, 3) := by decide +kernel
theorem dX9_lost_136 : decode cX9_lost 136 = .ok (.ireturn, 1) := by decide +kernel
theorem dX9_honest_0 : decode cX9_honest 0 = .ok (.aload_n 0, 1) := by decide +kernel
theorem dX9_honest_1 : decode cX9_honest 1 = .ok (.iconst 0, 1) := by decide +kernel
theorem dX9_honest_2 : decode cX9_honest 2 = .ok (.putfield 44, 3) := by decide +kernel
theorem dX9_honest_5 : decode cX9_honest 5 = .ok (.aload_n 0, 1) := by decide +kernel
theorem dX9_honest_6 : decode cX9_honest 6 = .ok (.iload_n 1, 1) := by decide +kernel
theorem dX9_honest_7 : decode cX9_honest 7 = .ok (.invokevirtual 210, 3) := by decide +kernel
theorem dX9_honest_10 : decode cX9_honest 10 = .ok (.ifCond .eq 13, 3) := by decide +kernel
theorem dX9_honest_13 : decode cX9_honest 13 = .ok (.iload_n 2, 1) := by decide +kernel
theorem dX9_honest_14 : decode cX9_honest 14 = .ok (.i2l, 1) := by decide +kernel
theorem dX9_honest_15 : decode cX9_honest 15 = .ok (.lconst 0, 1) := by decide +kernel
theorem dX9_honest_16 : decode cX9_honest 16 = .ok (.lconst 1, 1) := by decide +kernel
theorem dX9_honest_17 : decode cX9_honest 17 = .ok (.invokestatic 54, 3) := by decide +kernel
theorem dX9_honest_20 : decode cX9_honest 20 = .ok (.ifCond .ne 6, 3) := by decide +kernel
theorem dX9_honest_23 : decode cX9_honest 23 = .ok (.ldc 64, 2) := by decide +kernel
theorem dX9_honest_25 : decode cX9_honest 25 = .ok (.ireturn, 1) := by decide +kernel
theorem dX9_honest_26 : decode cX9_honest 26 = .ok (.aload_n 0, 1) := by decide +kernel
theorem dX9_honest_27 : decode cX9_honest 27 = .ok (.iload_n 1, 1) := by decide +kernel
theorem dX9_honest_28 : decode cX9_honest 28 = .ok (.invokevirtual 223, 3) := by decide +kernel
theorem dX9_honest_31 : decode cX9_honest 31 = .ok (.iload_n 2, 1) := by decide +kernel
theorem dX9_honest_32 : decode cX9_honest 32 = .ok (.ifCond .ne 23, 3) := by decide +kernel
theorem dX9_honest_35 : decode cX9_honest 35 = .ok (.aload_n 0, 1) := by decide +kernel
theorem dX9_honest_36 : decode cX9_honest 36 = .ok (.aload_n 0, 1) := by decide +kernel
theorem dX9_honest_37 : decode cX9_honest 37 = .ok (.getfield 19, 3) := by decide +kernel
theorem dX9_honest_40 : decode cX9_honest 40 = .ok (.iconst 0, 1) := by decide +kernel
theorem dX9_honest_41 : decode cX9_honest 41 = .ok (.iaload, 1) := by decide +kernel
theorem dX9_honest_42 : decode cX9_honest 42 = .ok (.iload_n 1, 1) := by decide +kernel
theorem dX9_honest_43 : decode cX9_honest 43 = .ok (.invokevirtual 237, 3) := by decide +kernel
theorem dX9_honest_46 : decode cX9_honest 46 = .ok (.ifCond .eq 7, 3) := by decide +kernel
theorem dX9_honest_49 : decode cX9_honest 49 = .ok (.iconst 1, 1) := by decide +kernel
theorem dX9_honest_50 : decode cX9_honest 50 = .ok (.goto 4, 3) := by decide +kernel
theorem dX9_honest_53 : decode cX9_honest 53 = .ok (.iconst 0, 1) := by decide +kernel
theorem dX9_honest_54 : decode cX9_honest 54 = .ok (.ireturn, 1) := by decide +kernel
theorem dX9_honest_55 : decode cX9_honest 55 = .ok (.iconst 0, 1) := by decide +kernel
theorem dX9_honest_56 : decode cX9_honest 56 = .ok (.istore_n 3, 1) := by decide +kernel
theorem dX9_honest_57 : decode cX9_honest 57 = .ok (.iconst 0, 1) := by decide +kernel
theorem dX9_honest_58 : decode cX9_honest 58 = .ok (.istore 4, 2) := by decide +kernel
theorem dX9_honest_60 : decode cX9_honest 60 = .ok (.iload 4, 2) := by decide +kernel
theorem dX9_honest_62 : decode cX9_honest 62 = .ok (.iconst 4, 1) := by decide +kernel
theorem dX9_honest_63 : decode cX9_honest 63 = .ok (.if_icmp .ge 30, 3) := by decide +kernel
theorem dX9_honest_66 : decode cX9_honest 66 = .ok (.iload_n 3, 1) := by decide +kernel
theorem dX9_honest_67 : decode cX9_honest 67 = .ok (.aload_n 0, 1) := by decide +kernel
theorem dX9_honest_68 : decode cX9_honest 68 = .ok (.iload 4, 2) := by decide +kernel
theorem dX9_honest_70 : decode cX9_honest 70 = .ok (.iload_n 1, 1) := by decide +kernel
theorem dX9_honest_71 : decode cX9_honest 71 = .ok (.invokevirtual 237, 3) := by decide +kernel
theorem dX9_honest_74 : decode cX9_honest 74 = .ok (.ifCond .eq 10, 3) := by decide +kernel
theorem dX9_honest_77 : decode cX9_honest 77 = .ok (.iconst 1, 1) := by decide +kernel
theorem dX9_honest_78 : decode cX9_honest 78 = .ok (.iload 4, 2) := by decide +kernel
theorem dX9_honest_80 : decode cX9_honest 80 = .ok (.ishl, 1) := by decide +kernel
theorem dX9_honest_81 : decode cX9_honest 81 = .ok (.goto 4, 3) := by decide +kernel
theorem dX9_honest_84 : decode cX9_honest 84 = .ok (.iconst 0, 1) := by decide +kernel
theorem dX9_honest_85 : decode cX9_honest 85 = .ok (.ior, 1) := by decide +kernel
theorem dX9_honest_86 : decode cX9_honest 86 = .ok (.istore_n 3, 1) := by decide +kernel
theorem dX9_honest_87 : decode cX9_honest 87 = .ok (.iinc 4 1, 3) := by decide +kernel
theorem dX9_honest_90 : decode cX9_honest 90 = .ok (.goto (-30), 3) := by decide +kernel
theorem dX9_honest_93 : decode cX9_honest 93 = .ok (.iload_n 3, 1) := by decide +kernel
theorem dX9_honest_94 : decode cX9_honest 94 = .ok (.ireturn, 1) := by decide +kernel
theorem dX9_ore_0 : decode cX9_ore 0 = .ok (.aload_n 0, 1) := by decide +kernel
theorem dX9_ore_1 : decode cX9_ore 1 = .ok (.iconst 0, 1) := by decide +kernel
theorem dX9_ore_2 : decode cX9_ore 2 = .ok (.putfield 44, 3) := by decide +kernel
theorem dX9_ore_5 : decode cX9_ore 5 = .ok (.aload_n 0, 1) := by decide +kernel
theorem dX9_ore_6 : decode cX9_ore 6 = .ok (.iload_n 1, 1) := by decide +kernel
theorem dX9_ore_7 : decode cX9_ore 7 = .ok (.invokevirtual 210, 3) := by decide +kernel
theorem dX9_ore_10 : decode cX9_ore 10 = .ok (.ifCond .eq 10, 3) := by decide +kernel
theorem dX9_ore_13 : decode cX9_ore 13 = .ok (.iload_n 2, 1) := by decide +kernel
theorem dX9_ore_14 : decode cX9_ore 14 = .ok (.invokestatic 58, 3) := by decide +kernel
theorem dX9_ore_17 : decode cX9_ore 17 = .ok (.ifCond .ne 6, 3) := by decide +kernel
theorem dX9_ore_20 : decode cX9_ore 20 = .ok (.ldc 64, 2) := by decide +kernel
theorem dX9_ore_22 : decode cX9_ore 22 = .ok (.ireturn, 1) := by decide +kernel
theorem dX9_ore_23 : decode cX9_ore 23 = .ok (.aload_n 0, 1) := by decide +kernel
theorem dX9_ore_24 : decode cX9_ore 24 = .ok (.iload_n 2, 1) := by decide +kernel
theorem dX9_ore_25 : decode cX9_ore 25 = .ok (.invokevirtual 217, 3) := by decide +kernel
theorem dX9_ore_28 : decode cX9_ore 28 = .ok (.istore_n 3, 1) := by decide +kernel
theorem dX9_ore_29 : decode cX9_ore 29 = .ok (.iload_n 3, 1) := by decide +kernel
theorem dX9_ore_30 : decode cX9_ore 30 = .ok (.ifCond .ge 5, 3) := by decide +kernel
theorem dX9_ore_33 : decode cX9_ore 33 = .ok (.iload_n 3, 1) := by decide +kernel
theorem dX9_ore_34 : decode cX9_ore 34 = .ok (.ireturn, 1) := by decide +kernel
theorem dX9_ore_35 : decode cX9_ore 35 = .ok (.iconst 0, 1) := by decide +kernel
theorem dX9_ore_36 : decode cX9_ore 36 = .ok (.istore 4, 2) := by decide +kernel
theorem dX9_ore_38 : decode cX9_ore 38 = .ok (.iconst 0, 1) := by decide +kernel
theorem dX9_ore_39 : decode cX9_ore 39 = .ok (.istore 5, 2) := by decide +kernel
theorem dX9_ore_41 : decode cX9_ore 41 = .ok (.iload 5, 2) := by decide +kernel
theorem dX9_ore_43 : decode cX9_ore 43 = .ok (.aload_n 0, 1) := by decide +kernel
theorem dX9_ore_44 : decode cX9_ore 44 = .ok (.getfield 19, 3) := by decide +kernel
theorem dX9_ore_47 : decode cX9_ore 47 = .ok (.iconst 2, 1) := by decide +kernel
theorem dX9_ore_48 : decode cX9_ore 48 = .ok (.iaload, 1) := by decide +kernel
theorem dX9_ore_49 : decode cX9_ore 49 = .ok (.if_icmp .ge 39, 3) := by decide +kernel
theorem dX9_ore_52 : decode cX9_ore 52 = .ok (.iload 4, 2) := by decide +kernel
theorem dX9_ore_54 : decode cX9_ore 54 = .ok (.aload_n 0, 1) := by decide +kernel
theorem dX9_ore_55 : decode cX9_ore 55 = .ok (.getfield 31, 3) := by decide +kernel
theorem dX9_ore_58 : decode cX9_ore 58 = .ok (.iload 5, 2) := by decide +kernel
theorem dX9_ore_60 : decode cX9_ore 60 = .ok (.iaload, 1) := by decide +kernel
theorem dX9_ore_61 : decode cX9_ore 61 = .ok (.aload_n 0, 1) := by decide +kernel
theorem dX9_ore_62 : decode cX9_ore 62 = .ok (.iload_n 1, 1) := by decide +kernel
theorem dX9_ore_63 : decode cX9_ore 63 = .ok (.iload 5, 2) := by decide +kernel
theorem dX9_ore_65 : decode cX9_ore 65 = .ok (.invokevirtual 182, 3) := by decide +kernel
theorem dX9_ore_68 : decode cX9_ore 68 = .ok (.if_icmp .ge 10, 3) := by decide +kernel
theorem dX9_ore_71 : decode cX9_ore 71 = .ok (.iconst 1, 1) := by decide +kernel
theorem dX9_ore_72 : decode cX9_ore 72 = .ok (.iload 5, 2) := by decide +kernel
theorem dX9_ore_74 : decode cX9_ore 74 = .ok (.ishl, 1) := by decide +kernel
theorem dX9_ore_75 : decode cX9_ore 75 = .ok (.goto 4, 3) := by decide +kernel
theorem dX9_ore_78 : decode cX9_ore 78 = .ok (.iconst 0, 1) := by decide +kernel
theorem dX9_ore_79 : decode cX9_ore 79 = .ok (.ior, 1) := by decide +kernel
theorem dX9_ore_80 : decode cX9_ore 80 = .ok (.istore 4, 2) := by decide +kernel
theorem dX9_ore_82 : decode cX9_ore 82 = .ok (.iinc 5 1, 3) := by decide +kernel
theorem dX9_ore_85 : decode cX9_ore 85 = .ok (.goto (-44), 3) := by decide +kernel
theorem dX9_ore_88 : decode cX9_ore 88 = .ok (.iload 4, 2) := by decide +kernel
theorem dX9_ore_90 : decode cX9_ore 90 = .ok (.ireturn, 1) := by decide +kernel
theorem dX9_image_0 : decode cX9_image 0 = .ok (.aload_n 0, 1) := by decide +kernel
theorem dX9_image_1 : decode cX9_image 1 = .ok (.iconst 0, 1) := by decide +kernel
theorem dX9_image_2 : decode cX9_image 2 = .ok (.putfield 44, 3) := by decide +kernel
theorem dX9_image_5 : decode cX9_image 5 = .ok (.iload_n 1, 1) := by decide +kernel
theorem dX9_image_6 : decode cX9_image 6 = .ok (.i2l, 1) := by decide +kernel
theorem dX9_image_7 : decode cX9_image 7 = .ok (.lconst 0, 1) := by decide +kernel
theorem dX9_image_8 : decode cX9_image 8 = .ok (.lconst 1, 1) := by decide +kernel
theorem dX9_image_9 : decode cX9_image 9 = .ok (.invokestatic 54, 3) := by decide +kernel
theorem dX9_image_12 : decode cX9_image 12 = .ok (.ifCond .ne 6, 3) := by decide +kernel
theorem dX9_image_15 : decode cX9_image 15 = .ok (.ldc 64, 2) := by decide +kernel
theorem dX9_image_17 : decode cX9_image 17 = .ok (.ireturn, 1) := by decide +kernel
theorem dX9_image_18 : decode cX9_image 18 = .ok (.aload_n 0, 1) := by decide +kernel
theorem dX9_image_19 : decode cX9_image 19 = .ok (.invokevirtual 244, 3) := by decide +kernel
theorem dX9_image_22 : decode cX9_image 22 = .ok (.ifCond .ne 6, 3) := by decide +kernel
theorem dX9_image_25 : decode cX9_image 25 = .ok (.ldc 216, 2) := by decide +kernel
theorem dX9_image_27 : decode cX9_image 27 = .ok (.ireturn, 1) := by decide +kernel
theorem dX9_image_28 : decode cX9_image 28 = .ok (.iconst 0, 1) := by decide +kernel
theorem dX9_image_29 : decode cX9_image 29 = .ok (.istore_n 2, 1) := by decide +kernel
theorem dX9_image_30 : decode cX9_image 30 = .ok (.iload_n 2, 1) := by decide +kernel
theorem dX9_image_31 : decode cX9_image 31 = .ok (.bipush 42, 2) := by decide +kernel
theorem dX9_image_33 : decode cX9_image 33 = .ok (.if_icmp .ge 26, 3) := by decide +kernel
theorem dX9_image_36 : decode cX9_image 36 = .ok (.aload_n 0, 1) := by decide +kernel
theorem dX9_image_37 : decode cX9_image 37 = .ok (.getfield 38, 3) := by decide +kernel
theorem dX9_image_40 : decode cX9_image 40 = .ok (.bipush 42, 2) := by decide +kernel
theorem dX9_image_42 : decode cX9_image 42 = .ok (.iload_n 1, 1) := by decide +kernel
theorem dX9_image_43 : decode cX9_image 43 = .ok (.imul, 1) := by decide +kernel
theorem dX9_image_44 : decode cX9_image 44 = .ok (.iload_n 2, 1) := by decide +kernel
theorem dX9_image_45 : decode cX9_image 45 = .ok (.iadd, 1) := by decide +kernel
theorem dX9_image_46 : decode cX9_image 46 = .ok (.aload_n 0, 1) := by decide +kernel
theorem dX9_image_47 : decode cX9_image 47 = .ok (.getfield 19, 3) := by decide +kernel
theorem dX9_image_50 : decode cX9_image 50 = .ok (.iload_n 2, 1) := by decide +kernel
theorem dX9_image_51 : decode cX9_image 51 = .ok (.iaload, 1) := by decide +kernel
theorem dX9_image_52 : decode cX9_image 52 = .ok (.iastore, 1) := by decide +kernel
theorem dX9_image_53 : decode cX9_image 53 = .ok (.iinc 2 1, 3) := by decide +kernel
theorem dX9_image_56 : decode cX9_image 56 = .ok (.goto (-26), 3) := by decide +kernel
theorem dX9_image_59 : decode cX9_image 59 = .ok (.aload_n 0, 1) := by decide +kernel
theorem dX9_image_60 : decode cX9_image 60 = .ok (.getfield 34, 3) := by decide +kernel
theorem dX9_image_63 : decode cX9_image 63 = .ok (.iload_n 1, 1) := by decide +kernel
theorem dX9_image_64 : decode cX9_image 64 = .ok (.iconst 1, 1) := by decide +kernel
theorem dX9_image_65 : decode cX9_image 65 = .ok (.bastore, 1) := by decide +kernel
theorem dX9_image_66 : decode cX9_image 66 = .ok (.iconst 1, 1) := by decide +kernel
theorem dX9_image_67 : decode cX9_image 67 = .ok (.ireturn, 1) := by decide +kernel
theorem dX9_restore_0 : decode cX9_restore 0 = .ok (.aload_n 0, 1) := by decide +kernel
theorem dX9_restore_1 : decode cX9_restore 1 = .ok (.iconst 0, 1) := by decide +kernel
theorem dX9_restore_2 : decode cX9_restore 2 = .ok (.putfield 44, 3) := by decide +kernel
theorem dX9_restore_5 : decode cX9_restore 5 = .ok (.iload_n 1, 1) := by decide +kernel
theorem dX9_restore_6 : decode cX9_restore 6 = .ok (.i2l, 1) := by decide +kernel
theorem dX9_restore_7 : decode cX9_restore 7 = .ok (.lconst 0, 1) := by decide +kernel
theorem dX9_restore_8 : decode cX9_restore 8 = .ok (.lconst 1, 1) := by decide +kernel
theorem dX9_restore_9 : decode cX9_restore 9 = .ok (.invokestatic 54, 3) := by decide +kernel
theorem dX9_restore_12 : decode cX9_restore 12 = .ok (.ifCond .ne 6, 3) := by decide +kernel
theorem dX9_restore_15 : decode cX9_restore 15 = .ok (.ldc 64, 2) := by decide +kernel
theorem dX9_restore_17 : decode cX9_restore 17 = .ok (.ireturn, 1) := by decide +kernel
theorem dX9_restore_18 : decode cX9_restore 18 = .ok (.aload_n 0, 1) := by decide +kernel
theorem dX9_restore_19 : decode cX9_restore 19 = .ok (.getfield 34, 3) := by decide +kernel
theorem dX9_restore_22 : decode cX9_restore 22 = .ok (.iload_n 1, 1) := by decide +kernel
theorem dX9_restore_23 : decode cX9_restore 23 = .ok (.baload, 1) := by decide +kernel
theorem dX9_restore_24 : decode cX9_restore 24 = .ok (.ifCond .ne 6, 3) := by decide +kernel
theorem dX9_restore_27 : decode cX9_restore 27 = .ok (.ldc 216, 2) := by decide +kernel
theorem dX9_restore_29 : decode cX9_restore 29 = .ok (.ireturn, 1) := by decide +kernel
theorem dX9_restore_30 : decode cX9_restore 30 = .ok (.iconst 0, 1) := by decide +kernel
theorem dX9_restore_31 : decode cX9_restore 31 = .ok (.istore_n 2, 1) := by decide +kernel
theorem dX9_restore_32 : decode cX9_restore 32 = .ok (.iload_n 2, 1) := by decide +kernel
theorem dX9_restore_33 : decode cX9_restore 33 = .ok (.bipush 42, 2) := by decide +kernel
theorem dX9_restore_35 : decode cX9_restore 35 = .ok (.if_icmp .ge 26, 3) := by decide +kernel
theorem dX9_restore_38 : decode cX9_restore 38 = .ok (.aload_n 0, 1) := by decide +kernel
theorem dX9_restore_39 : decode cX9_restore 39 = .ok (.getfield 19, 3) := by decide +kernel
theorem dX9_restore_42 : decode cX9_restore 42 = .ok (.iload_n 2, 1) := by decide +kernel
theorem dX9_restore_43 : decode cX9_restore 43 = .ok (.aload_n 0, 1) := by decide +kernel
theorem dX9_restore_44 : decode cX9_restore 44 = .ok (.getfield 38, 3) := by decide +kernel
theorem dX9_restore_47 : decode cX9_restore 47 = .ok (.bipush 42, 2) := by decide +kernel
theorem dX9_restore_49 : decode cX9_restore 49 = .ok (.iload_n 1, 1) := by decide +kernel
theorem dX9_restore_50 : decode cX9_restore 50 = .ok (.imul, 1) := by decide +kernel
theorem dX9_restore_51 : decode cX9_restore 51 = .ok (.iload_n 2, 1) := by decide +kernel
theorem dX9_restore_52 : decode cX9_restore 52 = .ok (.iadd, 1) := by decide +kernel
theorem dX9_restore_53 : decode cX9_restore 53 = .ok (.iaload, 1) := by decide +kernel
theorem dX9_restore_54 : decode cX9_restore 54 = .ok (.iastore, 1) := by decide +kernel
theorem dX9_restore_55 : decode cX9_restore 55 = .ok (.iinc 2 1, 3) := by decide +kernel
theorem dX9_restore_58 : decode cX9_restore 58 = .ok (.goto (-26), 3) := by decide +kernel
theorem dX9_restore_61 : decode cX9_restore 61 = .ok (.aload_n 0, 1) := by decide +kernel
theorem dX9_restore_62 : decode cX9_restore 62 = .ok (.iconst 0, 1) := by decide +kernel
theorem dX9_restore_63 : decode cX9_restore 63 = .ok (.putfield 171, 3) := by decide +kernel
theorem dX9_restore_66 : decode cX9_restore 66 = .ok (.iconst 1, 1) := by decide +kernel
theorem dX9_restore_67 : decode cX9_restore 67 = .ok (.ireturn, 1) := by decide +kernel
theorem dX9_isOf_0 : decode cX9_isOf 0 = .ok (.iload_n 1, 1) := by decide +kernel
theorem dX9_isOf_1 : decode cX9_isOf 1 = .ok (.ifCond .eq 28, 3) := by decide +kernel
theorem dX9_isOf_4 : decode cX9_isOf 4 = .ok (.iload_n 0, 1) := by decide +kernel
theorem dX9_isOf_5 : decode cX9_isOf 5 = .ok (.iload_n 1, 1) := by decide +kernel
theorem dX9_isOf_6 : decode cX9_isOf 6 = .ok (.if_icmp .eq 23, 3) := by decide +kernel
theorem dX9_isOf_9 : decode cX9_isOf 9 = .ok (.iload_n 1, 1) := by decide +kernel
theorem dX9_isOf_10 : decode cX9_isOf 10 = .ok (.iconst 1, 1) := by decide +kernel
theorem dX9_isOf_11 : decode cX9_isOf 11 = .ok (.if_icmp .ne 8, 3) := by decide +kernel
theorem dX9_isOf_14 : decode cX9_isOf 14 = .ok (.iload_n 0, 1) := by decide +kernel
theorem dX9_isOf_15 : decode cX9_isOf 15 = .ok (.iconst 4, 1) := by decide +kernel
theorem dX9_isOf_16 : decode cX9_isOf 16 = .ok (.if_icmp .lt 13, 3) := by decide +kernel
theorem dX9_isOf_19 : decode cX9_isOf 19 = .ok (.iload_n 1, 1) := by decide +kernel
theorem dX9_isOf_20 : decode cX9_isOf 20 = .ok (.iconst 4, 1) := by decide +kernel
theorem dX9_isOf_21 : decode cX9_isOf 21 = .ok (.if_icmp .ne 12, 3) := by decide +kernel
theorem dX9_isOf_24 : decode cX9_isOf 24 = .ok (.iload_n 0, 1) := by decide +kernel
theorem dX9_isOf_25 : decode cX9_isOf 25 = .ok (.iconst 5, 1) := by decide +kernel
theorem dX9_isOf_26 : decode cX9_isOf 26 = .ok (.if_icmp .ne 7, 3) := by decide +kernel
theorem dX9_isOf_29 : decode cX9_isOf 29 = .ok (.iconst 1, 1) := by decide +kernel
theorem dX9_isOf_30 : decode cX9_isOf 30 = .ok (.goto 4, 3) := by decide +kernel
theorem dX9_isOf_33 : decode cX9_isOf 33 = .ok (.iconst 0, 1) := by decide +kernel
theorem dX9_isOf_34 : decode cX9_isOf 34 = .ok (.ireturn, 1) := by decide +kernel
theorem dX9_kind_0 : decode cX9_kind 0 = .ok (.aload_n 0, 1) := by decide +kernel
theorem dX9_kind_1 : decode cX9_kind 1 = .ok (.iconst 0, 1) := by decide +kernel
theorem dX9_kind_2 : decode cX9_kind 2 = .ok (.putfield 44, 3) := by decide +kernel
theorem dX9_kind_5 : decode cX9_kind 5 = .ok (.aload_n 0, 1) := by decide +kernel
theorem dX9_kind_6 : decode cX9_kind 6 = .ok (.iload_n 1, 1) := by decide +kernel
theorem dX9_kind_7 : decode cX9_kind 7 = .ok (.invokevirtual 226, 3) := by decide +kernel
theorem dX9_kind_10 : decode cX9_kind 10 = .ok (.ifCond .eq 14, 3) := by decide +kernel
theorem dX9_kind_13 : decode cX9_kind 13 = .ok (.aload_n 0, 1) := by decide +kernel
theorem dX9_kind_14 : decode cX9_kind 14 = .ok (.getfield 19, 3) := by decide +kernel
theorem dX9_kind_17 : decode cX9_kind 17 = .ok (.iconst 4, 1) := by decide +kernel
theorem dX9_kind_18 : decode cX9_kind 18 = .ok (.iload_n 1, 1) := by decide +kernel
theorem dX9_kind_19 : decode cX9_kind 19 = .ok (.iadd, 1) := by decide +kernel
theorem dX9_kind_20 : decode cX9_kind 20 = .ok (.iaload, 1) := by decide +kernel
theorem dX9_kind_21 : decode cX9_kind 21 = .ok (.goto 5, 3) := by decide +kernel
theorem dX9_kind_24 : decode cX9_kind 24 = .ok (.ldc 64, 2) := by decide +kernel
theorem dX9_kind_26 : decode cX9_kind 26 = .ok (.ireturn, 1) := by decide +kernel
theorem dX9_as_0 : decode cX9_as 0 = .ok (.aload_n 0, 1) := by decide +kernel
theorem dX9_as_1 : decode cX9_as 1 = .ok (.iconst 0, 1) := by decide +kernel
theorem dX9_as_2 : decode cX9_as 2 = .ok (.putfield 44, 3) := by decide +kernel
theorem dX9_as_5 : decode cX9_as 5 = .ok (.aload_n 0, 1) := by decide +kernel
theorem dX9_as_6 : decode cX9_as 6 = .ok (.iload_n 1, 1) := by decide +kernel
theorem dX9_as_7 : decode cX9_as 7 = .ok (.invokevirtual 226, 3) := by decide +kernel
theorem dX9_as_10 : decode cX9_as 10 = .ok (.ifCond .eq 15, 3) := by decide +kernel
theorem dX9_as_13 : decode cX9_as 13 = .ok (.iload_n 2, 1) := by decide +kernel
theorem dX9_as_14 : decode cX9_as 14 = .ok (.i2l, 1) := by decide +kernel
theorem dX9_as_15 : decode cX9_as 15 = .ok (.lconst 0, 1) := by decide +kernel
theorem dX9_as_16 : decode cX9_as 16 = .ok (.ldc2_w 185, 3) := by decide +kernel
theorem dX9_as_19 : decode cX9_as 19 = .ok (.invokestatic 54, 3) := by decide +kernel
theorem dX9_as_22 : decode cX9_as 22 = .ok (.ifCond .ne 6, 3) := by decide +kernel
theorem dX9_as_25 : decode cX9_as 25 = .ok (.ldc 64, 2) := by decide +kernel
theorem dX9_as_27 : decode cX9_as 27 = .ok (.ireturn, 1) := by decide +kernel
theorem dX9_as_28 : decode cX9_as 28 = .ok (.aload_n 0, 1) := by decide +kernel
theorem dX9_as_29 : decode cX9_as 29 = .ok (.iconst 0, 1) := by decide +kernel
theorem dX9_as_30 : decode cX9_as 30 = .ok (.putfield 48, 3) := by decide +kernel
theorem dX9_as_33 : decode cX9_as 33 = .ok (.aload_n 0, 1) := by decide +kernel
theorem dX9_as_34 : decode cX9_as 34 = .ok (.getfield 19, 3) := by decide +kernel
theorem dX9_as_37 : decode cX9_as 37 = .ok (.iconst 4, 1) := by decide +kernel
theorem dX9_as_38 : decode cX9_as 38 = .ok (.iload_n 1, 1) := by decide +kernel
theorem dX9_as_39 : decode cX9_as 39 = .ok (.iadd, 1) := by decide +kernel
theorem dX9_as_40 : decode cX9_as 40 = .ok (.iaload, 1) := by decide +kernel
theorem dX9_as_41 : decode cX9_as 41 = .ok (.iload_n 2, 1) := by decide +kernel
theorem dX9_as_42 : decode cX9_as 42 = .ok (.invokestatic 248, 3) := by decide +kernel
theorem dX9_as_45 : decode cX9_as 45 = .ok (.ifCond .eq 7, 3) := by decide +kernel
theorem dX9_as_48 : decode cX9_as 48 = .ok (.iload_n 1, 1) := by decide +kernel
theorem dX9_as_49 : decode cX9_as 49 = .ok (.goto 8, 3) := by decide +kernel
theorem dX9_as_52 : decode cX9_as 52 = .ok (.aload_n 0, 1) := by decide +kernel
theorem dX9_as_53 : decode cX9_as 53 = .ok (.iconst 3, 1) := by decide +kernel
theorem dX9_as_54 : decode cX9_as 54 = .ok (.invokevirtual 65, 3) := by decide +kernel
theorem dX9_as_57 : decode cX9_as 57 = .ok (.ireturn, 1) := by decide +kernel
theorem dX9_began_0 : decode cX9_began 0 = .ok (.aload_n 0, 1) := by decide +kernel
theorem dX9_began_1 : decode cX9_began 1 = .ok (.getfield 251, 3) := by decide +kernel
theorem dX9_began_4 : decode cX9_began 4 = .ok (.bipush 16, 2) := by decide +kernel
theorem dX9_began_6 : decode cX9_began 6 = .ok (.if_icmp .ge 23, 3) := by decide +kernel
theorem dX9_began_9 : decode cX9_began 9 = .ok (.aload_n 0, 1) := by decide +kernel
theorem dX9_began_10 : decode cX9_began 10 = .ok (.getfield 41, 3) := by decide +kernel
theorem dX9_began_13 : decode cX9_began 13 = .ok (.aload_n 0, 1) := by decide +kernel
theorem dX9_began_14 : decode cX9_began 14 = .ok (.getfield 251, 3) := by decide +kernel
theorem dX9_began_17 : decode cX9_began 17 = .ok (.iload_n 1, 1) := by decide +kernel
theorem dX9_began_18 : decode cX9_began 18 = .ok (.iastore, 1) := by decide +kernel
theorem dX9_began_19 : decode cX9_began 19 = .ok (.aload_n 0, 1) := by decide +kernel
theorem dX9_began_20 : decode cX9_began 20 = .ok (.dup, 1) := by decide +kernel
theorem dX9_began_21 : decode cX9_began 21 = .ok (.getfield 251, 3) := by decide +kernel
theorem dX9_began_24 : decode cX9_began 24 = .ok (.iconst 1, 1) := by decide +kernel
theorem dX9_began_25 : decode cX9_began 25 = .ok (.iadd, 1) := by decide +kernel
theorem dX9_began_26 : decode cX9_began 26 = .ok (.putfield 251, 3) := by decide +kernel
theorem dX9_began_29 : decode cX9_began 29 = .ok (.return_, 1) := by decide +kernel
theorem dX9_plainSize_0 : decode cX9_plainSize 0 = .ok (.aload_n 0, 1) := by decide +kernel
theorem dX9_plainSize_1 : decode cX9_plainSize 1 = .ok (.bipush 10, 2) := by decide +kernel
theorem dX9_plainSize_3 : decode cX9_plainSize 3 = .ok (.invokevirtual 254, 3) := by decide +kernel
theorem dX9_plainSize_6 : decode cX9_plainSize 6 = .ok (.aload_n 0, 1) := by decide +kernel
theorem dX9_plainSize_7 : decode cX9_plainSize 7 = .ok (.getfield 19, 3) := by decide +kernel
theorem dX9_plainSize_10 : decode cX9_plainSize 10 = .ok (.bipush 8, 2) := by decide +kernel
theorem dX9_plainSize_12 : decode cX9_plainSize 12 = .ok (.iload_n 1, 1) := by decide +kernel
theorem dX9_plainSize_13 : decode cX9_plainSize 13 = .ok (.iadd, 1) := by decide +kernel
theorem dX9_plainSize_14 : decode cX9_plainSize 14 = .ok (.iaload, 1) := by decide +kernel
theorem dX9_plainSize_15 : decode cX9_plainSize 15 = .ok (.ireturn, 1) := by decide +kernel
theorem dX9_richSize_0 : decode cX9_richSize 0 = .ok (.aload_n 0, 1) := by decide +kernel
theorem dX9_richSize_1 : decode cX9_richSize 1 = .ok (.getfield 19, 3) := by decide +kernel
theorem dX9_richSize_4 : decode cX9_richSize 4 = .ok (.iconst 4, 1) := by decide +kernel
theorem dX9_richSize_5 : decode cX9_richSize 5 = .ok (.iload_n 1, 1) := by decide +kernel
theorem dX9_richSize_6 : decode cX9_richSize 6 = .ok (.iadd, 1) := by decide +kernel
theorem dX9_richSize_7 : decode cX9_richSize 7 = .ok (.iaload, 1) := by decide +kernel
theorem dX9_richSize_8 : decode cX9_richSize 8 = .ok (.iconst 5, 1) := by decide +kernel
theorem dX9_richSize_9 : decode cX9_richSize 9 = .ok (.if_icmp .ne 9, 3) := by decide +kernel
theorem dX9_richSize_12 : decode cX9_richSize 12 = .ok (.aload_n 0, 1) := by decide +kernel
theorem dX9_richSize_13 : decode cX9_richSize 13 = .ok (.bipush 14, 2) := by decide +kernel
theorem dX9_richSize_15 : decode cX9_richSize 15 = .ok (.invokevirtual 254, 3) := by decide +kernel
theorem dX9_richSize_18 : decode cX9_richSize 18 = .ok (.aload_n 0, 1) := by decide +kernel
theorem dX9_richSize_19 : decode cX9_richSize 19 = .ok (.bipush 13, 2) := by decide +kernel
theorem dX9_richSize_21 : decode cX9_richSize 21 = .ok (.invokevirtual 254, 3) := by decide +kernel
theorem dX9_richSize_24 : decode cX9_richSize 24 = .ok (.aload_n 0, 1) := by decide +kernel
theorem dX9_richSize_25 : decode cX9_richSize 25 = .ok (.iload_n 1, 1) := by decide +kernel
theorem dX9_richSize_26 : decode cX9_richSize 26 = .ok (.invokevirtual 257, 3) := by decide +kernel
theorem dX9_richSize_29 : decode cX9_richSize 29 = .ok (.bipush 100, 2) := by decide +kernel
theorem dX9_richSize_31 : decode cX9_richSize 31 = .ok (.isub, 1) := by decide +kernel
theorem dX9_richSize_32 : decode cX9_richSize 32 = .ok (.istore_n 2, 1) := by decide +kernel
theorem dX9_richSize_33 : decode cX9_richSize 33 = .ok (.aload_n 0, 1) := by decide +kernel
theorem dX9_richSize_34 : decode cX9_richSize 34 = .ok (.getfield 19, 3) := by decide +kernel
theorem dX9_richSize_37 : decode cX9_richSize 37 = .ok (.iconst 4, 1) := by decide +kernel
theorem dX9_richSize_38 : decode cX9_richSize 38 = .ok (.iload_n 1, 1) := by decide +kernel
theorem dX9_richSize_39 : decode cX9_richSize 39 = .ok (.iadd, 1) := by decide +kernel
theorem dX9_richSize_40 : decode cX9_richSize 40 = .ok (.iaload, 1) := by decide +kernel
theorem dX9_richSize_41 : decode cX9_richSize 41 = .ok (.iconst 5, 1) := by decide +kernel
theorem dX9_richSize_42 : decode cX9_richSize 42 = .ok (.if_icmp .ne 9, 3) := by decide +kernel
theorem dX9_richSize_45 : decode cX9_richSize 45 = .ok (.iconst 2, 1) := by decide +kernel
theorem dX9_richSize_46 : decode cX9_richSize 46 = .ok (.iload_n 2, 1) := by decide +kernel
theorem dX9_richSize_47 : decode cX9_richSize 47 = .ok (.imul, 1) := by decide +kernel
theorem dX9_richSize_48 : decode cX9_richSize 48 = .ok (.goto 4, 3) := by decide +kernel
theorem dX9_richSize_51 : decode cX9_richSize 51 = .ok (.iload_n 2, 1) := by decide +kernel
theorem dX9_richSize_52 : decode cX9_richSize 52 = .ok (.ireturn, 1) := by decide +kernel
theorem dX9_thingsOf_0 : decode cX9_thingsOf 0 = .ok (.iconst 0, 1) := by decide +kernel
theorem dX9_thingsOf_1 : decode cX9_thingsOf 1 = .ok (.istore_n 2, 1) := by decide +kernel
theorem dX9_thingsOf_2 : decode cX9_thingsOf 2 = .ok (.iconst 0, 1) := by decide +kernel
theorem dX9_thingsOf_3 : decode cX9_thingsOf 3 = .ok (.istore_n 3, 1) := by decide +kernel
theorem dX9_thingsOf_4 : decode cX9_thingsOf 4 = .ok (.iload_n 3, 1) := by decide +kernel
theorem dX9_thingsOf_5 : decode cX9_thingsOf 5 = .ok (.aload_n 0, 1) := by decide +kernel
theorem dX9_thingsOf_6 : decode cX9_thingsOf 6 = .ok (.getfield 19, 3) := by decide +kernel
theorem dX9_thingsOf_9 : decode cX9_thingsOf 9 = .ok (.iconst 3, 1) := by decide +kernel
theorem dX9_thingsOf_10 : decode cX9_thingsOf 10 = .ok (.iaload, 1) := by decide +kernel
theorem dX9_thingsOf_11 : decode cX9_thingsOf 11 = .ok (.if_icmp .ge 27, 3) := by decide +kernel
theorem dX9_thingsOf_14 : decode cX9_thingsOf 14 = .ok (.iload_n 2, 1) := by decide +kernel
theorem dX9_thingsOf_15 : decode cX9_thingsOf 15 = .ok (.aload_n 0, 1) := by decide +kernel
theorem dX9_thingsOf_16 : decode cX9_thingsOf 16 = .ok (.iload_n 3, 1) := by decide +kernel
theorem dX9_thingsOf_17 : decode cX9_thingsOf 17 = .ok (.iconst 4, 1) := by decide +kernel
theorem dX9_thingsOf_18 : decode cX9_thingsOf 18 = .ok (.invokevirtual 176, 3) := by decide +kernel
theorem dX9_thingsOf_21 : decode cX9_thingsOf 21 = .ok (.iload_n 1, 1) := by decide +kernel
theorem dX9_thingsOf_22 : decode cX9_thingsOf 22 = .ok (.if_icmp .ne 7, 3) := by decide +kernel
theorem dX9_thingsOf_25 : decode cX9_thingsOf 25 = .ok (.iconst 1, 1) := by decide +kernel
theorem dX9_thingsOf_26 : decode cX9_thingsOf 26 = .ok (.goto 4, 3) := by decide +kernel
theorem dX9_thingsOf_29 : decode cX9_thingsOf 29 = .ok (.iconst 0, 1) := by decide +kernel
theorem dX9_thingsOf_30 : decode cX9_thingsOf 30 = .ok (.iadd, 1) := by decide +kernel
theorem dX9_thingsOf_31 : decode cX9_thingsOf 31 = .ok (.istore_n 2, 1) := by decide +kernel
theorem dX9_thingsOf_32 : decode cX9_thingsOf 32 = .ok (.iinc 3 1, 3) := by decide +kernel
theorem dX9_thingsOf_35 : decode cX9_thingsOf 35 = .ok (.goto (-31), 3) := by decide +kernel
theorem dX9_thingsOf_38 : decode cX9_thingsOf 38 = .ok (.iload_n 2, 1) := by decide +kernel
theorem dX9_thingsOf_39 : decode cX9_thingsOf 39 = .ok (.ireturn, 1) := by decide +kernel
theorem dX9_markOf_0 : decode cX9_markOf 0 = .ok (.aload_n 0, 1) := by decide +kernel
theorem dX9_markOf_1 : decode cX9_markOf 1 = .ok (.getfield 19, 3) := by decide +kernel
theorem dX9_markOf_4 : decode cX9_markOf 4 = .ok (.iconst 4, 1) := by decide +kernel
theorem dX9_markOf_5 : decode cX9_markOf 5 = .ok (.iload_n 1, 1) := by decide +kernel
theorem dX9_markOf_6 : decode cX9_markOf 6 = .ok (.iadd, 1) := by decide +kernel
theorem dX9_markOf_7 : decode cX9_markOf 7 = .ok (.iaload, 1) := by decide +kernel
theorem dX9_markOf_8 : decode cX9_markOf 8 = .ok (.istore_n 2, 1) := by decide +kernel
theorem dX9_markOf_9 : decode cX9_markOf 9 = .ok (.iload_n 2, 1) := by decide +kernel
theorem dX9_markOf_10 : decode cX9_markOf 10 = .ok (.iconst 4, 1) := by decide +kernel
theorem dX9_markOf_11 : decode cX9_markOf 11 = .ok (.if_icmp .lt 23, 3) := by decide +kernel
theorem dX9_markOf_14 : decode cX9_markOf 14 = .ok (.aload_n 0, 1) := by decide +kernel
theorem dX9_markOf_15 : decode cX9_markOf 15 = .ok (.bipush 23, 2) := by decide +kernel
theorem dX9_markOf_17 : decode cX9_markOf 17 = .ok (.invokevirtual 254, 3) := by decide +kernel
theorem dX9_markOf_20 : decode cX9_markOf 20 = .ok (.aload_n 0, 1) := by decide +kernel
theorem dX9_markOf_21 : decode cX9_markOf 21 = .ok (.bipush 20, 2) := by decide +kernel
theorem dX9_markOf_23 : decode cX9_markOf 23 = .ok (.invokevirtual 254, 3) := by decide +kernel
theorem dX9_markOf_26 : decode cX9_markOf 26 = .ok (.iload_n 1, 1) := by decide +kernel
theorem dX9_markOf_27 : decode cX9_markOf 27 = .ok (.aload_n 0, 1) := by decide +kernel
theorem dX9_markOf_28 : decode cX9_markOf 28 = .ok (.iload_n 1, 1) := by decide +kernel
theorem dX9_markOf_29 : decode cX9_markOf 29 = .ok (.invokevirtual 260, 3) := by decide +kernel
theorem dX9_markOf_32 : decode cX9_markOf 32 = .ok (.isub, 1) := by decide +kernel
theorem dX9_markOf_33 : decode cX9_markOf 33 = .ok (.ireturn, 1) := by decide +kernel
theorem dX9_markOf_34 : decode cX9_markOf 34 = .ok (.iload_n 2, 1) := by decide +kernel
theorem dX9_markOf_35 : decode cX9_markOf 35 = .ok (.iconst 1, 1) := by decide +kernel
theorem dX9_markOf_36 : decode cX9_markOf 36 = .ok (.if_icmp .eq 19, 3) := by decide +kernel
theorem dX9_markOf_39 : decode cX9_markOf 39 = .ok (.aload_n 0, 1) := by decide +kernel
theorem dX9_markOf_40 : decode cX9_markOf 40 = .ok (.iload_n 2, 1) := by decide +kernel
theorem dX9_markOf_41 : decode cX9_markOf 41 = .ok (.iconst 3, 1) := by decide +kernel
theorem dX9_markOf_42 : decode cX9_markOf 42 = .ok (.if_icmp .ne 8, 3) := by decide +kernel
theorem dX9_markOf_45 : decode cX9_markOf 45 = .ok (.bipush 22, 2) := by decide +kernel
theorem dX9_markOf_47 : decode cX9_markOf 47 = .ok (.goto 5, 3) := by decide +kernel
theorem dX9_markOf_50 : decode cX9_markOf 50 = .ok (.bipush 24, 2) := by decide +kernel
theorem dX9_markOf_52 : decode cX9_markOf 52 = .ok (.invokevirtual 254, 3) := by decide +kernel
theorem dX9_markOf_55 : decode cX9_markOf 55 = .ok (.aload_n 0, 1) := by decide +kernel
theorem dX9_markOf_56 : decode cX9_markOf 56 = .ok (.bipush 21, 2) := by decide +kernel
theorem dX9_markOf_58 : decode cX9_markOf 58 = .ok (.invokevirtual 254, 3) := by decide +kernel
theorem dX9_markOf_61 : decode cX9_markOf 61 = .ok (.aload_n 0, 1) := by decide +kernel
theorem dX9_markOf_62 : decode cX9_markOf 62 = .ok (.bipush 20, 2) := by decide +kernel
theorem dX9_markOf_64 : decode cX9_markOf 64 = .ok (.invokevirtual 254, 3) := by decide +kernel
theorem dX9_markOf_67 : decode cX9_markOf 67 = .ok (.iload_n 1, 1) := by decide +kernel
theorem dX9_markOf_68 : decode cX9_markOf 68 = .ok (.aload_n 0, 1) := by decide +kernel
theorem dX9_markOf_69 : decode cX9_markOf 69 = .ok (.iload_n 1, 1) := by decide +kernel
theorem dX9_markOf_70 : decode cX9_markOf 70 = .ok (.invokevirtual 263, 3) := by decide +kernel
theorem dX9_markOf_73 : decode cX9_markOf 73 = .ok (.iadd, 1) := by decide +kernel
theorem dX9_markOf_74 : decode cX9_markOf 74 = .ok (.istore_n 3, 1) := by decide +kernel
theorem dX9_markOf_75 : decode cX9_markOf 75 = .ok (.iload_n 2, 1) := by decide +kernel
theorem dX9_markOf_76 : decode cX9_markOf 76 = .ok (.iconst 1, 1) := by decide +kernel
theorem dX9_markOf_77 : decode cX9_markOf 77 = .ok (.if_icmp .ne 7, 3) := by decide +kernel
theorem dX9_markOf_80 : decode cX9_markOf 80 = .ok (.iload_n 3, 1) := by decide +kernel
theorem dX9_markOf_81 : decode cX9_markOf 81 = .ok (.goto 19, 3) := by decide +kernel
theorem dX9_markOf_84 : decode cX9_markOf 84 = .ok (.iload_n 2, 1) := by decide +kernel
theorem dX9_markOf_85 : decode cX9_markOf 85 = .ok (.iconst 3, 1) := by decide +kernel
theorem dX9_markOf_86 : decode cX9_markOf 86 = .ok (.if_icmp .ne 11, 3) := by decide +kernel
theorem dX9_markOf_89 : decode cX9_markOf 89 = .ok (.iload_n 3, 1) := by decide +kernel
theorem dX9_markOf_90 : decode cX9_markOf 90 = .ok (.sipush 1000, 3) := by decide +kernel
theorem dX9_markOf_93 : decode cX9_markOf 93 = .ok (.isub, 1) := by decide +kernel
theorem dX9_markOf_94 : decode cX9_markOf 94 = .ok (.goto 6, 3) := by decide +kernel
theorem dX9_markOf_97 : decode cX9_markOf 97 = .ok (.iconst 2, 1) := by decide +kernel
theorem dX9_markOf_98 : decode cX9_markOf 98 = .ok (.iload_n 3, 1) := by decide +kernel
theorem dX9_markOf_99 : decode cX9_markOf 99 = .ok (.imul, 1) := by decide +kernel
theorem dX9_markOf_100 : decode cX9_markOf 100 = .ok (.ireturn, 1) := by decide +kernel
theorem dX9_sizeOf_0 : decode cX9_sizeOf 0 = .ok (.aload_n 0, 1) := by decide +kernel
theorem dX9_sizeOf_1 : decode cX9_sizeOf 1 = .ok (.getfield 19, 3) := by decide +kernel
theorem dX9_sizeOf_4 : decode cX9_sizeOf 4 = .ok (.iconst 4, 1) := by decide +kernel
theorem dX9_sizeOf_5 : decode cX9_sizeOf 5 = .ok (.iload_n 1, 1) := by decide +kernel
theorem dX9_sizeOf_6 : decode cX9_sizeOf 6 = .ok (.iadd, 1) := by decide +kernel
theorem dX9_sizeOf_7 : decode cX9_sizeOf 7 = .ok (.iaload, 1) := by decide +kernel
theorem dX9_sizeOf_8 : decode cX9_sizeOf 8 = .ok (.istore_n 2, 1) := by decide +kernel
theorem dX9_sizeOf_9 : decode cX9_sizeOf 9 = .ok (.iload_n 2, 1) := by decide +kernel
theorem dX9_sizeOf_10 : decode cX9_sizeOf 10 = .ok (.iconst 4, 1) := by decide +kernel
theorem dX9_sizeOf_11 : decode cX9_sizeOf 11 = .ok (.if_icmp .lt 9, 3) := by decide +kernel
theorem dX9_sizeOf_14 : decode cX9_sizeOf 14 = .ok (.aload_n 0, 1) := by decide +kernel
theorem dX9_sizeOf_15 : decode cX9_sizeOf 15 = .ok (.iload_n 1, 1) := by decide +kernel
theorem dX9_sizeOf_16 : decode cX9_sizeOf 16 = .ok (.invokevirtual 260, 3) := by decide +kernel
theorem dX9_sizeOf_19 : decode cX9_sizeOf 19 = .ok (.ireturn, 1) := by decide +kernel
theorem dX9_sizeOf_20 : decode cX9_sizeOf 20 = .ok (.iload_n 2, 1) := by decide +kernel
theorem dX9_sizeOf_21 : decode cX9_sizeOf 21 = .ok (.iconst 2, 1) := by decide +kernel
theorem dX9_sizeOf_22 : decode cX9_sizeOf 22 = .ok (.if_icmp .ne 9, 3) := by decide +kernel
theorem dX9_sizeOf_25 : decode cX9_sizeOf 25 = .ok (.aload_n 0, 1) := by decide +kernel
theorem dX9_sizeOf_26 : decode cX9_sizeOf 26 = .ok (.bipush 12, 2) := by decide +kernel
theorem dX9_sizeOf_28 : decode cX9_sizeOf 28 = .ok (.invokevirtual 254, 3) := by decide +kernel
theorem dX9_sizeOf_31 : decode cX9_sizeOf 31 = .ok (.aload_n 0, 1) := by decide +kernel
theorem dX9_sizeOf_32 : decode cX9_sizeOf 32 = .ok (.bipush 11, 2) := by decide +kernel
theorem dX9_sizeOf_34 : decode cX9_sizeOf 34 = .ok (.invokevirtual 254, 3) := by decide +kernel
theorem dX9_sizeOf_37 : decode cX9_sizeOf 37 = .ok (.aload_n 0, 1) := by decide +kernel
theorem dX9_sizeOf_38 : decode cX9_sizeOf 38 = .ok (.iload_n 1, 1) := by decide +kernel
theorem dX9_sizeOf_39 : decode cX9_sizeOf 39 = .ok (.invokevirtual 257, 3) := by decide +kernel
theorem dX9_sizeOf_42 : decode cX9_sizeOf 42 = .ok (.istore_n 3, 1) := by decide +kernel
theorem dX9_sizeOf_43 : decode cX9_sizeOf 43 = .ok (.iload_n 3, 1) := by decide +kernel
theorem dX9_sizeOf_44 : decode cX9_sizeOf 44 = .ok (.aload_n 0, 1) := by decide +kernel
theorem dX9_sizeOf_45 : decode cX9_sizeOf 45 = .ok (.iload_n 1, 1) := by decide +kernel
theorem dX9_sizeOf_46 : decode cX9_sizeOf 46 = .ok (.invokevirtual 266, 3) := by decide +kernel
theorem dX9_sizeOf_49 : decode cX9_sizeOf 49 = .ok (.iadd, 1) := by decide +kernel
theorem dX9_sizeOf_50 : decode cX9_sizeOf 50 = .ok (.istore_n 3, 1) := by decide +kernel
theorem dX9_sizeOf_51 : decode cX9_sizeOf 51 = .ok (.iload_n 2, 1) := by decide +kernel
theorem dX9_sizeOf_52 : decode cX9_sizeOf 52 = .ok (.iconst 2, 1) := by decide +kernel
theorem dX9_sizeOf_53 : decode cX9_sizeOf 53 = .ok (.if_icmp .ne 8, 3) := by decide +kernel
theorem dX9_sizeOf_56 : decode cX9_sizeOf 56 = .ok (.iload_n 3, 1) := by decide +kernel
theorem dX9_sizeOf_57 : decode cX9_sizeOf 57 = .ok (.ineg, 1) := by decide +kernel
theorem dX9_sizeOf_58 : decode cX9_sizeOf 58 = .ok (.goto 4, 3) := by decide +kernel
theorem dX9_sizeOf_61 : decode cX9_sizeOf 61 = .ok (.iload_n 3, 1) := by decide +kernel
theorem dX9_sizeOf_62 : decode cX9_sizeOf 62 = .ok (.ireturn, 1) := by decide +kernel
theorem dX9_ask_0 : decode cX9_ask 0 = .ok (.aload_n 0, 1) := by decide +kernel
theorem dX9_ask_1 : decode cX9_ask 1 = .ok (.iconst 0, 1) := by decide +kernel
theorem dX9_ask_2 : decode cX9_ask 2 = .ok (.putfield 44, 3) := by decide +kernel
theorem dX9_ask_5 : decode cX9_ask 5 = .ok (.aload_n 0, 1) := by decide +kernel
theorem dX9_ask_6 : decode cX9_ask 6 = .ok (.iload_n 1, 1) := by decide +kernel
theorem dX9_ask_7 : decode cX9_ask 7 = .ok (.invokevirtual 226, 3) := by decide +kernel
theorem dX9_ask_10 : decode cX9_ask 10 = .ok (.ifCond .eq 13, 3) := by decide +kernel
theorem dX9_ask_13 : decode cX9_ask 13 = .ok (.iload_n 2, 1) := by decide +kernel
theorem dX9_ask_14 : decode cX9_ask 14 = .ok (.i2l, 1) := by decide +kernel
theorem dX9_ask_15 : decode cX9_ask 15 = .ok (.lconst 0, 1) := by decide +kernel
theorem dX9_ask_16 : decode cX9_ask 16 = .ok (.lconst 1, 1) := by decide +kernel
theorem dX9_ask_17 : decode cX9_ask 17 = .ok (.invokestatic 54, 3) := by decide +kernel
theorem dX9_ask_20 : decode cX9_ask 20 = .ok (.ifCond .ne 6, 3) := by decide +kernel
theorem dX9_ask_23 : decode cX9_ask 23 = .ok (.ldc 64, 2) := by decide +kernel
theorem dX9_ask_25 : decode cX9_ask 25 = .ok (.ireturn, 1) := by decide +kernel
theorem dX9_ask_26 : decode cX9_ask 26 = .ok (.aload_n 0, 1) := by decide +kernel
theorem dX9_ask_27 : decode cX9_ask 27 = .ok (.iconst 0, 1) := by decide +kernel
theorem dX9_ask_28 : decode cX9_ask 28 = .ok (.putfield 251, 3) := by decide +kernel
theorem dX9_ask_31 : decode cX9_ask 31 = .ok (.iload_n 2, 1) := by decide +kernel
theorem dX9_ask_32 : decode cX9_ask 32 = .ok (.ifCond .ne 11, 3) := by decide +kernel
theorem dX9_ask_35 : decode cX9_ask 35 = .ok (.aload_n 0, 1) := by decide +kernel
theorem dX9_ask_36 : decode cX9_ask 36 = .ok (.iload_n 1, 1) := by decide +kernel
theorem dX9_ask_37 : decode cX9_ask 37 = .ok (.invokevirtual 269, 3) := by decide +kernel
theorem dX9_ask_40 : decode cX9_ask 40 = .ok (.goto 8, 3) := by decide +kernel
theorem dX9_ask_43 : decode cX9_ask 43 = .ok (.aload_n 0, 1) := by decide +kernel
theorem dX9_ask_44 : decode cX9_ask 44 = .ok (.iload_n 1, 1) := by decide +kernel
theorem dX9_ask_45 : decode cX9_ask 45 = .ok (.invokevirtual 266, 3) := by decide +kernel
theorem dX9_ask_48 : decode cX9_ask 48 = .ok (.ireturn, 1) := by decide +kernel
theorem dX9_trace_0 : decode cX9_trace 0 = .ok (.aload_n 0, 1) := by decide +kernel
theorem dX9_trace_1 : decode cX9_trace 1 = .ok (.iconst 0, 1) := by decide +kernel
theorem dX9_trace_2 : decode cX9_trace 2 = .ok (.putfield 44, 3) := by decide +kernel
theorem dX9_trace_5 : decode cX9_trace 5 = .ok (.iload_n 1, 1) := by decide +kernel
theorem dX9_trace_6 : decode cX9_trace 6 = .ok (.i2l, 1) := by decide +kernel
theorem dX9_trace_7 : decode cX9_trace 7 = .ok (.lconst 0, 1) := by decide +kernel
theorem dX9_trace_8 : decode cX9_trace 8 = .ok (.aload_n 0, 1) := by decide +kernel
theorem dX9_trace_9 : decode cX9_trace 9 = .ok (.getfield 251, 3) := by decide +kernel
theorem dX9_trace_12 : decode cX9_trace 12 = .ok (.iconst 1, 1) := by decide +kernel
theorem dX9_trace_13 : decode cX9_trace 13 = .ok (.isub, 1) := by decide +kernel
theorem dX9_trace_14 : decode cX9_trace 14 = .ok (.i2l, 1) := by decide +kernel
theorem dX9_trace_15 : decode cX9_trace 15 = .ok (.invokestatic 54, 3) := by decide +kernel
theorem dX9_trace_18 : decode cX9_trace 18 = .ok (.ifCond .eq 12, 3) := by decide +kernel
theorem dX9_trace_21 : decode cX9_trace 21 = .ok (.aload_n 0, 1) := by decide +kernel
theorem dX9_trace_22 : decode cX9_trace 22 = .ok (.getfield 41, 3) := by decide +kernel
theorem dX9_trace_25 : decode cX9_trace 25 = .ok (.iload_n 1, 1) := by decide +kernel
theorem dX9_trace_26 : decode cX9_trace 26 = .ok (.iaload, 1) := by decide +kernel
theorem dX9_trace_27 : decode cX9_trace 27 = .ok (.goto 5, 3) := by decide +kernel
theorem dX9_trace_30 : decode cX9_trace 30 = .ok (.ldc 80, 2) := by decide +kernel
theorem dX9_trace_32 : decode cX9_trace 32 = .ok (.ireturn, 1) := by decide +kernel
theorem dX9_count_0 : decode cX9_count 0 = .ok (.aload_n 0, 1) := by decide +kernel
theorem dX9_count_1 : decode cX9_count 1 = .ok (.iconst 0, 1) := by decide +kernel
theorem dX9_count_2 : decode cX9_count 2 = .ok (.putfield 44, 3) := by decide +kernel
theorem dX9_count_5 : decode cX9_count 5 = .ok (.iconst 0, 1) := by decide +kernel
theorem dX9_count_6 : decode cX9_count 6 = .ok (.istore_n 2, 1) := by decide +kernel
theorem dX9_count_7 : decode cX9_count 7 = .ok (.iload_n 1, 1) := by decide +kernel
theorem dX9_count_8 : decode cX9_count 8 = .ok (.tableswitch 158 0 7 #[48, 81, 88, 95, 134, 139, 146, 153], 48) := by decide +kernel
theorem dX9_count_56 : decode cX9_count 56 = .ok (.iconst 0, 1) := by decide +kernel
theorem dX9_count_57 : decode cX9_count 57 = .ok (.istore_n 3, 1) := by decide +kernel
theorem dX9_count_58 : decode cX9_count 58 = .ok (.iload_n 3, 1) := by decide +kernel
theorem dX9_count_59 : decode cX9_count 59 = .ok (.bipush 8, 2) := by decide +kernel
theorem dX9_count_61 : decode cX9_count 61 = .ok (.if_icmp .ge 26, 3) := by decide +kernel
theorem dX9_count_64 : decode cX9_count 64 = .ok (.iload_n 2, 1) := by decide +kernel
theorem dX9_count_65 : decode cX9_count 65 = .ok (.aload_n 0, 1) := by decide +kernel
theorem dX9_count_66 : decode cX9_count 66 = .ok (.getfield 7, 3) := by decide +kernel
theorem dX9_count_69 : decode cX9_count 69 = .ok (.iload_n 3, 1) := by decide +kernel
theorem dX9_count_70 : decode cX9_count 70 = .ok (.iaload, 1) := by decide +kernel
theorem dX9_count_71 : decode cX9_count 71 = .ok (.ifCond .lt 7, 3) := by decide +kernel
theorem dX9_count_74 : decode cX9_count 74 = .ok (.iconst 1, 1) := by decide +kernel
theorem dX9_count_75 : decode cX9_count 75 = .ok (.goto 4, 3) := by decide +kernel
theorem dX9_count_78 : decode cX9_count 78 = .ok (.iconst 0, 1) := by decide +kernel
theorem dX9_count_79 : decode cX9_count 79 = .ok (.iadd, 1) := by decide +kernel
theorem dX9_count_80 : decode cX9_count 80 = .ok (.istore_n 2, 1) := by decide +kernel
theorem dX9_count_81 : decode cX9_count 81 = .ok (.iinc 3 1, 3) := by decide +kernel
theorem dX9_count_84 : decode cX9_count 84 = .ok (.goto (-26), 3) := by decide +kernel
theorem dX9_count_87 : decode cX9_count 87 = .ok (.iload_n 2, 1) := by decide +kernel
theorem dX9_count_88 : decode cX9_count 88 = .ok (.ireturn, 1) := by decide +kernel
theorem dX9_count_89 : decode cX9_count 89 = .ok (.aload_n 0, 1) := by decide +kernel
theorem dX9_count_90 : decode cX9_count 90 = .ok (.getfield 19, 3) := by decide +kernel
theorem dX9_count_93 : decode cX9_count 93 = .ok (.iconst 2, 1) := by decide +kernel
theorem dX9_count_94 : decode cX9_count 94 = .ok (.iaload, 1) := by decide +kernel
theorem dX9_count_95 : decode cX9_count 95 = .ok (.ireturn, 1) := by decide +kernel
theorem dX9_count_96 : decode cX9_count 96 = .ok (.aload_n 0, 1) := by decide +kernel
theorem dX9_count_97 : decode cX9_count 97 = .ok (.getfield 19, 3) := by decide +kernel
theorem dX9_count_100 : decode cX9_count 100 = .ok (.iconst 3, 1) := by decide +kernel
theorem dX9_count_101 : decode cX9_count 101 = .ok (.iaload, 1) := by decide +kernel
theorem dX9_count_102 : decode cX9_count 102 = .ok (.ireturn, 1) := by decide +kernel
theorem dX9_count_103 : decode cX9_count 103 = .ok (.iconst 0, 1) := by decide +kernel
theorem dX9_count_104 : decode cX9_count 104 = .ok (.istore_n 3, 1) := by decide +kernel
theorem dX9_count_105 : decode cX9_count 105 = .ok (.iload_n 3, 1) := by decide +kernel
theorem dX9_count_106 : decode cX9_count 106 = .ok (.aload_n 0, 1) := by decide +kernel
theorem dX9_count_107 : decode cX9_count 107 = .ok (.getfield 19, 3) := by decide +kernel
theorem dX9_count_110 : decode cX9_count 110 = .ok (.iconst 3, 1) := by decide +kernel
theorem dX9_count_111 : decode cX9_count 111 = .ok (.iaload, 1) := by decide +kernel
theorem dX9_count_112 : decode cX9_count 112 = .ok (.if_icmp .ge 28, 3) := by decide +kernel
theorem dX9_count_115 : decode cX9_count 115 = .ok (.iload_n 2, 1) := by decide +kernel
theorem dX9_count_116 : decode cX9_count 116 = .ok (.aload_n 0, 1) := by decide +kernel
theorem dX9_count_117 : decode cX9_count 117 = .ok (.iload_n 3, 1) := by decide +kernel
theorem dX9_count_118 : decode cX9_count 118 = .ok (.iconst 4, 1) := by decide +kernel
theorem dX9_count_119 : decode cX9_count 119 = .ok (.invokevirtual 176, 3) := by decide +kernel
theorem dX9_count_122 : decode cX9_count 122 = .ok (.ldc 80, 2) := by decide +kernel
theorem dX9_count_124 : decode cX9_count 124 = .ok (.if_icmp .eq 7, 3) := by decide +kernel
theorem dX9_count_127 : decode cX9_count 127 = .ok (.iconst 1, 1) := by decide +kernel
theorem dX9_count_128 : decode cX9_count 128 = .ok (.goto 4, 3) := by decide +kernel
theorem dX9_count_131 : decode cX9_count 131 = .ok (.iconst 0, 1) := by decide +kernel
theorem dX9_count_132 : decode cX9_count 132 = .ok (.iadd, 1) := by decide +kernel
theorem dX9_count_133 : decode cX9_count 133 = .ok (.istore_n 2, 1) := by decide +kernel
theorem dX9_count_134 : decode cX9_count 134 = .ok (.iinc 3 1, 3) := by decide +kernel
theorem dX9_count_137 : decode cX9_count 137 = .ok (.goto (-32), 3) := by decide +kernel
theorem dX9_count_140 : decode cX9_count 140 = .ok (.iload_n 2, 1) := by decide +kernel
theorem dX9_count_141 : decode cX9_count 141 = .ok (.ireturn, 1) := by decide +kernel
theorem dX9_count_142 : decode cX9_count 142 = .ok (.aload_n 0, 1) := by decide +kernel
theorem dX9_count_143 : decode cX9_count 143 = .ok (.getfield 171, 3) := by decide +kernel
theorem dX9_count_146 : decode cX9_count 146 = .ok (.ireturn, 1) := by decide +kernel
theorem dX9_count_147 : decode cX9_count 147 = .ok (.aload_n 0, 1) := by decide +kernel
theorem dX9_count_148 : decode cX9_count 148 = .ok (.getfield 19, 3) := by decide +kernel
theorem dX9_count_151 : decode cX9_count 151 = .ok (.iconst 0, 1) := by decide +kernel
theorem dX9_count_152 : decode cX9_count 152 = .ok (.iaload, 1) := by decide +kernel
theorem dX9_count_153 : decode cX9_count 153 = .ok (.ireturn, 1) := by decide +kernel
theorem dX9_count_154 : decode cX9_count 154 = .ok (.aload_n 0, 1) := by decide +kernel
theorem dX9_count_155 : decode cX9_count 155 = .ok (.getfield 19, 3) := by decide +kernel
theorem dX9_count_158 : decode cX9_count 158 = .ok (.iconst 1, 1) := by decide +kernel
theorem dX9_count_159 : decode cX9_count 159 = .ok (.iaload, 1) := by decide +kernel
theorem dX9_count_160 : decode cX9_count 160 = .ok (.ireturn, 1) := by decide +kernel
theorem dX9_count_161 : decode cX9_count 161 = .ok (.aload_n 0, 1) := by decide +kernel
theorem dX9_count_162 : decode cX9_count 162 = .ok (.getfield 71, 3) := by decide +kernel
theorem dX9_count_165 : decode cX9_count 165 = .ok (.ireturn, 1) := by decide +kernel
theorem dX9_count_166 : decode cX9_count 166 = .ok (.ldc 64, 2) := by decide +kernel
theorem dX9_count_168 : decode cX9_count 168 = .ok (.ireturn, 1) := by decide +kernel
theorem dX9_status_0 : decode cX9_status 0 = .ok (.aload_n 0, 1) := by decide +kernel
theorem dX9_status_1 : decode cX9_status 1 = .ok (.iconst 0, 1) := by decide +kernel
theorem dX9_status_2 : decode cX9_status 2 = .ok (.putfield 44, 3) := by decide +kernel
theorem dX9_status_5 : decode cX9_status 5 = .ok (.aload_n 0, 1) := by decide +kernel
theorem dX9_status_6 : decode cX9_status 6 = .ok (.getfield 48, 3) := by decide +kernel
theorem dX9_status_9 : decode cX9_status 9 = .ok (.ireturn, 1) := by decide +kernel
end
section
theorem dJ9_max_7cf53_0 : decode cJ9_max_7cf53 0 = .ok (.iload_n 0, 1) := by decide +kernel
theorem dJ9_max_7cf53_1 : decode cJ9_max_7cf53 1 = .ok (.iload_n 1, 1) := by decide +kernel
theorem dJ9_max_7cf53_2 : decode cJ9_max_7cf53 2 = .ok (.if_icmp .lt 7, 3) := by decide +kernel
theorem dJ9_max_7cf53_5 : decode cJ9_max_7cf53 5 = .ok (.iload_n 0, 1) := by decide +kernel
theorem dJ9_max_7cf53_6 : decode cJ9_max_7cf53 6 = .ok (.goto 4, 3) := by decide +kernel
theorem dJ9_max_7cf53_9 : decode cJ9_max_7cf53 9 = .ok (.iload_n 1, 1) := by decide +kernel
theorem dJ9_max_7cf53_10 : decode cJ9_max_7cf53 10 = .ok (.ireturn, 1) := by decide +kernel
theorem dJ9_min_7cf53_0 : decode cJ9_min_7cf53 0 = .ok (.iload_n 0, 1) := by decide +kernel
theorem dJ9_min_7cf53_1 : decode cJ9_min_7cf53 1 = .ok (.iload_n 1, 1) := by decide +kernel
theorem dJ9_min_7cf53_2 : decode cJ9_min_7cf53 2 = .ok (.if_icmp .gt 7, 3) := by decide +kernel
theorem dJ9_min_7cf53_5 : decode cJ9_min_7cf53 5 = .ok (.iload_n 0, 1) := by decide +kernel
theorem dJ9_min_7cf53_6 : decode cJ9_min_7cf53 6 = .ok (.goto 4, 3) := by decide +kernel
theorem dJ9_min_7cf53_9 : decode cJ9_min_7cf53 9 = .ok (.iload_n 1, 1) := by decide +kernel
theorem dJ9_min_7cf53_10 : decode cJ9_min_7cf53 10 = .ok (.ireturn, 1) := by decide +kernel
theorem dJ0_length_8abf5_0 : decode cJ0_length_8abf5 0 = .ok (.aload_n 0, 1) := by decide +kernel
theorem dJ0_length_8abf5_1 : decode cJ0_length_8abf5 1 = .ok (.getfield 9, 3) := by decide +kernel
theorem dJ0_length_8abf5_4 : decode cJ0_length_8abf5 4 = .ok (.arraylength, 1) := by decide +kernel
theorem dJ0_length_8abf5_5 : decode cJ0_length_8abf5 5 = .ok (.aload_n 0, 1) := by decide +kernel
theorem dJ0_length_8abf5_6 : decode cJ0_length_8abf5 6 = .ok (.invokevirtual 335, 3) := by decide +kernel
theorem dJ0_length_8abf5_9 : decode cJ0_length_8abf5 9 = .ok (.ishr, 1) := by decide +kernel
theorem dJ0_length_8abf5_10 : decode cJ0_length_8abf5 10 = .ok (.ireturn, 1) := by decide +kernel
theorem dJ0_charAt_5068e_0 : decode cJ0_charAt_5068e 0 = .ok (.aload_n 0, 1) := by decide +kernel
theorem dJ0_charAt_5068e_1 : decode cJ0_charAt_5068e 1 = .ok (.invokevirtual 492, 3) := by decide +kernel
theorem dJ0_charAt_5068e_4 : decode cJ0_charAt_5068e 4 = .ok (.ifCond .eq 12, 3) := by decide +kernel
theorem dJ0_charAt_5068e_7 : decode cJ0_charAt_5068e 7 = .ok (.aload_n 0, 1) := by decide +kernel
theorem dJ0_charAt_5068e_8 : decode cJ0_charAt_5068e 8 = .ok (.getfield 9, 3) := by decide +kernel
theorem dJ0_charAt_5068e_11 : decode cJ0_charAt_5068e 11 = .ok (.iload_n 1, 1) := by decide +kernel
theorem dJ0_charAt_5068e_12 : decode cJ0_charAt_5068e 12 = .ok (.invokestatic 495, 3) := by decide +kernel
theorem dJ0_charAt_5068e_15 : decode cJ0_charAt_5068e 15 = .ok (.ireturn, 1) := by decide +kernel
theorem dJ0_charAt_5068e_16 : decode cJ0_charAt_5068e 16 = .ok (.aload_n 0, 1) := by decide +kernel
theorem dJ0_charAt_5068e_17 : decode cJ0_charAt_5068e 17 = .ok (.getfield 9, 3) := by decide +kernel
theorem dJ0_charAt_5068e_20 : decode cJ0_charAt_5068e 20 = .ok (.iload_n 1, 1) := by decide +kernel
theorem dJ0_charAt_5068e_21 : decode cJ0_charAt_5068e 21 = .ok (.invokestatic 498, 3) := by decide +kernel
theorem dJ0_charAt_5068e_24 : decode cJ0_charAt_5068e 24 = .ok (.ireturn, 1) := by decide +kernel
theorem dJ0_coder_7d493_0 : decode cJ0_coder_7d493 0 = .ok (.getstatic 38, 3) := by decide +kernel
theorem dJ0_coder_7d493_3 : decode cJ0_coder_7d493 3 = .ok (.ifCond .eq 10, 3) := by decide +kernel
theorem dJ0_coder_7d493_6 : decode cJ0_coder_7d493 6 = .ok (.aload_n 0, 1) := by decide +kernel
theorem dJ0_coder_7d493_7 : decode cJ0_coder_7d493 7 = .ok (.getfield 15, 3) := by decide +kernel
theorem dJ0_coder_7d493_10 : decode cJ0_coder_7d493 10 = .ok (.goto 4, 3) := by decide +kernel
theorem dJ0_coder_7d493_13 : decode cJ0_coder_7d493 13 = .ok (.iconst 1, 1) := by decide +kernel
theorem dJ0_coder_7d493_14 : decode cJ0_coder_7d493 14 = .ok (.ireturn, 1) := by decide +kernel
theorem dJ0_isLatin1_aae02_0 : decode cJ0_isLatin1_aae02 0 = .ok (.getstatic 38, 3) := by decide +kernel
theorem dJ0_isLatin1_aae02_3 : decode cJ0_isLatin1_aae02 3 = .ok (.ifCond .eq 14, 3) := by decide +kernel
theorem dJ0_isLatin1_aae02_6 : decode cJ0_isLatin1_aae02 6 = .ok (.aload_n 0, 1) := by decide +kernel
theorem dJ0_isLatin1_aae02_7 : decode cJ0_isLatin1_aae02 7 = .ok (.getfield 15, 3) := by decide +kernel
theorem dJ0_isLatin1_aae02_10 : decode cJ0_isLatin1_aae02 10 = .ok (.ifCond .ne 7, 3) := by decide +kernel
theorem dJ0_isLatin1_aae02_13 : decode cJ0_isLatin1_aae02 13 = .ok (.iconst 1, 1) := by decide +kernel
theorem dJ0_isLatin1_aae02_14 : decode cJ0_isLatin1_aae02 14 = .ok (.goto 4, 3) := by decide +kernel
theorem dJ0_isLatin1_aae02_17 : decode cJ0_isLatin1_aae02 17 = .ok (.iconst 0, 1) := by decide +kernel
theorem dJ0_isLatin1_aae02_18 : decode cJ0_isLatin1_aae02 18 = .ok (.ireturn, 1) := by decide +kernel
theorem dJ0_checkIndex_df160_0 : decode cJ0_checkIndex_df160 0 = .ok (.iload_n 0, 1) := by decide +kernel
theorem dJ0_checkIndex_df160_1 : decode cJ0_checkIndex_df160 1 = .ok (.iload_n 1, 1) := by decide +kernel
theorem dJ0_checkIndex_df160_2 : decode cJ0_checkIndex_df160 2 = .ok (.getstatic 1053, 3) := by decide +kernel
theorem dJ0_checkIndex_df160_5 : decode cJ0_checkIndex_df160 5 = .ok (.invokestatic 1059, 3) := by decide +kernel
theorem dJ0_checkIndex_df160_8 : decode cJ0_checkIndex_df160 8 = .ok (.pop, 1) := by decide +kernel
theorem dJ0_checkIndex_df160_9 : decode cJ0_checkIndex_df160 9 = .ok (.return_, 1) := by decide +kernel
theorem dJ1_charAt_3b067_0 : decode cJ1_charAt_3b067 0 = .ok (.iload_n 1, 1) := by decide +kernel
theorem dJ1_charAt_3b067_1 : decode cJ1_charAt_3b067 1 = .ok (.aload_n 0, 1) := by decide +kernel
theorem dJ1_charAt_3b067_2 : decode cJ1_charAt_3b067 2 = .ok (.arraylength, 1) := by decide +kernel
theorem dJ1_charAt_3b067_3 : decode cJ1_charAt_3b067 3 = .ok (.invokestatic 9, 3) := by decide +kernel
theorem dJ1_charAt_3b067_6 : decode cJ1_charAt_3b067 6 = .ok (.aload_n 0, 1) := by decide +kernel
theorem dJ1_charAt_3b067_7 : decode cJ1_charAt_3b067 7 = .ok (.iload_n 1, 1) := by decide +kernel
theorem dJ1_charAt_3b067_8 : decode cJ1_charAt_3b067 8 = .ok (.baload, 1) := by decide +kernel
theorem dJ1_charAt_3b067_9 : decode cJ1_charAt_3b067 9 = .ok (.sipush 255, 3) := by decide +kernel
theorem dJ1_charAt_3b067_12 : decode cJ1_charAt_3b067 12 = .ok (.iand, 1) := by decide +kernel
theorem dJ1_charAt_3b067_13 : decode cJ1_charAt_3b067 13 = .ok (.i2c, 1) := by decide +kernel
theorem dJ1_charAt_3b067_14 : decode cJ1_charAt_3b067 14 = .ok (.ireturn, 1) := by decide +kernel
theorem dJ2_getChar_3b067_0 : decode cJ2_getChar_3b067 0 = .ok (.getstatic 44, 3) := by decide +kernel
theorem dJ2_getChar_3b067_3 : decode cJ2_getChar_3b067 3 = .ok (.ifCond .ne 25, 3) := by decide +kernel
theorem dJ2_getChar_3b067_6 : decode cJ2_getChar_3b067 6 = .ok (.iload_n 1, 1) := by decide +kernel
theorem dJ2_getChar_3b067_7 : decode cJ2_getChar_3b067 7 = .ok (.ifCond .lt 11, 3) := by decide +kernel
theorem dJ2_getChar_3b067_10 : decode cJ2_getChar_3b067 10 = .ok (.iload_n 1, 1) := by decide +kernel
theorem dJ2_getChar_3b067_11 : decode cJ2_getChar_3b067 11 = .ok (.aload_n 0, 1) := by decide +kernel
theorem dJ2_getChar_3b067_12 : decode cJ2_getChar_3b067 12 = .ok (.invokestatic 48, 3) := by decide +kernel
theorem dJ2_getChar_3b067_15 : decode cJ2_getChar_3b067 15 = .ok (.if_icmp .lt 13, 3) := by decide +kernel
theorem dJ2_getChar_3b067_18 : decode cJ2_getChar_3b067 18 = .ok (.new 52, 3) := by decide +kernel
theorem dJ2_getChar_3b067_21 : decode cJ2_getChar_3b067 21 = .ok (.dup, 1) := by decide +kernel
theorem dJ2_getChar_3b067_22 : decode cJ2_getChar_3b067 22 = .ok (.ldc 54, 2) := by decide +kernel
theorem dJ2_getChar_3b067_24 : decode cJ2_getChar_3b067 24 = .ok (.invokespecial 56, 3) := by decide +kernel
theorem dJ2_getChar_3b067_27 : decode cJ2_getChar_3b067 27 = .ok (.athrow, 1) := by decide +kernel
theorem dJ2_getChar_3b067_28 : decode cJ2_getChar_3b067 28 = .ok (.iload_n 1, 1) := by decide +kernel
theorem dJ2_getChar_3b067_29 : decode cJ2_getChar_3b067 29 = .ok (.iconst 1, 1) := by decide +kernel
theorem dJ2_getChar_3b067_30 : decode cJ2_getChar_3b067 30 = .ok (.ishl, 1) := by decide +kernel
theorem dJ2_getChar_3b067_31 : decode cJ2_getChar_3b067 31 = .ok (.istore_n 1, 1) := by decide +kernel
theorem dJ2_getChar_3b067_32 : decode cJ2_getChar_3b067 32 = .ok (.aload_n 0, 1) := by decide +kernel
theorem dJ2_getChar_3b067_33 : decode cJ2_getChar_3b067 33 = .ok (.iload_n 1, 1) := by decide +kernel
theorem dJ2_getChar_3b067_34 : decode cJ2_getChar_3b067 34 = .ok (.iinc 1 1, 3) := by decide +kernel
theorem dJ2_getChar_3b067_37 : decode cJ2_getChar_3b067 37 = .ok (.baload, 1) := by decide +kernel
theorem dJ2_getChar_3b067_38 : decode cJ2_getChar_3b067 38 = .ok (.sipush 255, 3) := by decide +kernel
theorem dJ2_getChar_3b067_41 : decode cJ2_getChar_3b067 41 = .ok (.iand, 1) := by decide +kernel
theorem dJ2_getChar_3b067_42 : decode cJ2_getChar_3b067 42 = .ok (.getstatic 59, 3) := by decide +kernel
theorem dJ2_getChar_3b067_45 : decode cJ2_getChar_3b067 45 = .ok (.ishl, 1) := by decide +kernel
theorem dJ2_getChar_3b067_46 : decode cJ2_getChar_3b067 46 = .ok (.aload_n 0, 1) := by decide +kernel
theorem dJ2_getChar_3b067_47 : decode cJ2_getChar_3b067 47 = .ok (.iload_n 1, 1) := by decide +kernel
theorem dJ2_getChar_3b067_48 : decode cJ2_getChar_3b067 48 = .ok (.baload, 1) := by decide +kernel
theorem dJ2_getChar_3b067_49 : decode cJ2_getChar_3b067 49 = .ok (.sipush 255, 3) := by decide +kernel
theorem dJ2_getChar_3b067_52 : decode cJ2_getChar_3b067 52 = .ok (.iand, 1) := by decide +kernel
theorem dJ2_getChar_3b067_53 : decode cJ2_getChar_3b067 53 = .ok (.getstatic 63, 3) := by decide +kernel
theorem dJ2_getChar_3b067_56 : decode cJ2_getChar_3b067 56 = .ok (.ishl, 1) := by decide +kernel
theorem dJ2_getChar_3b067_57 : decode cJ2_getChar_3b067 57 = .ok (.ior, 1) := by decide +kernel
theorem dJ2_getChar_3b067_58 : decode cJ2_getChar_3b067 58 = .ok (.i2c, 1) := by decide +kernel
theorem dJ2_getChar_3b067_59 : decode cJ2_getChar_3b067 59 = .ok (.ireturn, 1) := by decide +kernel
theorem dJ2_length_9d52b_0 : decode cJ2_length_9d52b 0 = .ok (.aload_n 0, 1) := by decide +kernel
theorem dJ2_length_9d52b_1 : decode cJ2_length_9d52b 1 = .ok (.arraylength, 1) := by decide +kernel
theorem dJ2_length_9d52b_2 : decode cJ2_length_9d52b 2 = .ok (.iconst 1, 1) := by decide +kernel
theorem dJ2_length_9d52b_3 : decode cJ2_length_9d52b 3 = .ok (.ishr, 1) := by decide +kernel
theorem dJ2_length_9d52b_4 : decode cJ2_length_9d52b 4 = .ok (.ireturn, 1) := by decide +kernel
theorem dJ2_charAt_3b067_0 : decode cJ2_charAt_3b067 0 = .ok (.iload_n 1, 1) := by decide +kernel
theorem dJ2_charAt_3b067_1 : decode cJ2_charAt_3b067 1 = .ok (.aload_n 0, 1) := by decide +kernel
theorem dJ2_charAt_3b067_2 : decode cJ2_charAt_3b067 2 = .ok (.invokestatic 67, 3) := by decide +kernel
theorem dJ2_charAt_3b067_5 : decode cJ2_charAt_3b067 5 = .ok (.aload_n 0, 1) := by decide +kernel
theorem dJ2_charAt_3b067_6 : decode cJ2_charAt_3b067 6 = .ok (.iload_n 1, 1) := by decide +kernel
theorem dJ2_charAt_3b067_7 : decode cJ2_charAt_3b067 7 = .ok (.invokestatic 71, 3) := by decide +kernel
theorem dJ2_charAt_3b067_10 : decode cJ2_charAt_3b067 10 = .ok (.ireturn, 1) := by decide +kernel
theorem dJ2_checkIndex_2214a_0 : decode cJ2_checkIndex_2214a 0 = .ok (.iload_n 0, 1) := by decide +kernel
theorem dJ2_checkIndex_2214a_1 : decode cJ2_checkIndex_2214a 1 = .ok (.aload_n 1, 1) := by decide +kernel
theorem dJ2_checkIndex_2214a_2 : decode cJ2_checkIndex_2214a 2 = .ok (.invokestatic 48, 3) := by decide +kernel
theorem dJ2_checkIndex_2214a_5 : decode cJ2_checkIndex_2214a 5 = .ok (.invokestatic 414, 3) := by decide +kernel
theorem dJ2_checkIndex_2214a_8 : decode cJ2_checkIndex_2214a 8 = .ok (.return_, 1) := by decide +kernel
theorem dJ3_checkIndex_8e157_0 : decode cJ3_checkIndex_8e157 0 = .ok (.iload_n 0, 1) := by decide +kernel
theorem dJ3_checkIndex_8e157_1 : decode cJ3_checkIndex_8e157 1 = .ok (.ifCond .lt 8, 3) := by decide +kernel
theorem dJ3_checkIndex_8e157_4 : decode cJ3_checkIndex_8e157 4 = .ok (.iload_n 0, 1) := by decide +kernel
theorem dJ3_checkIndex_8e157_5 : decode cJ3_checkIndex_8e157 5 = .ok (.iload_n 1, 1) := by decide +kernel
theorem dJ3_checkIndex_8e157_6 : decode cJ3_checkIndex_8e157 6 = .ok (.if_icmp .lt 10, 3) := by decide +kernel
theorem dJ3_checkIndex_8e157_9 : decode cJ3_checkIndex_8e157 9 = .ok (.aload_n 2, 1) := by decide +kernel
theorem dJ3_checkIndex_8e157_10 : decode cJ3_checkIndex_8e157 10 = .ok (.iload_n 0, 1) := by decide +kernel
theorem dJ3_checkIndex_8e157_11 : decode cJ3_checkIndex_8e157 11 = .ok (.iload_n 1, 1) := by decide +kernel
theorem dJ3_checkIndex_8e157_12 : decode cJ3_checkIndex_8e157 12 = .ok (.invokestatic 95, 3) := by decide +kernel
theorem dJ3_checkIndex_8e157_15 : decode cJ3_checkIndex_8e157 15 = .ok (.athrow, 1) := by decide +kernel
theorem dJ3_checkIndex_8e157_16 : decode cJ3_checkIndex_8e157 16 = .ok (.iload_n 0, 1) := by decide +kernel
theorem dJ3_checkIndex_8e157_17 : decode cJ3_checkIndex_8e157 17 = .ok (.ireturn, 1) := by decide +kernel
theorem dL_law_0 : decode cL_law 0 = .ok (.new 7, 3) := by decide +kernel
theorem dL_law_3 : decode cL_law 3 = .ok (.dup, 1) := by decide +kernel
theorem dL_law_4 : decode cL_law 4 = .ok (.invokespecial 9, 3) := by decide +kernel
theorem dL_law_7 : decode cL_law 7 = .ok (.astore_n 1, 1) := by decide +kernel
theorem dL_law_8 : decode cL_law 8 = .ok (.new 10, 3) := by decide +kernel
theorem dL_law_11 : decode cL_law 11 = .ok (.dup, 1) := by decide +kernel
theorem dL_law_12 : decode cL_law 12 = .ok (.invokespecial 12, 3) := by decide +kernel
theorem dL_law_15 : decode cL_law 15 = .ok (.astore_n 2, 1) := by decide +kernel
theorem dL_law_16 : decode cL_law 16 = .ok (.iconst 0, 1) := by decide +kernel
theorem dL_law_17 : decode cL_law 17 = .ok (.istore_n 3, 1) := by decide +kernel
theorem dL_law_18 : decode cL_law 18 = .ok (.iload_n 3, 1) := by decide +kernel
theorem dL_law_19 : decode cL_law 19 = .ok (.aload_n 0, 1) := by decide +kernel
theorem dL_law_20 : decode cL_law 20 = .ok (.arraylength, 1) := by decide +kernel
theorem dL_law_21 : decode cL_law 21 = .ok (.bipush 6, 2) := by decide +kernel
theorem dL_law_23 : decode cL_law 23 = .ok (.isub, 1) := by decide +kernel
theorem dL_law_24 : decode cL_law 24 = .ok (.if_icmp .gt 1130, 3) := by decide +kernel
theorem dL_law_27 : decode cL_law 27 = .ok (.aload_n 0, 1) := by decide +kernel
theorem dL_law_28 : decode cL_law 28 = .ok (.iload_n 3, 1) := by decide +kernel
theorem dL_law_29 : decode cL_law 29 = .ok (.iaload, 1) := by decide +kernel
theorem dL_law_30 : decode cL_law 30 = .ok (.bipush 31, 2) := by decide +kernel
theorem dL_law_32 : decode cL_law 32 = .ok (.iand, 1) := by decide +kernel
theorem dL_law_33 : decode cL_law 33 = .ok (.tableswitch 1115 0 29 #[135, 178, 221, 284, 307, 370, 383, 396, 439, 472, 495, 508, 531, 564, 607, 660, 703, 736, 779, 812, 855, 888, 921, 944, 967, 990, 1023, 1056, 1079, 1102], 135) := by decide +kernel
theorem dL_law_168 : decode cL_law 168 = .ok (.aload_n 1, 1) := by decide +kernel
theorem dL_law_169 : decode cL_law 169 = .ok (.aload_n 0, 1) := by decide +kernel
theorem dL_law_170 : decode cL_law 170 = .ok (.iload_n 3, 1) := by decide +kernel
theorem dL_law_171 : decode cL_law 171 = .ok (.iconst 1, 1) := by decide +kernel
theorem dL_law_172 : decode cL_law 172 = .ok (.iadd, 1) := by decide +kernel
theorem dL_law_173 : decode cL_law 173 = .ok (.iaload, 1) := by decide +kernel
theorem dL_law_174 : decode cL_law 174 = .ok (.aload_n 0, 1) := by decide +kernel
theorem dL_law_175 : decode cL_law 175 = .ok (.iload_n 3, 1) := by decide +kernel
theorem dL_law_176 : decode cL_law 176 = .ok (.iconst 2, 1) := by decide +kernel
theorem dL_law_177 : decode cL_law 177 = .ok (.iadd, 1) := by decide +kernel
theorem dL_law_178 : decode cL_law 178 = .ok (.iaload, 1) := by decide +kernel
theorem dL_law_179 : decode cL_law 179 = .ok (.aload_n 0, 1) := by decide +kernel
theorem dL_law_180 : decode cL_law 180 = .ok (.iload_n 3, 1) := by decide +kernel
theorem dL_law_181 : decode cL_law 181 = .ok (.iconst 3, 1) := by decide +kernel
theorem dL_law_182 : decode cL_law 182 = .ok (.iadd, 1) := by decide +kernel
theorem dL_law_183 : decode cL_law 183 = .ok (.iaload, 1) := by decide +kernel
theorem dL_law_184 : decode cL_law 184 = .ok (.invokevirtual 13, 3) := by decide +kernel
theorem dL_law_187 : decode cL_law 187 = .ok (.aload_n 2, 1) := by decide +kernel
theorem dL_law_188 : decode cL_law 188 = .ok (.aload_n 0, 1) := by decide +kernel
theorem dL_law_189 : decode cL_law 189 = .ok (.iload_n 3, 1) := by decide +kernel
theorem dL_law_190 : decode cL_law 190 = .ok (.iconst 1, 1) := by decide +kernel
theorem dL_law_191 : decode cL_law 191 = .ok (.iadd, 1) := by decide +kernel
theorem dL_law_192 : decode cL_law 192 = .ok (.iaload, 1) := by decide +kernel
theorem dL_law_193 : decode cL_law 193 = .ok (.aload_n 0, 1) := by decide +kernel
theorem dL_law_194 : decode cL_law 194 = .ok (.iload_n 3, 1) := by decide +kernel
theorem dL_law_195 : decode cL_law 195 = .ok (.iconst 2, 1) := by decide +kernel
theorem dL_law_196 : decode cL_law 196 = .ok (.iadd, 1) := by decide +kernel
theorem dL_law_197 : decode cL_law 197 = .ok (.iaload, 1) := by decide +kernel
theorem dL_law_198 : decode cL_law 198 = .ok (.aload_n 0, 1) := by decide +kernel
theorem dL_law_199 : decode cL_law 199 = .ok (.iload_n 3, 1) := by decide +kernel
theorem dL_law_200 : decode cL_law 200 = .ok (.iconst 3, 1) := by decide +kernel
theorem dL_law_201 : decode cL_law 201 = .ok (.iadd, 1) := by decide +kernel
theorem dL_law_202 : decode cL_law 202 = .ok (.iaload, 1) := by decide +kernel
theorem dL_law_203 : decode cL_law 203 = .ok (.invokevirtual 17, 3) := by decide +kernel
theorem dL_law_206 : decode cL_law 206 = .ok (.if_icmp .eq 942, 3) := by decide +kernel
theorem dL_law_209 : decode cL_law 209 = .ok (.iconst 0, 1) := by decide +kernel
theorem dL_law_210 : decode cL_law 210 = .ok (.ireturn, 1) := by decide +kernel
theorem dL_law_211 : decode cL_law 211 = .ok (.aload_n 1, 1) := by decide +kernel
theorem dL_law_212 : decode cL_law 212 = .ok (.aload_n 0, 1) := by decide +kernel
theorem dL_law_213 : decode cL_law 213 = .ok (.iload_n 3, 1) := by decide +kernel
theorem dL_law_214 : decode cL_law 214 = .ok (.iconst 1, 1) := by decide +kernel
theorem dL_law_215 : decode cL_law 215 = .ok (.iadd, 1) := by decide +kernel
theorem dL_law_216 : decode cL_law 216 = .ok (.iaload, 1) := by decide +kernel
theorem dL_law_217 : decode cL_law 217 = .ok (.aload_n 0, 1) := by decide +kernel
theorem dL_law_218 : decode cL_law 218 = .ok (.iload_n 3, 1) := by decide +kernel
theorem dL_law_219 : decode cL_law 219 = .ok (.iconst 2, 1) := by decide +kernel
theorem dL_law_220 : decode cL_law 220 = .ok (.iadd, 1) := by decide +kernel
theorem dL_law_221 : decode cL_law 221 = .ok (.iaload, 1) := by decide +kernel
theorem dL_law_222 : decode cL_law 222 = .ok (.aload_n 0, 1) := by decide +kernel
theorem dL_law_223 : decode cL_law 223 = .ok (.iload_n 3, 1) := by decide +kernel
theorem dL_law_224 : decode cL_law 224 = .ok (.iconst 3, 1) := by decide +kernel
theorem dL_law_225 : decode cL_law 225 = .ok (.iadd, 1) := by decide +kernel
theorem dL_law_226 : decode cL_law 226 = .ok (.iaload, 1) := by decide +kernel
theorem dL_law_227 : decode cL_law 227 = .ok (.invokevirtual 18, 3) := by decide +kernel
theorem dL_law_230 : decode cL_law 230 = .ok (.aload_n 2, 1) := by decide +kernel
theorem dL_law_231 : decode cL_law 231 = .ok (.aload_n 0, 1) := by decide +kernel
theorem dL_law_232 : decode cL_law 232 = .ok (.iload_n 3, 1) := by decide +kernel
theorem dL_law_233 : decode cL_law 233 = .ok (.iconst 1, 1) := by decide +kernel
theorem dL_law_234 : decode cL_law 234 = .ok (.iadd, 1) := by decide +kernel
theorem dL_law_235 : decode cL_law 235 = .ok (.iaload, 1) := by decide +kernel
theorem dL_law_236 : decode cL_law 236 = .ok (.aload_n 0, 1) := by decide +kernel
theorem dL_law_237 : decode cL_law 237 = .ok (.iload_n 3, 1) := by decide +kernel
theorem dL_law_238 : decode cL_law 238 = .ok (.iconst 2, 1) := by decide +kernel
theorem dL_law_239 : decode cL_law 239 = .ok (.iadd, 1) := by decide +kernel
theorem dL_law_240 : decode cL_law 240 = .ok (.iaload, 1) := by decide +kernel
theorem dL_law_241 : decode cL_law 241 = .ok (.aload_n 0, 1) := by decide +kernel
theorem dL_law_242 : decode cL_law 242 = .ok (.iload_n 3, 1) := by decide +kernel
theorem dL_law_243 : decode cL_law 243 = .ok (.iconst 3, 1) := by decide +kernel
theorem dL_law_244 : decode cL_law 244 = .ok (.iadd, 1) := by decide +kernel
theorem dL_law_245 : decode cL_law 245 = .ok (.iaload, 1) := by decide +kernel
theorem dL_law_246 : decode cL_law 246 = .ok (.invokevirtual 21, 3) := by decide +kernel
theorem dL_law_249 : decode cL_law 249 = .ok (.if_icmp .eq 899, 3) := by decide +kernel
theorem dL_law_252 : decode cL_law 252 = .ok (.iconst 0, 1) := by decide +kernel
theorem dL_law_253 : decode cL_law 253 = .ok (.ireturn, 1) := by decide +kernel
theorem dL_law_254 : decode cL_law 254 = .ok (.aload_n 1, 1) := by decide +kernel
theorem dL_law_255 : decode cL_law 255 = .ok (.aload_n 0, 1) := by decide +kernel
theorem dL_law_256 : decode cL_law 256 = .ok (.iload_n 3, 1) := by decide +kernel
theorem dL_law_257 : decode cL_law 257 = .ok (.iconst 1, 1) := by decide +kernel
theorem dL_law_258 : decode cL_law 258 = .ok (.iadd, 1) := by decide +kernel
theorem dL_law_259 : decode cL_law 259 = .ok (.iaload, 1) := by decide +kernel
theorem dL_law_260 : decode cL_law 260 = .ok (.aload_n 0, 1) := by decide +kernel
theorem dL_law_261 : decode cL_law 261 = .ok (.iload_n 3, 1) := by decide +kernel
theorem dL_law_262 : decode cL_law 262 = .ok (.iconst 2, 1) := by decide +kernel
theorem dL_law_263 : decode cL_law 263 = .ok (.iadd, 1) := by decide +kernel
theorem dL_law_264 : decode cL_law 264 = .ok (.iaload, 1) := by decide +kernel
theorem dL_law_265 : decode cL_law 265 = .ok (.aload_n 0, 1) := by decide +kernel
theorem dL_law_266 : decode cL_law 266 = .ok (.iload_n 3, 1) := by decide +kernel
theorem dL_law_267 : decode cL_law 267 = .ok (.iconst 3, 1) := by decide +kernel
theorem dL_law_268 : decode cL_law 268 = .ok (.iadd, 1) := by decide +kernel
theorem dL_law_269 : decode cL_law 269 = .ok (.iaload, 1) := by decide +kernel
theorem dL_law_270 : decode cL_law 270 = .ok (.aload_n 0, 1) := by decide +kernel
theorem dL_law_271 : decode cL_law 271 = .ok (.iload_n 3, 1) := by decide +kernel
theorem dL_law_272 : decode cL_law 272 = .ok (.iconst 4, 1) := by decide +kernel
theorem dL_law_273 : decode cL_law 273 = .ok (.iadd, 1) := by decide +kernel
theorem dL_law_274 : decode cL_law 274 = .ok (.iaload, 1) := by decide +kernel
theorem dL_law_275 : decode cL_law 275 = .ok (.aload_n 0, 1) := by decide +kernel
theorem dL_law_276 : decode cL_law 276 = .ok (.iload_n 3, 1) := by decide +kernel
theorem dL_law_277 : decode cL_law 277 = .ok (.iconst 5, 1) := by decide +kernel
theorem dL_law_278 : decode cL_law 278 = .ok (.iadd, 1) := by decide +kernel
theorem dL_law_279 : decode cL_law 279 = .ok (.iaload, 1) := by decide +kernel
theorem dL_law_280 : decode cL_law 280 = .ok (.invokevirtual 22, 3) := by decide +kernel
theorem dL_law_283 : decode cL_law 283 = .ok (.aload_n 2, 1) := by decide +kernel
theorem dL_law_284 : decode cL_law 284 = .ok (.aload_n 0, 1) := by decide +kernel
theorem dL_law_285 : decode cL_law 285 = .ok (.iload_n 3, 1) := by decide +kernel
theorem dL_law_286 : decode cL_law 286 = .ok (.iconst 1, 1) := by decide +kernel
theorem dL_law_287 : decode cL_law 287 = .ok (.iadd, 1) := by decide +kernel
theorem dL_law_288 : decode cL_law 288 = .ok (.iaload, 1) := by decide +kernel
theorem dL_law_289 : decode cL_law 289 = .ok (.aload_n 0, 1) := by decide +kernel
theorem dL_law_290 : decode cL_law 290 = .ok (.iload_n 3, 1) := by decide +kernel
theorem dL_law_291 : decode cL_law 291 = .ok (.iconst 2, 1) := by decide +kernel
theorem dL_law_292 : decode cL_law 292 = .ok (.iadd, 1) := by decide +kernel
theorem dL_law_293 : decode cL_law 293 = .ok (.iaload, 1) := by decide +kernel
theorem dL_law_294 : decode cL_law 294 = .ok (.aload_n 0, 1) := by decide +kernel
theorem dL_law_295 : decode cL_law 295 = .ok (.iload_n 3, 1) := by decide +kernel
theorem dL_law_296 : decode cL_law 296 = .ok (.iconst 3, 1) := by decide +kernel
theorem dL_law_297 : decode cL_law 297 = .ok (.iadd, 1) := by decide +kernel
theorem dL_law_298 : decode cL_law 298 = .ok (.iaload, 1) := by decide +kernel
theorem dL_law_299 : decode cL_law 299 = .ok (.aload_n 0, 1) := by decide +kernel
theorem dL_law_300 : decode cL_law 300 = .ok (.iload_n 3, 1) := by decide +kernel
theorem dL_law_301 : decode cL_law 301 = .ok (.iconst 4, 1) := by decide +kernel
theorem dL_law_302 : decode cL_law 302 = .ok (.iadd, 1) := by decide +kernel
theorem dL_law_303 : decode cL_law 303 = .ok (.iaload, 1) := by decide +kernel
theorem dL_law_304 : decode cL_law 304 = .ok (.aload_n 0, 1) := by decide +kernel
theorem dL_law_305 : decode cL_law 305 = .ok (.iload_n 3, 1) := by decide +kernel
theorem dL_law_306 : decode cL_law 306 = .ok (.iconst 5, 1) := by decide +kernel
theorem dL_law_307 : decode cL_law 307 = .ok (.iadd, 1) := by decide +kernel
theorem dL_law_308 : decode cL_law 308 = .ok (.iaload, 1) := by decide +kernel
theorem dL_law_309 : decode cL_law 309 = .ok (.invokevirtual 26, 3) := by decide +kernel
theorem dL_law_312 : decode cL_law 312 = .ok (.if_icmp .eq 836, 3) := by decide +kernel
theorem dL_law_315 : decode cL_law 315 = .ok (.iconst 0, 1) := by decide +kernel
theorem dL_law_316 : decode cL_law 316 = .ok (.ireturn, 1) := by decide +kernel
theorem dL_law_317 : decode cL_law 317 = .ok (.aload_n 1, 1) := by decide +kernel
theorem dL_law_318 : decode cL_law 318 = .ok (.aload_n 0, 1) := by decide +kernel
theorem dL_law_319 : decode cL_law 319 = .ok (.iload_n 3, 1) := by decide +kernel
theorem dL_law_320 : decode cL_law 320 = .ok (.iconst 1, 1) := by decide +kernel
theorem dL_law_321 : decode cL_law 321 = .ok (.iadd, 1) := by decide +kernel
theorem dL_law_322 : decode cL_law 322 = .ok (.iaload, 1) := by decide +kernel
theorem dL_law_323 : decode cL_law 323 = .ok (.invokevirtual 27, 3) := by decide +kernel
theorem dL_law_326 : decode cL_law 326 = .ok (.aload_n 2, 1) := by decide +kernel
theorem dL_law_327 : decode cL_law 327 = .ok (.aload_n 0, 1) := by decide +kernel
theorem dL_law_328 : decode cL_law 328 = .ok (.iload_n 3, 1) := by decide +kernel
theorem dL_law_329 : decode cL_law 329 = .ok (.iconst 1, 1) := by decide +kernel
theorem dL_law_330 : decode cL_law 330 = .ok (.iadd, 1) := by decide +kernel
theorem dL_law_331 : decode cL_law 331 = .ok (.iaload, 1) := by decide +kernel
theorem dL_law_332 : decode cL_law 332 = .ok (.invokevirtual 31, 3) := by decide +kernel
theorem dL_law_335 : decode cL_law 335 = .ok (.if_icmp .eq 813, 3) := by decide +kernel
theorem dL_law_338 : decode cL_law 338 = .ok (.iconst 0, 1) := by decide +kernel
theorem dL_law_339 : decode cL_law 339 = .ok (.ireturn, 1) := by decide +kernel
theorem dL_law_340 : decode cL_law 340 = .ok (.aload_n 1, 1) := by decide +kernel
theorem dL_law_341 : decode cL_law 341 = .ok (.aload_n 0, 1) := by decide +kernel
theorem dL_law_342 : decode cL_law 342 = .ok (.iload_n 3, 1) := by decide +kernel
theorem dL_law_343 : decode cL_law 343 = .ok (.iconst 1, 1) := by decide +kernel
theorem dL_law_344 : decode cL_law 344 = .ok (.iadd, 1) := by decide +kernel
theorem dL_law_345 : decode cL_law 345 = .ok (.iaload, 1) := by decide +kernel
theorem dL_law_346 : decode cL_law 346 = .ok (.i2l, 1) := by decide +kernel
theorem dL_law_347 : decode cL_law 347 = .ok (.bipush 32, 2) := by decide +kernel
theorem dL_law_349 : decode cL_law 349 = .ok (.lshl, 1) := by decide +kernel
theorem dL_law_350 : decode cL_law 350 = .ok (.aload_n 0, 1) := by decide +kernel
theorem dL_law_351 : decode cL_law 351 = .ok (.iload_n 3, 1) := by decide +kernel
theorem dL_law_352 : decode cL_law 352 = .ok (.iconst 2, 1) := by decide +kernel
theorem dL_law_353 : decode cL_law 353 = .ok (.iadd, 1) := by decide +kernel
theorem dL_law_354 : decode cL_law 354 = .ok (.iaload, 1) := by decide +kernel
theorem dL_law_355 : decode cL_law 355 = .ok (.i2l, 1) := by decide +kernel
theorem dL_law_356 : decode cL_law 356 = .ok (.ldc2_w 32, 3) := by decide +kernel
theorem dL_law_359 : decode cL_law 359 = .ok (.land, 1) := by decide +kernel
theorem dL_law_360 : decode cL_law 360 = .ok (.lor, 1) := by decide +kernel
theorem dL_law_361 : decode cL_law 361 = .ok (.aload_n 0, 1) := by decide +kernel
theorem dL_law_362 : decode cL_law 362 = .ok (.iload_n 3, 1) := by decide +kernel
theorem dL_law_363 : decode cL_law 363 = .ok (.iconst 3, 1) := by decide +kernel
theorem dL_law_364 : decode cL_law 364 = .ok (.iadd, 1) := by decide +kernel
theorem dL_law_365 : decode cL_law 365 = .ok (.iaload, 1) := by decide +kernel
theorem dL_law_366 : decode cL_law 366 = .ok (.invokevirtual 34, 3) := by decide +kernel
theorem dL_law_369 : decode cL_law 369 = .ok (.aload_n 2, 1) := by decide +kernel
theorem dL_law_370 : decode cL_law 370 = .ok (.aload_n 0, 1) := by decide +kernel
theorem dL_law_371 : decode cL_law 371 = .ok (.iload_n 3, 1) := by decide +kernel
theorem dL_law_372 : decode cL_law 372 = .ok (.iconst 1, 1) := by decide +kernel
theorem dL_law_373 : decode cL_law 373 = .ok (.iadd, 1) := by decide +kernel
theorem dL_law_374 : decode cL_law 374 = .ok (.iaload, 1) := by decide +kernel
theorem dL_law_375 : decode cL_law 375 = .ok (.i2l, 1) := by decide +kernel
theorem dL_law_376 : decode cL_law 376 = .ok (.bipush 32, 2) := by decide +kernel
theorem dL_law_378 : decode cL_law 378 = .ok (.lshl, 1) := by decide +kernel
theorem dL_law_379 : decode cL_law 379 = .ok (.aload_n 0, 1) := by decide +kernel
theorem dL_law_380 : decode cL_law 380 = .ok (.iload_n 3, 1) := by decide +kernel
theorem dL_law_381 : decode cL_law 381 = .ok (.iconst 2, 1) := by decide +kernel
theorem dL_law_382 : decode cL_law 382 = .ok (.iadd, 1) := by decide +kernel
theorem dL_law_383 : decode cL_law 383 = .ok (.iaload, 1) := by decide +kernel
theorem dL_law_384 : decode cL_law 384 = .ok (.i2l, 1) := by decide +kernel
theorem dL_law_385 : decode cL_law 385 = .ok (.ldc2_w 32, 3) := by decide +kernel
theorem dL_law_388 : decode cL_law 388 = .ok (.land, 1) := by decide +kernel
theorem dL_law_389 : decode cL_law 389 = .ok (.lor, 1) := by decide +kernel
theorem dL_law_390 : decode cL_law 390 = .ok (.aload_n 0, 1) := by decide +kernel
theorem dL_law_391 : decode cL_law 391 = .ok (.iload_n 3, 1) := by decide +kernel
theorem dL_law_392 : decode cL_law 392 = .ok (.iconst 3, 1) := by decide +kernel
theorem dL_law_393 : decode cL_law 393 = .ok (.iadd, 1) := by decide +kernel
theorem dL_law_394 : decode cL_law 394 = .ok (.iaload, 1) := by decide +kernel
theorem dL_law_395 : decode cL_law 395 = .ok (.invokevirtual 38, 3) := by decide +kernel
theorem dL_law_398 : decode cL_law 398 = .ok (.if_icmp .eq 750, 3) := by decide +kernel
theorem dL_law_401 : decode cL_law 401 = .ok (.iconst 0, 1) := by decide +kernel
theorem dL_law_402 : decode cL_law 402 = .ok (.ireturn, 1) := by decide +kernel
theorem dL_law_403 : decode cL_law 403 = .ok (.aload_n 1, 1) := by decide +kernel
theorem dL_law_404 : decode cL_law 404 = .ok (.invokevirtual 39, 3) := by decide +kernel
theorem dL_law_407 : decode cL_law 407 = .ok (.aload_n 2, 1) := by decide +kernel
theorem dL_law_408 : decode cL_law 408 = .ok (.invokevirtual 43, 3) := by decide +kernel
theorem dL_law_411 : decode cL_law 411 = .ok (.if_icmp .eq 737, 3) := by decide +kernel
theorem dL_law_414 : decode cL_law 414 = .ok (.iconst 0, 1) := by decide +kernel
theorem dL_law_415 : decode cL_law 415 = .ok (.ireturn, 1) := by decide +kernel
theorem dL_law_416 : decode cL_law 416 = .ok (.aload_n 1, 1) := by decide +kernel
theorem dL_law_417 : decode cL_law 417 = .ok (.invokevirtual 44, 3) := by decide +kernel
theorem dL_law_420 : decode cL_law 420 = .ok (.aload_n 2, 1) := by decide +kernel
theorem dL_law_421 : decode cL_law 421 = .ok (.invokevirtual 47, 3) := by decide +kernel
theorem dL_law_424 : decode cL_law 424 = .ok (.if_icmp .eq 724, 3) := by decide +kernel
theorem dL_law_427 : decode cL_law 427 = .ok (.iconst 0, 1) := by decide +kernel
theorem dL_law_428 : decode cL_law 428 = .ok (.ireturn, 1) := by decide +kernel
theorem dL_law_429 : decode cL_law 429 = .ok (.aload_n 1, 1) := by decide +kernel
theorem dL_law_430 : decode cL_law 430 = .ok (.aload_n 0, 1) := by decide +kernel
theorem dL_law_431 : decode cL_law 431 = .ok (.iload_n 3, 1) := by decide +kernel
theorem dL_law_432 : decode cL_law 432 = .ok (.iconst 1, 1) := by decide +kernel
theorem dL_law_433 : decode cL_law 433 = .ok (.iadd, 1) := by decide +kernel
theorem dL_law_434 : decode cL_law 434 = .ok (.iaload, 1) := by decide +kernel
theorem dL_law_435 : decode cL_law 435 = .ok (.aload_n 0, 1) := by decide +kernel
theorem dL_law_436 : decode cL_law 436 = .ok (.iload_n 3, 1) := by decide +kernel
theorem dL_law_437 : decode cL_law 437 = .ok (.iconst 2, 1) := by decide +kernel
theorem dL_law_438 : decode cL_law 438 = .ok (.iadd, 1) := by decide +kernel
theorem dL_law_439 : decode cL_law 439 = .ok (.iaload, 1) := by decide +kernel
theorem dL_law_440 : decode cL_law 440 = .ok (.aload_n 0, 1) := by decide +kernel
theorem dL_law_441 : decode cL_law 441 = .ok (.iload_n 3, 1) := by decide +kernel
theorem dL_law_442 : decode cL_law 442 = .ok (.iconst 3, 1) := by decide +kernel
theorem dL_law_443 : decode cL_law 443 = .ok (.iadd, 1) := by decide +kernel
theorem dL_law_444 : decode cL_law 444 = .ok (.iaload, 1) := by decide +kernel
theorem dL_law_445 : decode cL_law 445 = .ok (.invokevirtual 48, 3) := by decide +kernel
theorem dL_law_448 : decode cL_law 448 = .ok (.aload_n 2, 1) := by decide +kernel
theorem dL_law_449 : decode cL_law 449 = .ok (.aload_n 0, 1) := by decide +kernel
theorem dL_law_450 : decode cL_law 450 = .ok (.iload_n 3, 1) := by decide +kernel
theorem dL_law_451 : decode cL_law 451 = .ok (.iconst 1, 1) := by decide +kernel
theorem dL_law_452 : decode cL_law 452 = .ok (.iadd, 1) := by decide +kernel
theorem dL_law_453 : decode cL_law 453 = .ok (.iaload, 1) := by decide +kernel
theorem dL_law_454 : decode cL_law 454 = .ok (.aload_n 0, 1) := by decide +kernel
theorem dL_law_455 : decode cL_law 455 = .ok (.iload_n 3, 1) := by decide +kernel
theorem dL_law_456 : decode cL_law 456 = .ok (.iconst 2, 1) := by decide +kernel
theorem dL_law_457 : decode cL_law 457 = .ok (.iadd, 1) := by decide +kernel
theorem dL_law_458 : decode cL_law 458 = .ok (.iaload, 1) := by decide +kernel
theorem dL_law_459 : decode cL_law 459 = .ok (.aload_n 0, 1) := by decide +kernel
theorem dL_law_460 : decode cL_law 460 = .ok (.iload_n 3, 1) := by decide +kernel
theorem dL_law_461 : decode cL_law 461 = .ok (.iconst 3, 1) := by decide +kernel
theorem dL_law_462 : decode cL_law 462 = .ok (.iadd, 1) := by decide +kernel
theorem dL_law_463 : decode cL_law 463 = .ok (.iaload, 1) := by decide +kernel
theorem dL_law_464 : decode cL_law 464 = .ok (.invokevirtual 51, 3) := by decide +kernel
theorem dL_law_467 : decode cL_law 467 = .ok (.if_icmp .eq 681, 3) := by decide +kernel
theorem dL_law_470 : decode cL_law 470 = .ok (.iconst 0, 1) := by decide +kernel
theorem dL_law_471 : decode cL_law 471 = .ok (.ireturn, 1) := by decide +kernel
theorem dL_law_472 : decode cL_law 472 = .ok (.aload_n 1, 1) := by decide +kernel
theorem dL_law_473 : decode cL_law 473 = .ok (.aload_n 0, 1) := by decide +kernel
theorem dL_law_474 : decode cL_law 474 = .ok (.iload_n 3, 1) := by decide +kernel
theorem dL_law_475 : decode cL_law 475 = .ok (.iconst 1, 1) := by decide +kernel
theorem dL_law_476 : decode cL_law 476 = .ok (.iadd, 1) := by decide +kernel
theorem dL_law_477 : decode cL_law 477 = .ok (.iaload, 1) := by decide +kernel
theorem dL_law_478 : decode cL_law 478 = .ok (.aload_n 0, 1) := by decide +kernel
theorem dL_law_479 : decode cL_law 479 = .ok (.iload_n 3, 1) := by decide +kernel
theorem dL_law_480 : decode cL_law 480 = .ok (.iconst 2, 1) := by decide +kernel
theorem dL_law_481 : decode cL_law 481 = .ok (.iadd, 1) := by decide +kernel
theorem dL_law_482 : decode cL_law 482 = .ok (.iaload, 1) := by decide +kernel
theorem dL_law_483 : decode cL_law 483 = .ok (.invokevirtual 52, 3) := by decide +kernel
theorem dL_law_486 : decode cL_law 486 = .ok (.aload_n 2, 1) := by decide +kernel
theorem dL_law_487 : decode cL_law 487 = .ok (.aload_n 0, 1) := by decide +kernel
theorem dL_law_488 : decode cL_law 488 = .ok (.iload_n 3, 1) := by decide +kernel
theorem dL_law_489 : decode cL_law 489 = .ok (.iconst 1, 1) := by decide +kernel
theorem dL_law_490 : decode cL_law 490 = .ok (.iadd, 1) := by decide +kernel
theorem dL_law_491 : decode cL_law 491 = .ok (.iaload, 1) := by decide +kernel
theorem dL_law_492 : decode cL_law 492 = .ok (.aload_n 0, 1) := by decide +kernel
theorem dL_law_493 : decode cL_law 493 = .ok (.iload_n 3, 1) := by decide +kernel
theorem dL_law_494 : decode cL_law 494 = .ok (.iconst 2, 1) := by decide +kernel
theorem dL_law_495 : decode cL_law 495 = .ok (.iadd, 1) := by decide +kernel
theorem dL_law_496 : decode cL_law 496 = .ok (.iaload, 1) := by decide +kernel
theorem dL_law_497 : decode cL_law 497 = .ok (.invokevirtual 56, 3) := by decide +kernel
theorem dL_law_500 : decode cL_law 500 = .ok (.if_icmp .eq 648, 3) := by decide +kernel
theorem dL_law_503 : decode cL_law 503 = .ok (.iconst 0, 1) := by decide +kernel
theorem dL_law_504 : decode cL_law 504 = .ok (.ireturn, 1) := by decide +kernel
theorem dL_law_505 : decode cL_law 505 = .ok (.aload_n 1, 1) := by decide +kernel
theorem dL_law_506 : decode cL_law 506 = .ok (.aload_n 0, 1) := by decide +kernel
theorem dL_law_507 : decode cL_law 507 = .ok (.iload_n 3, 1) := by decide +kernel
theorem dL_law_508 : decode cL_law 508 = .ok (.iconst 1, 1) := by decide +kernel
theorem dL_law_509 : decode cL_law 509 = .ok (.iadd, 1) := by decide +kernel
theorem dL_law_510 : decode cL_law 510 = .ok (.iaload, 1) := by decide +kernel
theorem dL_law_511 : decode cL_law 511 = .ok (.invokevirtual 57, 3) := by decide +kernel
theorem dL_law_514 : decode cL_law 514 = .ok (.aload_n 2, 1) := by decide +kernel
theorem dL_law_515 : decode cL_law 515 = .ok (.aload_n 0, 1) := by decide +kernel
theorem dL_law_516 : decode cL_law 516 = .ok (.iload_n 3, 1) := by decide +kernel
theorem dL_law_517 : decode cL_law 517 = .ok (.iconst 1, 1) := by decide +kernel
theorem dL_law_518 : decode cL_law 518 = .ok (.iadd, 1) := by decide +kernel
theorem dL_law_519 : decode cL_law 519 = .ok (.iaload, 1) := by decide +kernel
theorem dL_law_520 : decode cL_law 520 = .ok (.invokevirtual 60, 3) := by decide +kernel
theorem dL_law_523 : decode cL_law 523 = .ok (.if_icmp .eq 625, 3) := by decide +kernel
theorem dL_law_526 : decode cL_law 526 = .ok (.iconst 0, 1) := by decide +kernel
theorem dL_law_527 : decode cL_law 527 = .ok (.ireturn, 1) := by decide +kernel
theorem dL_law_528 : decode cL_law 528 = .ok (.aload_n 1, 1) := by decide +kernel
theorem dL_law_529 : decode cL_law 529 = .ok (.invokevirtual 61, 3) := by decide +kernel
theorem dL_law_532 : decode cL_law 532 = .ok (.aload_n 2, 1) := by decide +kernel
theorem dL_law_533 : decode cL_law 533 = .ok (.invokevirtual 64, 3) := by decide +kernel
theorem dL_law_536 : decode cL_law 536 = .ok (.if_icmp .eq 612, 3) := by decide +kernel
theorem dL_law_539 : decode cL_law 539 = .ok (.iconst 0, 1) := by decide +kernel
theorem dL_law_540 : decode cL_law 540 = .ok (.ireturn, 1) := by decide +kernel
theorem dL_law_541 : decode cL_law 541 = .ok (.aload_n 1, 1) := by decide +kernel
theorem dL_law_542 : decode cL_law 542 = .ok (.aload_n 0, 1) := by decide +kernel
theorem dL_law_543 : decode cL_law 543 = .ok (.iload_n 3, 1) := by decide +kernel
theorem dL_law_544 : decode cL_law 544 = .ok (.iconst 1, 1) := by decide +kernel
theorem dL_law_545 : decode cL_law 545 = .ok (.iadd, 1) := by decide +kernel
theorem dL_law_546 : decode cL_law 546 = .ok (.iaload, 1) := by decide +kernel
theorem dL_law_547 : decode cL_law 547 = .ok (.invokevirtual 65, 3) := by decide +kernel
theorem dL_law_550 : decode cL_law 550 = .ok (.aload_n 2, 1) := by decide +kernel
theorem dL_law_551 : decode cL_law 551 = .ok (.aload_n 0, 1) := by decide +kernel
theorem dL_law_552 : decode cL_law 552 = .ok (.iload_n 3, 1) := by decide +kernel
theorem dL_law_553 : decode cL_law 553 = .ok (.iconst 1, 1) := by decide +kernel
theorem dL_law_554 : decode cL_law 554 = .ok (.iadd, 1) := by decide +kernel
theorem dL_law_555 : decode cL_law 555 = .ok (.iaload, 1) := by decide +kernel
theorem dL_law_556 : decode cL_law 556 = .ok (.invokevirtual 68, 3) := by decide +kernel
theorem dL_law_559 : decode cL_law 559 = .ok (.if_icmp .eq 589, 3) := by decide +kernel
theorem dL_law_562 : decode cL_law 562 = .ok (.iconst 0, 1) := by decide +kernel
theorem dL_law_563 : decode cL_law 563 = .ok (.ireturn, 1) := by decide +kernel
theorem dL_law_564 : decode cL_law 564 = .ok (.aload_n 1, 1) := by decide +kernel
theorem dL_law_565 : decode cL_law 565 = .ok (.aload_n 0, 1) := by decide +kernel
theorem dL_law_566 : decode cL_law 566 = .ok (.iload_n 3, 1) := by decide +kernel
theorem dL_law_567 : decode cL_law 567 = .ok (.iconst 1, 1) := by decide +kernel
theorem dL_law_568 : decode cL_law 568 = .ok (.iadd, 1) := by decide +kernel
theorem dL_law_569 : decode cL_law 569 = .ok (.iaload, 1) := by decide +kernel
theorem dL_law_570 : decode cL_law 570 = .ok (.aload_n 0, 1) := by decide +kernel
theorem dL_law_571 : decode cL_law 571 = .ok (.iload_n 3, 1) := by decide +kernel
theorem dL_law_572 : decode cL_law 572 = .ok (.iconst 2, 1) := by decide +kernel
theorem dL_law_573 : decode cL_law 573 = .ok (.iadd, 1) := by decide +kernel
theorem dL_law_574 : decode cL_law 574 = .ok (.iaload, 1) := by decide +kernel
theorem dL_law_575 : decode cL_law 575 = .ok (.invokevirtual 69, 3) := by decide +kernel
theorem dL_law_578 : decode cL_law 578 = .ok (.aload_n 2, 1) := by decide +kernel
theorem dL_law_579 : decode cL_law 579 = .ok (.aload_n 0, 1) := by decide +kernel
theorem dL_law_580 : decode cL_law 580 = .ok (.iload_n 3, 1) := by decide +kernel
theorem dL_law_581 : decode cL_law 581 = .ok (.iconst 1, 1) := by decide +kernel
theorem dL_law_582 : decode cL_law 582 = .ok (.iadd, 1) := by decide +kernel
theorem dL_law_583 : decode cL_law 583 = .ok (.iaload, 1) := by decide +kernel
theorem dL_law_584 : decode cL_law 584 = .ok (.aload_n 0, 1) := by decide +kernel
theorem dL_law_585 : decode cL_law 585 = .ok (.iload_n 3, 1) := by decide +kernel
theorem dL_law_586 : decode cL_law 586 = .ok (.iconst 2, 1) := by decide +kernel
theorem dL_law_587 : decode cL_law 587 = .ok (.iadd, 1) := by decide +kernel
theorem dL_law_588 : decode cL_law 588 = .ok (.iaload, 1) := by decide +kernel
theorem dL_law_589 : decode cL_law 589 = .ok (.invokevirtual 72, 3) := by decide +kernel
theorem dL_law_592 : decode cL_law 592 = .ok (.if_icmp .eq 556, 3) := by decide +kernel
theorem dL_law_595 : decode cL_law 595 = .ok (.iconst 0, 1) := by decide +kernel
theorem dL_law_596 : decode cL_law 596 = .ok (.ireturn, 1) := by decide +kernel
theorem dL_law_597 : decode cL_law 597 = .ok (.aload_n 1, 1) := by decide +kernel
theorem dL_law_598 : decode cL_law 598 = .ok (.aload_n 0, 1) := by decide +kernel
theorem dL_law_599 : decode cL_law 599 = .ok (.iload_n 3, 1) := by decide +kernel
theorem dL_law_600 : decode cL_law 600 = .ok (.iconst 1, 1) := by decide +kernel
theorem dL_law_601 : decode cL_law 601 = .ok (.iadd, 1) := by decide +kernel
theorem dL_law_602 : decode cL_law 602 = .ok (.iaload, 1) := by decide +kernel
theorem dL_law_603 : decode cL_law 603 = .ok (.aload_n 0, 1) := by decide +kernel
theorem dL_law_604 : decode cL_law 604 = .ok (.iload_n 3, 1) := by decide +kernel
theorem dL_law_605 : decode cL_law 605 = .ok (.iconst 2, 1) := by decide +kernel
theorem dL_law_606 : decode cL_law 606 = .ok (.iadd, 1) := by decide +kernel
theorem dL_law_607 : decode cL_law 607 = .ok (.iaload, 1) := by decide +kernel
theorem dL_law_608 : decode cL_law 608 = .ok (.aload_n 0, 1) := by decide +kernel
theorem dL_law_609 : decode cL_law 609 = .ok (.iload_n 3, 1) := by decide +kernel
theorem dL_law_610 : decode cL_law 610 = .ok (.iconst 3, 1) := by decide +kernel
theorem dL_law_611 : decode cL_law 611 = .ok (.iadd, 1) := by decide +kernel
theorem dL_law_612 : decode cL_law 612 = .ok (.iaload, 1) := by decide +kernel
theorem dL_law_613 : decode cL_law 613 = .ok (.invokevirtual 73, 3) := by decide +kernel
theorem dL_law_616 : decode cL_law 616 = .ok (.aload_n 2, 1) := by decide +kernel
theorem dL_law_617 : decode cL_law 617 = .ok (.aload_n 0, 1) := by decide +kernel
theorem dL_law_618 : decode cL_law 618 = .ok (.iload_n 3, 1) := by decide +kernel
theorem dL_law_619 : decode cL_law 619 = .ok (.iconst 1, 1) := by decide +kernel
theorem dL_law_620 : decode cL_law 620 = .ok (.iadd, 1) := by decide +kernel
theorem dL_law_621 : decode cL_law 621 = .ok (.iaload, 1) := by decide +kernel
theorem dL_law_622 : decode cL_law 622 = .ok (.aload_n 0, 1) := by decide +kernel
theorem dL_law_623 : decode cL_law 623 = .ok (.iload_n 3, 1) := by decide +kernel
theorem dL_law_624 : decode cL_law 624 = .ok (.iconst 2, 1) := by decide +kernel
theorem dL_law_625 : decode cL_law 625 = .ok (.iadd, 1) := by decide +kernel
theorem dL_law_626 : decode cL_law 626 = .ok (.iaload, 1) := by decide +kernel
theorem dL_law_627 : decode cL_law 627 = .ok (.aload_n 0, 1) := by decide +kernel
theorem dL_law_628 : decode cL_law 628 = .ok (.iload_n 3, 1) := by decide +kernel
theorem dL_law_629 : decode cL_law 629 = .ok (.iconst 3, 1) := by decide +kernel
theorem dL_law_630 : decode cL_law 630 = .ok (.iadd, 1) := by decide +kernel
theorem dL_law_631 : decode cL_law 631 = .ok (.iaload, 1) := by decide +kernel
theorem dL_law_632 : decode cL_law 632 = .ok (.invokevirtual 76, 3) := by decide +kernel
theorem dL_law_635 : decode cL_law 635 = .ok (.if_icmp .eq 513, 3) := by decide +kernel
theorem dL_law_638 : decode cL_law 638 = .ok (.iconst 0, 1) := by decide +kernel
theorem dL_law_639 : decode cL_law 639 = .ok (.ireturn, 1) := by decide +kernel
theorem dL_law_640 : decode cL_law 640 = .ok (.aload_n 1, 1) := by decide +kernel
theorem dL_law_641 : decode cL_law 641 = .ok (.aload_n 0, 1) := by decide +kernel
theorem dL_law_642 : decode cL_law 642 = .ok (.iload_n 3, 1) := by decide +kernel
theorem dL_law_643 : decode cL_law 643 = .ok (.iconst 1, 1) := by decide +kernel
theorem dL_law_644 : decode cL_law 644 = .ok (.iadd, 1) := by decide +kernel
theorem dL_law_645 : decode cL_law 645 = .ok (.iaload, 1) := by decide +kernel
theorem dL_law_646 : decode cL_law 646 = .ok (.aload_n 0, 1) := by decide +kernel
theorem dL_law_647 : decode cL_law 647 = .ok (.iload_n 3, 1) := by decide +kernel
theorem dL_law_648 : decode cL_law 648 = .ok (.iconst 2, 1) := by decide +kernel
theorem dL_law_649 : decode cL_law 649 = .ok (.iadd, 1) := by decide +kernel
theorem dL_law_650 : decode cL_law 650 = .ok (.iaload, 1) := by decide +kernel
theorem dL_law_651 : decode cL_law 651 = .ok (.aload_n 0, 1) := by decide +kernel
theorem dL_law_652 : decode cL_law 652 = .ok (.iload_n 3, 1) := by decide +kernel
theorem dL_law_653 : decode cL_law 653 = .ok (.iconst 3, 1) := by decide +kernel
theorem dL_law_654 : decode cL_law 654 = .ok (.iadd, 1) := by decide +kernel
theorem dL_law_655 : decode cL_law 655 = .ok (.iaload, 1) := by decide +kernel
theorem dL_law_656 : decode cL_law 656 = .ok (.aload_n 0, 1) := by decide +kernel
theorem dL_law_657 : decode cL_law 657 = .ok (.iload_n 3, 1) := by decide +kernel
theorem dL_law_658 : decode cL_law 658 = .ok (.iconst 4, 1) := by decide +kernel
theorem dL_law_659 : decode cL_law 659 = .ok (.iadd, 1) := by decide +kernel
theorem dL_law_660 : decode cL_law 660 = .ok (.iaload, 1) := by decide +kernel
theorem dL_law_661 : decode cL_law 661 = .ok (.invokevirtual 77, 3) := by decide +kernel
theorem dL_law_664 : decode cL_law 664 = .ok (.aload_n 2, 1) := by decide +kernel
theorem dL_law_665 : decode cL_law 665 = .ok (.aload_n 0, 1) := by decide +kernel
theorem dL_law_666 : decode cL_law 666 = .ok (.iload_n 3, 1) := by decide +kernel
theorem dL_law_667 : decode cL_law 667 = .ok (.iconst 1, 1) := by decide +kernel
theorem dL_law_668 : decode cL_law 668 = .ok (.iadd, 1) := by decide +kernel
theorem dL_law_669 : decode cL_law 669 = .ok (.iaload, 1) := by decide +kernel
theorem dL_law_670 : decode cL_law 670 = .ok (.aload_n 0, 1) := by decide +kernel
theorem dL_law_671 : decode cL_law 671 = .ok (.iload_n 3, 1) := by decide +kernel
theorem dL_law_672 : decode cL_law 672 = .ok (.iconst 2, 1) := by decide +kernel
theorem dL_law_673 : decode cL_law 673 = .ok (.iadd, 1) := by decide +kernel
theorem dL_law_674 : decode cL_law 674 = .ok (.iaload, 1) := by decide +kernel
theorem dL_law_675 : decode cL_law 675 = .ok (.aload_n 0, 1) := by decide +kernel
theorem dL_law_676 : decode cL_law 676 = .ok (.iload_n 3, 1) := by decide +kernel
theorem dL_law_677 : decode cL_law 677 = .ok (.iconst 3, 1) := by decide +kernel
theorem dL_law_678 : decode cL_law 678 = .ok (.iadd, 1) := by decide +kernel
theorem dL_law_679 : decode cL_law 679 = .ok (.iaload, 1) := by decide +kernel
theorem dL_law_680 : decode cL_law 680 = .ok (.aload_n 0, 1) := by decide +kernel
theorem dL_law_681 : decode cL_law 681 = .ok (.iload_n 3, 1) := by decide +kernel
theorem dL_law_682 : decode cL_law 682 = .ok (.iconst 4, 1) := by decide +kernel
theorem dL_law_683 : decode cL_law 683 = .ok (.iadd, 1) := by decide +kernel
theorem dL_law_684 : decode cL_law 684 = .ok (.iaload, 1) := by decide +kernel
theorem dL_law_685 : decode cL_law 685 = .ok (.invokevirtual 81, 3) := by decide +kernel
theorem dL_law_688 : decode cL_law 688 = .ok (.if_icmp .eq 460, 3) := by decide +kernel
theorem dL_law_691 : decode cL_law 691 = .ok (.iconst 0, 1) := by decide +kernel
theorem dL_law_692 : decode cL_law 692 = .ok (.ireturn, 1) := by decide +kernel
theorem dL_law_693 : decode cL_law 693 = .ok (.aload_n 1, 1) := by decide +kernel
theorem dL_law_694 : decode cL_law 694 = .ok (.aload_n 0, 1) := by decide +kernel
theorem dL_law_695 : decode cL_law 695 = .ok (.iload_n 3, 1) := by decide +kernel
theorem dL_law_696 : decode cL_law 696 = .ok (.iconst 1, 1) := by decide +kernel
theorem dL_law_697 : decode cL_law 697 = .ok (.iadd, 1) := by decide +kernel
theorem dL_law_698 : decode cL_law 698 = .ok (.iaload, 1) := by decide +kernel
theorem dL_law_699 : decode cL_law 699 = .ok (.aload_n 0, 1) := by decide +kernel
theorem dL_law_700 : decode cL_law 700 = .ok (.iload_n 3, 1) := by decide +kernel
theorem dL_law_701 : decode cL_law 701 = .ok (.iconst 2, 1) := by decide +kernel
theorem dL_law_702 : decode cL_law 702 = .ok (.iadd, 1) := by decide +kernel
theorem dL_law_703 : decode cL_law 703 = .ok (.iaload, 1) := by decide +kernel
theorem dL_law_704 : decode cL_law 704 = .ok (.aload_n 0, 1) := by decide +kernel
theorem dL_law_705 : decode cL_law 705 = .ok (.iload_n 3, 1) := by decide +kernel
theorem dL_law_706 : decode cL_law 706 = .ok (.iconst 3, 1) := by decide +kernel
theorem dL_law_707 : decode cL_law 707 = .ok (.iadd, 1) := by decide +kernel
theorem dL_law_708 : decode cL_law 708 = .ok (.iaload, 1) := by decide +kernel
theorem dL_law_709 : decode cL_law 709 = .ok (.invokevirtual 82, 3) := by decide +kernel
theorem dL_law_712 : decode cL_law 712 = .ok (.aload_n 2, 1) := by decide +kernel
theorem dL_law_713 : decode cL_law 713 = .ok (.aload_n 0, 1) := by decide +kernel
theorem dL_law_714 : decode cL_law 714 = .ok (.iload_n 3, 1) := by decide +kernel
theorem dL_law_715 : decode cL_law 715 = .ok (.iconst 1, 1) := by decide +kernel
theorem dL_law_716 : decode cL_law 716 = .ok (.iadd, 1) := by decide +kernel
theorem dL_law_717 : decode cL_law 717 = .ok (.iaload, 1) := by decide +kernel
theorem dL_law_718 : decode cL_law 718 = .ok (.aload_n 0, 1) := by decide +kernel
theorem dL_law_719 : decode cL_law 719 = .ok (.iload_n 3, 1) := by decide +kernel
theorem dL_law_720 : decode cL_law 720 = .ok (.iconst 2, 1) := by decide +kernel
theorem dL_law_721 : decode cL_law 721 = .ok (.iadd, 1) := by decide +kernel
theorem dL_law_722 : decode cL_law 722 = .ok (.iaload, 1) := by decide +kernel
theorem dL_law_723 : decode cL_law 723 = .ok (.aload_n 0, 1) := by decide +kernel
theorem dL_law_724 : decode cL_law 724 = .ok (.iload_n 3, 1) := by decide +kernel
theorem dL_law_725 : decode cL_law 725 = .ok (.iconst 3, 1) := by decide +kernel
theorem dL_law_726 : decode cL_law 726 = .ok (.iadd, 1) := by decide +kernel
theorem dL_law_727 : decode cL_law 727 = .ok (.iaload, 1) := by decide +kernel
theorem dL_law_728 : decode cL_law 728 = .ok (.invokevirtual 85, 3) := by decide +kernel
theorem dL_law_731 : decode cL_law 731 = .ok (.if_icmp .eq 417, 3) := by decide +kernel
theorem dL_law_734 : decode cL_law 734 = .ok (.iconst 0, 1) := by decide +kernel
theorem dL_law_735 : decode cL_law 735 = .ok (.ireturn, 1) := by decide +kernel
theorem dL_law_736 : decode cL_law 736 = .ok (.aload_n 1, 1) := by decide +kernel
theorem dL_law_737 : decode cL_law 737 = .ok (.aload_n 0, 1) := by decide +kernel
theorem dL_law_738 : decode cL_law 738 = .ok (.iload_n 3, 1) := by decide +kernel
theorem dL_law_739 : decode cL_law 739 = .ok (.iconst 1, 1) := by decide +kernel
theorem dL_law_740 : decode cL_law 740 = .ok (.iadd, 1) := by decide +kernel
theorem dL_law_741 : decode cL_law 741 = .ok (.iaload, 1) := by decide +kernel
theorem dL_law_742 : decode cL_law 742 = .ok (.aload_n 0, 1) := by decide +kernel
theorem dL_law_743 : decode cL_law 743 = .ok (.iload_n 3, 1) := by decide +kernel
theorem dL_law_744 : decode cL_law 744 = .ok (.iconst 2, 1) := by decide +kernel
theorem dL_law_745 : decode cL_law 745 = .ok (.iadd, 1) := by decide +kernel
theorem dL_law_746 : decode cL_law 746 = .ok (.iaload, 1) := by decide +kernel
theorem dL_law_747 : decode cL_law 747 = .ok (.invokevirtual 86, 3) := by decide +kernel
theorem dL_law_750 : decode cL_law 750 = .ok (.aload_n 2, 1) := by decide +kernel
theorem dL_law_751 : decode cL_law 751 = .ok (.aload_n 0, 1) := by decide +kernel
theorem dL_law_752 : decode cL_law 752 = .ok (.iload_n 3, 1) := by decide +kernel
theorem dL_law_753 : decode cL_law 753 = .ok (.iconst 1, 1) := by decide +kernel
theorem dL_law_754 : decode cL_law 754 = .ok (.iadd, 1) := by decide +kernel
theorem dL_law_755 : decode cL_law 755 = .ok (.iaload, 1) := by decide +kernel
theorem dL_law_756 : decode cL_law 756 = .ok (.aload_n 0, 1) := by decide +kernel
theorem dL_law_757 : decode cL_law 757 = .ok (.iload_n 3, 1) := by decide +kernel
theorem dL_law_758 : decode cL_law 758 = .ok (.iconst 2, 1) := by decide +kernel
theorem dL_law_759 : decode cL_law 759 = .ok (.iadd, 1) := by decide +kernel
theorem dL_law_760 : decode cL_law 760 = .ok (.iaload, 1) := by decide +kernel
theorem dL_law_761 : decode cL_law 761 = .ok (.invokevirtual 89, 3) := by decide +kernel
theorem dL_law_764 : decode cL_law 764 = .ok (.if_icmp .eq 384, 3) := by decide +kernel
theorem dL_law_767 : decode cL_law 767 = .ok (.iconst 0, 1) := by decide +kernel
theorem dL_law_768 : decode cL_law 768 = .ok (.ireturn, 1) := by decide +kernel
theorem dL_law_769 : decode cL_law 769 = .ok (.aload_n 1, 1) := by decide +kernel
theorem dL_law_770 : decode cL_law 770 = .ok (.aload_n 0, 1) := by decide +kernel
theorem dL_law_771 : decode cL_law 771 = .ok (.iload_n 3, 1) := by decide +kernel
theorem dL_law_772 : decode cL_law 772 = .ok (.iconst 1, 1) := by decide +kernel
theorem dL_law_773 : decode cL_law 773 = .ok (.iadd, 1) := by decide +kernel
theorem dL_law_774 : decode cL_law 774 = .ok (.iaload, 1) := by decide +kernel
theorem dL_law_775 : decode cL_law 775 = .ok (.aload_n 0, 1) := by decide +kernel
theorem dL_law_776 : decode cL_law 776 = .ok (.iload_n 3, 1) := by decide +kernel
theorem dL_law_777 : decode cL_law 777 = .ok (.iconst 2, 1) := by decide +kernel
theorem dL_law_778 : decode cL_law 778 = .ok (.iadd, 1) := by decide +kernel
theorem dL_law_779 : decode cL_law 779 = .ok (.iaload, 1) := by decide +kernel
theorem dL_law_780 : decode cL_law 780 = .ok (.aload_n 0, 1) := by decide +kernel
theorem dL_law_781 : decode cL_law 781 = .ok (.iload_n 3, 1) := by decide +kernel
theorem dL_law_782 : decode cL_law 782 = .ok (.iconst 3, 1) := by decide +kernel
theorem dL_law_783 : decode cL_law 783 = .ok (.iadd, 1) := by decide +kernel
theorem dL_law_784 : decode cL_law 784 = .ok (.iaload, 1) := by decide +kernel
theorem dL_law_785 : decode cL_law 785 = .ok (.invokevirtual 90, 3) := by decide +kernel
theorem dL_law_788 : decode cL_law 788 = .ok (.aload_n 2, 1) := by decide +kernel
theorem dL_law_789 : decode cL_law 789 = .ok (.aload_n 0, 1) := by decide +kernel
theorem dL_law_790 : decode cL_law 790 = .ok (.iload_n 3, 1) := by decide +kernel
theorem dL_law_791 : decode cL_law 791 = .ok (.iconst 1, 1) := by decide +kernel
theorem dL_law_792 : decode cL_law 792 = .ok (.iadd, 1) := by decide +kernel
theorem dL_law_793 : decode cL_law 793 = .ok (.iaload, 1) := by decide +kernel
theorem dL_law_794 : decode cL_law 794 = .ok (.aload_n 0, 1) := by decide +kernel
theorem dL_law_795 : decode cL_law 795 = .ok (.iload_n 3, 1) := by decide +kernel
theorem dL_law_796 : decode cL_law 796 = .ok (.iconst 2, 1) := by decide +kernel
theorem dL_law_797 : decode cL_law 797 = .ok (.iadd, 1) := by decide +kernel
theorem dL_law_798 : decode cL_law 798 = .ok (.iaload, 1) := by decide +kernel
theorem dL_law_799 : decode cL_law 799 = .ok (.aload_n 0, 1) := by decide +kernel
theorem dL_law_800 : decode cL_law 800 = .ok (.iload_n 3, 1) := by decide +kernel
theorem dL_law_801 : decode cL_law 801 = .ok (.iconst 3, 1) := by decide +kernel
theorem dL_law_802 : decode cL_law 802 = .ok (.iadd, 1) := by decide +kernel
theorem dL_law_803 : decode cL_law 803 = .ok (.iaload, 1) := by decide +kernel
theorem dL_law_804 : decode cL_law 804 = .ok (.invokevirtual 93, 3) := by decide +kernel
theorem dL_law_807 : decode cL_law 807 = .ok (.if_icmp .eq 341, 3) := by decide +kernel
theorem dL_law_810 : decode cL_law 810 = .ok (.iconst 0, 1) := by decide +kernel
theorem dL_law_811 : decode cL_law 811 = .ok (.ireturn, 1) := by decide +kernel
theorem dL_law_812 : decode cL_law 812 = .ok (.aload_n 1, 1) := by decide +kernel
theorem dL_law_813 : decode cL_law 813 = .ok (.aload_n 0, 1) := by decide +kernel
theorem dL_law_814 : decode cL_law 814 = .ok (.iload_n 3, 1) := by decide +kernel
theorem dL_law_815 : decode cL_law 815 = .ok (.iconst 1, 1) := by decide +kernel
theorem dL_law_816 : decode cL_law 816 = .ok (.iadd, 1) := by decide +kernel
theorem dL_law_817 : decode cL_law 817 = .ok (.iaload, 1) := by decide +kernel
theorem dL_law_818 : decode cL_law 818 = .ok (.aload_n 0, 1) := by decide +kernel
theorem dL_law_819 : decode cL_law 819 = .ok (.iload_n 3, 1) := by decide +kernel
theorem dL_law_820 : decode cL_law 820 = .ok (.iconst 2, 1) := by decide +kernel
theorem dL_law_821 : decode cL_law 821 = .ok (.iadd, 1) := by decide +kernel
theorem dL_law_822 : decode cL_law 822 = .ok (.iaload, 1) := by decide +kernel
theorem dL_law_823 : decode cL_law 823 = .ok (.invokevirtual 94, 3) := by decide +kernel
theorem dL_law_826 : decode cL_law 826 = .ok (.aload_n 2, 1) := by decide +kernel
theorem dL_law_827 : decode cL_law 827 = .ok (.aload_n 0, 1) := by decide +kernel
theorem dL_law_828 : decode cL_law 828 = .ok (.iload_n 3, 1) := by decide +kernel
theorem dL_law_829 : decode cL_law 829 = .ok (.iconst 1, 1) := by decide +kernel
theorem dL_law_830 : decode cL_law 830 = .ok (.iadd, 1) := by decide +kernel
theorem dL_law_831 : decode cL_law 831 = .ok (.iaload, 1) := by decide +kernel
theorem dL_law_832 : decode cL_law 832 = .ok (.aload_n 0, 1) := by decide +kernel
theorem dL_law_833 : decode cL_law 833 = .ok (.iload_n 3, 1) := by decide +kernel
theorem dL_law_834 : decode cL_law 834 = .ok (.iconst 2, 1) := by decide +kernel
theorem dL_law_835 : decode cL_law 835 = .ok (.iadd, 1) := by decide +kernel
theorem dL_law_836 : decode cL_law 836 = .ok (.iaload, 1) := by decide +kernel
theorem dL_law_837 : decode cL_law 837 = .ok (.invokevirtual 97, 3) := by decide +kernel
theorem dL_law_840 : decode cL_law 840 = .ok (.if_icmp .eq 308, 3) := by decide +kernel
theorem dL_law_843 : decode cL_law 843 = .ok (.iconst 0, 1) := by decide +kernel
theorem dL_law_844 : decode cL_law 844 = .ok (.ireturn, 1) := by decide +kernel
theorem dL_law_845 : decode cL_law 845 = .ok (.aload_n 1, 1) := by decide +kernel
theorem dL_law_846 : decode cL_law 846 = .ok (.aload_n 0, 1) := by decide +kernel
theorem dL_law_847 : decode cL_law 847 = .ok (.iload_n 3, 1) := by decide +kernel
theorem dL_law_848 : decode cL_law 848 = .ok (.iconst 1, 1) := by decide +kernel
theorem dL_law_849 : decode cL_law 849 = .ok (.iadd, 1) := by decide +kernel
theorem dL_law_850 : decode cL_law 850 = .ok (.iaload, 1) := by decide +kernel
theorem dL_law_851 : decode cL_law 851 = .ok (.aload_n 0, 1) := by decide +kernel
theorem dL_law_852 : decode cL_law 852 = .ok (.iload_n 3, 1) := by decide +kernel
theorem dL_law_853 : decode cL_law 853 = .ok (.iconst 2, 1) := by decide +kernel
theorem dL_law_854 : decode cL_law 854 = .ok (.iadd, 1) := by decide +kernel
theorem dL_law_855 : decode cL_law 855 = .ok (.iaload, 1) := by decide +kernel
theorem dL_law_856 : decode cL_law 856 = .ok (.aload_n 0, 1) := by decide +kernel
theorem dL_law_857 : decode cL_law 857 = .ok (.iload_n 3, 1) := by decide +kernel
theorem dL_law_858 : decode cL_law 858 = .ok (.iconst 3, 1) := by decide +kernel
theorem dL_law_859 : decode cL_law 859 = .ok (.iadd, 1) := by decide +kernel
theorem dL_law_860 : decode cL_law 860 = .ok (.iaload, 1) := by decide +kernel
theorem dL_law_861 : decode cL_law 861 = .ok (.invokevirtual 98, 3) := by decide +kernel
theorem dL_law_864 : decode cL_law 864 = .ok (.aload_n 2, 1) := by decide +kernel
theorem dL_law_865 : decode cL_law 865 = .ok (.aload_n 0, 1) := by decide +kernel
theorem dL_law_866 : decode cL_law 866 = .ok (.iload_n 3, 1) := by decide +kernel
theorem dL_law_867 : decode cL_law 867 = .ok (.iconst 1, 1) := by decide +kernel
theorem dL_law_868 : decode cL_law 868 = .ok (.iadd, 1) := by decide +kernel
theorem dL_law_869 : decode cL_law 869 = .ok (.iaload, 1) := by decide +kernel
theorem dL_law_870 : decode cL_law 870 = .ok (.aload_n 0, 1) := by decide +kernel
theorem dL_law_871 : decode cL_law 871 = .ok (.iload_n 3, 1) := by decide +kernel
theorem dL_law_872 : decode cL_law 872 = .ok (.iconst 2, 1) := by decide +kernel
theorem dL_law_873 : decode cL_law 873 = .ok (.iadd, 1) := by decide +kernel
theorem dL_law_874 : decode cL_law 874 = .ok (.iaload, 1) := by decide +kernel
theorem dL_law_875 : decode cL_law 875 = .ok (.aload_n 0, 1) := by decide +kernel
theorem dL_law_876 : decode cL_law 876 = .ok (.iload_n 3, 1) := by decide +kernel
theorem dL_law_877 : decode cL_law 877 = .ok (.iconst 3, 1) := by decide +kernel
theorem dL_law_878 : decode cL_law 878 = .ok (.iadd, 1) := by decide +kernel
theorem dL_law_879 : decode cL_law 879 = .ok (.iaload, 1) := by decide +kernel
theorem dL_law_880 : decode cL_law 880 = .ok (.invokevirtual 101, 3) := by decide +kernel
theorem dL_law_883 : decode cL_law 883 = .ok (.if_icmp .eq 265, 3) := by decide +kernel
theorem dL_law_886 : decode cL_law 886 = .ok (.iconst 0, 1) := by decide +kernel
theorem dL_law_887 : decode cL_law 887 = .ok (.ireturn, 1) := by decide +kernel
theorem dL_law_888 : decode cL_law 888 = .ok (.aload_n 1, 1) := by decide +kernel
theorem dL_law_889 : decode cL_law 889 = .ok (.aload_n 0, 1) := by decide +kernel
theorem dL_law_890 : decode cL_law 890 = .ok (.iload_n 3, 1) := by decide +kernel
theorem dL_law_891 : decode cL_law 891 = .ok (.iconst 1, 1) := by decide +kernel
theorem dL_law_892 : decode cL_law 892 = .ok (.iadd, 1) := by decide +kernel
theorem dL_law_893 : decode cL_law 893 = .ok (.iaload, 1) := by decide +kernel
theorem dL_law_894 : decode cL_law 894 = .ok (.aload_n 0, 1) := by decide +kernel
theorem dL_law_895 : decode cL_law 895 = .ok (.iload_n 3, 1) := by decide +kernel
theorem dL_law_896 : decode cL_law 896 = .ok (.iconst 2, 1) := by decide +kernel
theorem dL_law_897 : decode cL_law 897 = .ok (.iadd, 1) := by decide +kernel
theorem dL_law_898 : decode cL_law 898 = .ok (.iaload, 1) := by decide +kernel
theorem dL_law_899 : decode cL_law 899 = .ok (.invokevirtual 102, 3) := by decide +kernel
theorem dL_law_902 : decode cL_law 902 = .ok (.aload_n 2, 1) := by decide +kernel
theorem dL_law_903 : decode cL_law 903 = .ok (.aload_n 0, 1) := by decide +kernel
theorem dL_law_904 : decode cL_law 904 = .ok (.iload_n 3, 1) := by decide +kernel
theorem dL_law_905 : decode cL_law 905 = .ok (.iconst 1, 1) := by decide +kernel
theorem dL_law_906 : decode cL_law 906 = .ok (.iadd, 1) := by decide +kernel
theorem dL_law_907 : decode cL_law 907 = .ok (.iaload, 1) := by decide +kernel
theorem dL_law_908 : decode cL_law 908 = .ok (.aload_n 0, 1) := by decide +kernel
theorem dL_law_909 : decode cL_law 909 = .ok (.iload_n 3, 1) := by decide +kernel
theorem dL_law_910 : decode cL_law 910 = .ok (.iconst 2, 1) := by decide +kernel
theorem dL_law_911 : decode cL_law 911 = .ok (.iadd, 1) := by decide +kernel
theorem dL_law_912 : decode cL_law 912 = .ok (.iaload, 1) := by decide +kernel
theorem dL_law_913 : decode cL_law 913 = .ok (.invokevirtual 105, 3) := by decide +kernel
theorem dL_law_916 : decode cL_law 916 = .ok (.if_icmp .eq 232, 3) := by decide +kernel
theorem dL_law_919 : decode cL_law 919 = .ok (.iconst 0, 1) := by decide +kernel
theorem dL_law_920 : decode cL_law 920 = .ok (.ireturn, 1) := by decide +kernel
theorem dL_law_921 : decode cL_law 921 = .ok (.aload_n 1, 1) := by decide +kernel
theorem dL_law_922 : decode cL_law 922 = .ok (.aload_n 0, 1) := by decide +kernel
theorem dL_law_923 : decode cL_law 923 = .ok (.iload_n 3, 1) := by decide +kernel
theorem dL_law_924 : decode cL_law 924 = .ok (.iconst 1, 1) := by decide +kernel
theorem dL_law_925 : decode cL_law 925 = .ok (.iadd, 1) := by decide +kernel
theorem dL_law_926 : decode cL_law 926 = .ok (.iaload, 1) := by decide +kernel
theorem dL_law_927 : decode cL_law 927 = .ok (.aload_n 0, 1) := by decide +kernel
theorem dL_law_928 : decode cL_law 928 = .ok (.iload_n 3, 1) := by decide +kernel
theorem dL_law_929 : decode cL_law 929 = .ok (.iconst 2, 1) := by decide +kernel
theorem dL_law_930 : decode cL_law 930 = .ok (.iadd, 1) := by decide +kernel
theorem dL_law_931 : decode cL_law 931 = .ok (.iaload, 1) := by decide +kernel
theorem dL_law_932 : decode cL_law 932 = .ok (.invokevirtual 106, 3) := by decide +kernel
theorem dL_law_935 : decode cL_law 935 = .ok (.aload_n 2, 1) := by decide +kernel
theorem dL_law_936 : decode cL_law 936 = .ok (.aload_n 0, 1) := by decide +kernel
theorem dL_law_937 : decode cL_law 937 = .ok (.iload_n 3, 1) := by decide +kernel
theorem dL_law_938 : decode cL_law 938 = .ok (.iconst 1, 1) := by decide +kernel
theorem dL_law_939 : decode cL_law 939 = .ok (.iadd, 1) := by decide +kernel
theorem dL_law_940 : decode cL_law 940 = .ok (.iaload, 1) := by decide +kernel
theorem dL_law_941 : decode cL_law 941 = .ok (.aload_n 0, 1) := by decide +kernel
theorem dL_law_942 : decode cL_law 942 = .ok (.iload_n 3, 1) := by decide +kernel
theorem dL_law_943 : decode cL_law 943 = .ok (.iconst 2, 1) := by decide +kernel
theorem dL_law_944 : decode cL_law 944 = .ok (.iadd, 1) := by decide +kernel
theorem dL_law_945 : decode cL_law 945 = .ok (.iaload, 1) := by decide +kernel
theorem dL_law_946 : decode cL_law 946 = .ok (.invokevirtual 109, 3) := by decide +kernel
theorem dL_law_949 : decode cL_law 949 = .ok (.if_icmp .eq 199, 3) := by decide +kernel
theorem dL_law_952 : decode cL_law 952 = .ok (.iconst 0, 1) := by decide +kernel
theorem dL_law_953 : decode cL_law 953 = .ok (.ireturn, 1) := by decide +kernel
theorem dL_law_954 : decode cL_law 954 = .ok (.aload_n 1, 1) := by decide +kernel
theorem dL_law_955 : decode cL_law 955 = .ok (.aload_n 0, 1) := by decide +kernel
theorem dL_law_956 : decode cL_law 956 = .ok (.iload_n 3, 1) := by decide +kernel
theorem dL_law_957 : decode cL_law 957 = .ok (.iconst 1, 1) := by decide +kernel
theorem dL_law_958 : decode cL_law 958 = .ok (.iadd, 1) := by decide +kernel
theorem dL_law_959 : decode cL_law 959 = .ok (.iaload, 1) := by decide +kernel
theorem dL_law_960 : decode cL_law 960 = .ok (.invokevirtual 110, 3) := by decide +kernel
theorem dL_law_963 : decode cL_law 963 = .ok (.aload_n 2, 1) := by decide +kernel
theorem dL_law_964 : decode cL_law 964 = .ok (.aload_n 0, 1) := by decide +kernel
theorem dL_law_965 : decode cL_law 965 = .ok (.iload_n 3, 1) := by decide +kernel
theorem dL_law_966 : decode cL_law 966 = .ok (.iconst 1, 1) := by decide +kernel
theorem dL_law_967 : decode cL_law 967 = .ok (.iadd, 1) := by decide +kernel
theorem dL_law_968 : decode cL_law 968 = .ok (.iaload, 1) := by decide +kernel
theorem dL_law_969 : decode cL_law 969 = .ok (.invokevirtual 113, 3) := by decide +kernel
theorem dL_law_972 : decode cL_law 972 = .ok (.if_icmp .eq 176, 3) := by decide +kernel
theorem dL_law_975 : decode cL_law 975 = .ok (.iconst 0, 1) := by decide +kernel
theorem dL_law_976 : decode cL_law 976 = .ok (.ireturn, 1) := by decide +kernel
theorem dL_law_977 : decode cL_law 977 = .ok (.aload_n 1, 1) := by decide +kernel
theorem dL_law_978 : decode cL_law 978 = .ok (.aload_n 0, 1) := by decide +kernel
theorem dL_law_979 : decode cL_law 979 = .ok (.iload_n 3, 1) := by decide +kernel
theorem dL_law_980 : decode cL_law 980 = .ok (.iconst 1, 1) := by decide +kernel
theorem dL_law_981 : decode cL_law 981 = .ok (.iadd, 1) := by decide +kernel
theorem dL_law_982 : decode cL_law 982 = .ok (.iaload, 1) := by decide +kernel
theorem dL_law_983 : decode cL_law 983 = .ok (.invokevirtual 114, 3) := by decide +kernel
theorem dL_law_986 : decode cL_law 986 = .ok (.aload_n 2, 1) := by decide +kernel
theorem dL_law_987 : decode cL_law 987 = .ok (.aload_n 0, 1) := by decide +kernel
theorem dL_law_988 : decode cL_law 988 = .ok (.iload_n 3, 1) := by decide +kernel
theorem dL_law_989 : decode cL_law 989 = .ok (.iconst 1, 1) := by decide +kernel
theorem dL_law_990 : decode cL_law 990 = .ok (.iadd, 1) := by decide +kernel
theorem dL_law_991 : decode cL_law 991 = .ok (.iaload, 1) := by decide +kernel
theorem dL_law_992 : decode cL_law 992 = .ok (.invokevirtual 117, 3) := by decide +kernel
theorem dL_law_995 : decode cL_law 995 = .ok (.if_icmp .eq 153, 3) := by decide +kernel
theorem dL_law_998 : decode cL_law 998 = .ok (.iconst 0, 1) := by decide +kernel
theorem dL_law_999 : decode cL_law 999 = .ok (.ireturn, 1) := by decide +kernel
theorem dL_law_1000 : decode cL_law 1000 = .ok (.aload_n 1, 1) := by decide +kernel
theorem dL_law_1001 : decode cL_law 1001 = .ok (.aload_n 0, 1) := by decide +kernel
theorem dL_law_1002 : decode cL_law 1002 = .ok (.iload_n 3, 1) := by decide +kernel
theorem dL_law_1003 : decode cL_law 1003 = .ok (.iconst 1, 1) := by decide +kernel
theorem dL_law_1004 : decode cL_law 1004 = .ok (.iadd, 1) := by decide +kernel
theorem dL_law_1005 : decode cL_law 1005 = .ok (.iaload, 1) := by decide +kernel
theorem dL_law_1006 : decode cL_law 1006 = .ok (.invokevirtual 118, 3) := by decide +kernel
theorem dL_law_1009 : decode cL_law 1009 = .ok (.aload_n 2, 1) := by decide +kernel
theorem dL_law_1010 : decode cL_law 1010 = .ok (.aload_n 0, 1) := by decide +kernel
theorem dL_law_1011 : decode cL_law 1011 = .ok (.iload_n 3, 1) := by decide +kernel
theorem dL_law_1012 : decode cL_law 1012 = .ok (.iconst 1, 1) := by decide +kernel
theorem dL_law_1013 : decode cL_law 1013 = .ok (.iadd, 1) := by decide +kernel
theorem dL_law_1014 : decode cL_law 1014 = .ok (.iaload, 1) := by decide +kernel
theorem dL_law_1015 : decode cL_law 1015 = .ok (.invokevirtual 121, 3) := by decide +kernel
theorem dL_law_1018 : decode cL_law 1018 = .ok (.if_icmp .eq 130, 3) := by decide +kernel
theorem dL_law_1021 : decode cL_law 1021 = .ok (.iconst 0, 1) := by decide +kernel
theorem dL_law_1022 : decode cL_law 1022 = .ok (.ireturn, 1) := by decide +kernel
theorem dL_law_1023 : decode cL_law 1023 = .ok (.aload_n 1, 1) := by decide +kernel
theorem dL_law_1024 : decode cL_law 1024 = .ok (.aload_n 0, 1) := by decide +kernel
theorem dL_law_1025 : decode cL_law 1025 = .ok (.iload_n 3, 1) := by decide +kernel
theorem dL_law_1026 : decode cL_law 1026 = .ok (.iconst 1, 1) := by decide +kernel
theorem dL_law_1027 : decode cL_law 1027 = .ok (.iadd, 1) := by decide +kernel
theorem dL_law_1028 : decode cL_law 1028 = .ok (.iaload, 1) := by decide +kernel
theorem dL_law_1029 : decode cL_law 1029 = .ok (.aload_n 0, 1) := by decide +kernel
theorem dL_law_1030 : decode cL_law 1030 = .ok (.iload_n 3, 1) := by decide +kernel
theorem dL_law_1031 : decode cL_law 1031 = .ok (.iconst 2, 1) := by decide +kernel
theorem dL_law_1032 : decode cL_law 1032 = .ok (.iadd, 1) := by decide +kernel
theorem dL_law_1033 : decode cL_law 1033 = .ok (.iaload, 1) := by decide +kernel
theorem dL_law_1034 : decode cL_law 1034 = .ok (.invokevirtual 122, 3) := by decide +kernel
theorem dL_law_1037 : decode cL_law 1037 = .ok (.aload_n 2, 1) := by decide +kernel
theorem dL_law_1038 : decode cL_law 1038 = .ok (.aload_n 0, 1) := by decide +kernel
theorem dL_law_1039 : decode cL_law 1039 = .ok (.iload_n 3, 1) := by decide +kernel
theorem dL_law_1040 : decode cL_law 1040 = .ok (.iconst 1, 1) := by decide +kernel
theorem dL_law_1041 : decode cL_law 1041 = .ok (.iadd, 1) := by decide +kernel
theorem dL_law_1042 : decode cL_law 1042 = .ok (.iaload, 1) := by decide +kernel
theorem dL_law_1043 : decode cL_law 1043 = .ok (.aload_n 0, 1) := by decide +kernel
theorem dL_law_1044 : decode cL_law 1044 = .ok (.iload_n 3, 1) := by decide +kernel
theorem dL_law_1045 : decode cL_law 1045 = .ok (.iconst 2, 1) := by decide +kernel
theorem dL_law_1046 : decode cL_law 1046 = .ok (.iadd, 1) := by decide +kernel
theorem dL_law_1047 : decode cL_law 1047 = .ok (.iaload, 1) := by decide +kernel
theorem dL_law_1048 : decode cL_law 1048 = .ok (.invokevirtual 125, 3) := by decide +kernel
theorem dL_law_1051 : decode cL_law 1051 = .ok (.if_icmp .eq 97, 3) := by decide +kernel
theorem dL_law_1054 : decode cL_law 1054 = .ok (.iconst 0, 1) := by decide +kernel
theorem dL_law_1055 : decode cL_law 1055 = .ok (.ireturn, 1) := by decide +kernel
theorem dL_law_1056 : decode cL_law 1056 = .ok (.aload_n 1, 1) := by decide +kernel
theorem dL_law_1057 : decode cL_law 1057 = .ok (.aload_n 0, 1) := by decide +kernel
theorem dL_law_1058 : decode cL_law 1058 = .ok (.iload_n 3, 1) := by decide +kernel
theorem dL_law_1059 : decode cL_law 1059 = .ok (.iconst 1, 1) := by decide +kernel
theorem dL_law_1060 : decode cL_law 1060 = .ok (.iadd, 1) := by decide +kernel
theorem dL_law_1061 : decode cL_law 1061 = .ok (.iaload, 1) := by decide +kernel
theorem dL_law_1062 : decode cL_law 1062 = .ok (.aload_n 0, 1) := by decide +kernel
theorem dL_law_1063 : decode cL_law 1063 = .ok (.iload_n 3, 1) := by decide +kernel
theorem dL_law_1064 : decode cL_law 1064 = .ok (.iconst 2, 1) := by decide +kernel
theorem dL_law_1065 : decode cL_law 1065 = .ok (.iadd, 1) := by decide +kernel
theorem dL_law_1066 : decode cL_law 1066 = .ok (.iaload, 1) := by decide +kernel
theorem dL_law_1067 : decode cL_law 1067 = .ok (.invokevirtual 126, 3) := by decide +kernel
theorem dL_law_1070 : decode cL_law 1070 = .ok (.aload_n 2, 1) := by decide +kernel
theorem dL_law_1071 : decode cL_law 1071 = .ok (.aload_n 0, 1) := by decide +kernel
theorem dL_law_1072 : decode cL_law 1072 = .ok (.iload_n 3, 1) := by decide +kernel
theorem dL_law_1073 : decode cL_law 1073 = .ok (.iconst 1, 1) := by decide +kernel
theorem dL_law_1074 : decode cL_law 1074 = .ok (.iadd, 1) := by decide +kernel
theorem dL_law_1075 : decode cL_law 1075 = .ok (.iaload, 1) := by decide +kernel
theorem dL_law_1076 : decode cL_law 1076 = .ok (.aload_n 0, 1) := by decide +kernel
theorem dL_law_1077 : decode cL_law 1077 = .ok (.iload_n 3, 1) := by decide +kernel
theorem dL_law_1078 : decode cL_law 1078 = .ok (.iconst 2, 1) := by decide +kernel
theorem dL_law_1079 : decode cL_law 1079 = .ok (.iadd, 1) := by decide +kernel
theorem dL_law_1080 : decode cL_law 1080 = .ok (.iaload, 1) := by decide +kernel
theorem dL_law_1081 : decode cL_law 1081 = .ok (.invokevirtual 129, 3) := by decide +kernel
theorem dL_law_1084 : decode cL_law 1084 = .ok (.if_icmp .eq 64, 3) := by decide +kernel
theorem dL_law_1087 : decode cL_law 1087 = .ok (.iconst 0, 1) := by decide +kernel
theorem dL_law_1088 : decode cL_law 1088 = .ok (.ireturn, 1) := by decide +kernel
theorem dL_law_1089 : decode cL_law 1089 = .ok (.aload_n 1, 1) := by decide +kernel
theorem dL_law_1090 : decode cL_law 1090 = .ok (.aload_n 0, 1) := by decide +kernel
theorem dL_law_1091 : decode cL_law 1091 = .ok (.iload_n 3, 1) := by decide +kernel
theorem dL_law_1092 : decode cL_law 1092 = .ok (.iconst 1, 1) := by decide +kernel
theorem dL_law_1093 : decode cL_law 1093 = .ok (.iadd, 1) := by decide +kernel
theorem dL_law_1094 : decode cL_law 1094 = .ok (.iaload, 1) := by decide +kernel
theorem dL_law_1095 : decode cL_law 1095 = .ok (.invokevirtual 130, 3) := by decide +kernel
theorem dL_law_1098 : decode cL_law 1098 = .ok (.aload_n 2, 1) := by decide +kernel
theorem dL_law_1099 : decode cL_law 1099 = .ok (.aload_n 0, 1) := by decide +kernel
theorem dL_law_1100 : decode cL_law 1100 = .ok (.iload_n 3, 1) := by decide +kernel
theorem dL_law_1101 : decode cL_law 1101 = .ok (.iconst 1, 1) := by decide +kernel
theorem dL_law_1102 : decode cL_law 1102 = .ok (.iadd, 1) := by decide +kernel
theorem dL_law_1103 : decode cL_law 1103 = .ok (.iaload, 1) := by decide +kernel
theorem dL_law_1104 : decode cL_law 1104 = .ok (.invokevirtual 133, 3) := by decide +kernel
theorem dL_law_1107 : decode cL_law 1107 = .ok (.if_icmp .eq 41, 3) := by decide +kernel
theorem dL_law_1110 : decode cL_law 1110 = .ok (.iconst 0, 1) := by decide +kernel
theorem dL_law_1111 : decode cL_law 1111 = .ok (.ireturn, 1) := by decide +kernel
theorem dL_law_1112 : decode cL_law 1112 = .ok (.aload_n 1, 1) := by decide +kernel
theorem dL_law_1113 : decode cL_law 1113 = .ok (.aload_n 0, 1) := by decide +kernel
theorem dL_law_1114 : decode cL_law 1114 = .ok (.iload_n 3, 1) := by decide +kernel
theorem dL_law_1115 : decode cL_law 1115 = .ok (.iconst 1, 1) := by decide +kernel
theorem dL_law_1116 : decode cL_law 1116 = .ok (.iadd, 1) := by decide +kernel
theorem dL_law_1117 : decode cL_law 1117 = .ok (.iaload, 1) := by decide +kernel
theorem dL_law_1118 : decode cL_law 1118 = .ok (.invokevirtual 134, 3) := by decide +kernel
theorem dL_law_1121 : decode cL_law 1121 = .ok (.aload_n 2, 1) := by decide +kernel
theorem dL_law_1122 : decode cL_law 1122 = .ok (.aload_n 0, 1) := by decide +kernel
theorem dL_law_1123 : decode cL_law 1123 = .ok (.iload_n 3, 1) := by decide +kernel
theorem dL_law_1124 : decode cL_law 1124 = .ok (.iconst 1, 1) := by decide +kernel
theorem dL_law_1125 : decode cL_law 1125 = .ok (.iadd, 1) := by decide +kernel
theorem dL_law_1126 : decode cL_law 1126 = .ok (.iaload, 1) := by decide +kernel
theorem dL_law_1127 : decode cL_law 1127 = .ok (.invokevirtual 137, 3) := by decide +kernel
theorem dL_law_1130 : decode cL_law 1130 = .ok (.if_icmp .eq 18, 3) := by decide +kernel
theorem dL_law_1133 : decode cL_law 1133 = .ok (.iconst 0, 1) := by decide +kernel
theorem dL_law_1134 : decode cL_law 1134 = .ok (.ireturn, 1) := by decide +kernel
theorem dL_law_1135 : decode cL_law 1135 = .ok (.aload_n 1, 1) := by decide +kernel
theorem dL_law_1136 : decode cL_law 1136 = .ok (.invokevirtual 138, 3) := by decide +kernel
theorem dL_law_1139 : decode cL_law 1139 = .ok (.aload_n 2, 1) := by decide +kernel
theorem dL_law_1140 : decode cL_law 1140 = .ok (.invokevirtual 141, 3) := by decide +kernel
theorem dL_law_1143 : decode cL_law 1143 = .ok (.if_icmp .eq 5, 3) := by decide +kernel
theorem dL_law_1146 : decode cL_law 1146 = .ok (.iconst 0, 1) := by decide +kernel
theorem dL_law_1147 : decode cL_law 1147 = .ok (.ireturn, 1) := by decide +kernel
theorem dL_law_1148 : decode cL_law 1148 = .ok (.iinc 3 6, 3) := by decide +kernel
theorem dL_law_1151 : decode cL_law 1151 = .ok (.goto (-1133), 3) := by decide +kernel
theorem dL_law_1154 : decode cL_law 1154 = .ok (.iconst 1, 1) := by decide +kernel
theorem dL_law_1155 : decode cL_law 1155 = .ok (.ireturn, 1) := by decide +kernel
end
section
/-! THE SMALL MACHINE G: one fixed world of cells (numbered by whole numbers, at addresses 'ad'), ints and longs as whole numbers. A row an instruction, over the kit's rows. -/
abbrev Mem : Type := Int → Int → Int
def iI (a : Int) : Int32 := Int32.ofInt a
def lI (a : Int) : Int64 := Int64.ofInt a
abbrev R3 (a : Int) : Prop := -2147483648 ≤ a ∧ a < 2147483648
abbrev R6 (a : Int) : Prop := -9223372036854775808 ≤ a ∧ a < 9223372036854775808
theorem iI_add (a b : Int) : iI a + iI b = iI (a + b) := by simp [iI, Int32.ofInt_add]
theorem iI_sub (a b : Int) : iI a - iI b = iI (a - b) := by simp [iI, Int32.ofInt_sub]
theorem iI_mul (a b : Int) : iI a * iI b = iI (a * b) := by simp [iI, Int32.ofInt_mul]
theorem iI_neg (a : Int) : -iI a = iI (-a) := by simp [iI, Int32.ofInt_neg]
theorem lI_add (a b : Int) : lI a + lI b = lI (a + b) := by simp [lI, Int64.ofInt_add]
theorem lI_sub (a b : Int) : lI a - lI b = lI (a - b) := by simp [lI, Int64.ofInt_sub]
theorem lI_mul (a b : Int) : lI a * lI b = lI (a * b) := by simp [lI, Int64.ofInt_mul]
theorem iI_toInt {a : Int} (h : R3 a) : (iI a).toInt = a := by
  unfold iI
  rw [Int32.toInt_ofInt]
  exact Int.bmod_eq_of_le (by obtain ⟨h1, h2⟩ := h; simp [Int32.size]; omega) (by obtain ⟨h1, h2⟩ := h; simp [Int32.size]; omega)
theorem lI_toInt {a : Int} (h : R6 a) : (lI a).toInt = a := by
  unfold lI
  rw [Int64.toInt_ofInt]
  exact Int.bmod_eq_of_le (by obtain ⟨h1, h2⟩ := h; simp [Int64.size]; omega) (by obtain ⟨h1, h2⟩ := h; simp [Int64.size]; omega)
theorem iI_of (x : Int32) : iI x.toInt = x := by simp [iI]
theorem lI_of (x : Int64) : lI x.toInt = x := by simp [lI]
theorem iI_rng (x : Int32) : R3 x.toInt := ⟨by have := Int32.le_toInt x; simpa using this, by have := Int32.toInt_lt x; simpa using this⟩
theorem lI_rng (x : Int64) : R6 x.toInt := ⟨by have := Int64.le_toInt x; simpa using this, by have := Int64.toInt_lt x; simpa using this⟩
theorem iI_lt {a b : Int} (ha : R3 a) (hb : R3 b) : iI a < iI b ↔ a < b := by rw [Int32.lt_iff_toInt_lt, iI_toInt ha, iI_toInt hb]
theorem iI_le {a b : Int} (ha : R3 a) (hb : R3 b) : iI a ≤ iI b ↔ a ≤ b := by rw [Int32.le_iff_toInt_le, iI_toInt ha, iI_toInt hb]
theorem iI_eq {a b : Int} (ha : R3 a) (hb : R3 b) : iI a = iI b ↔ a = b := ⟨fun h => by rw [← iI_toInt ha, ← iI_toInt hb, h], fun h => by rw [h]⟩
theorem lI_lt {a b : Int} (ha : R6 a) (hb : R6 b) : lI a < lI b ↔ a < b := by rw [Int64.lt_iff_toInt_lt, lI_toInt ha, lI_toInt hb]
theorem lI_eq {a b : Int} (ha : R6 a) (hb : R6 b) : lI a = lI b ↔ a = b := ⟨fun h => by rw [← lI_toInt ha, ← lI_toInt hb, h], fun h => by rw [h]⟩
theorem iI_cl {a : Int} (ha : R3 a) : (iI a).toNatClampNeg = a.toNat := by
  show (iI a).toInt.toNat = a.toNat
  rw [iI_toInt ha]
theorem iI_in {a : Int} {n : Nat} (h0 : 0 ≤ a) (h1 : a < n) (hn : R3 a) : vp_in (iI a) n := by
  rw [vp_in_iff, iI_toInt hn]
  exact ⟨h0, h1⟩
theorem iI_l {a : Int} (h : R3 a) : (iI a).toInt64 = lI a := by
  rw [← Int64.toInt_inj, Int32.toInt_toInt64, iI_toInt h, lI_toInt ⟨by omega, by omega⟩]
theorem r3_0 : R3 0 := ⟨by omega, by omega⟩
theorem iI_0 : iI 0 = 0 := rfl
theorem iI_lt0 {a : Int} (ha : R3 a) : iI a < 0 ↔ a < 0 := iI_lt ha r3_0
theorem iI_eq0 {a : Int} (ha : R3 a) : iI a = 0 ↔ a = 0 := iI_eq ha r3_0
theorem iI_0lt {a : Int} (ha : R3 a) : 0 < iI a ↔ 0 < a := iI_lt r3_0 ha
theorem iI_0le {a : Int} (ha : R3 a) : 0 ≤ iI a ↔ 0 ≤ a := iI_le r3_0 ha
theorem iI_le0 {a : Int} (ha : R3 a) : iI a ≤ 0 ↔ a ≤ 0 := iI_le ha r3_0
theorem iI_div {a b : Int} (ha : R3 a) (hb : R3 b) (h : b ≠ 0) (h2 : R3 (a.tdiv b)) : iI a / iI b = iI (a.tdiv b) := by
  rw [← Int32.toInt_inj, Int32.toInt_div, iI_toInt ha, iI_toInt hb, iI_toInt h2]
  exact Int.bmod_eq_of_le (by obtain ⟨h1, h2⟩ := h2; omega) (by obtain ⟨h1, h2⟩ := h2; omega)
theorem lI_div {a b : Int} (ha : R6 a) (hb : R6 b) (h : b ≠ 0) (h2 : R6 (a.tdiv b)) : lI a / lI b = lI (a.tdiv b) := by
  rw [← Int64.toInt_inj, Int64.toInt_div, lI_toInt ha, lI_toInt hb, lI_toInt h2]
  exact Int.bmod_eq_of_le (by obtain ⟨h1, h2⟩ := h2; omega) (by obtain ⟨h1, h2⟩ := h2; omega)
/-! memory: a cell's places; one place anew, one cell anew -/
def mr (σ : Mem) (k : Int) (f : Int → Int) : Mem := fun k' => if k' = k then f else σ k'
def ru (f : Int → Int) (j v : Int) : Int → Int := fun j' => if j' = j then v else f j'
def mu (σ : Mem) (k j v : Int) : Mem := mr σ k (ru (σ k) j v)
theorem mu_app (σ : Mem) (k j v k' j' : Int) : mu σ k j v k' j' = if k' = k ∧ j' = j then v else σ k' j' := by
  unfold mu mr ru
  by_cases h : k' = k
  · subst h; by_cases h2 : j' = j
    · simp [h2]
    · simp [h2]
  · simp [h]
theorem mu_s (σ : Mem) (k j v : Int) : mu σ k j v k j = v := by simp [mu_app]
theorem mu_k {σ : Mem} {k j v k' j' : Int} (h : k' ≠ k) : mu σ k j v k' j' = σ k' j' := by simp [mu_app, h]
theorem mu_j {σ : Mem} {k j v k' j' : Int} (h : j' ≠ j) : mu σ k j v k' j' = σ k' j' := by simp [mu_app, h]
theorem mr_app (σ : Mem) (k : Int) (f : Int → Int) (k' j' : Int) : mr σ k f k' j' = if k' = k then f j' else σ k' j' := by
  unfold mr
  by_cases h : k' = k <;> simp [h]
/-- a row copied into another: places sp .. of f to places dp .. of g -/
def cpy (f g : Int → Int) (sp dp n : Int) : Int → Int := fun j => if dp ≤ j ∧ j < dp + n then f (sp + (j - dp)) else g j
/-! the world -/
def wd (ad : Int → Nat) (NC : Nat) (cf : Int → (Int → Int) → va_E) (σ : Mem) : va_W := (List.range NC).map (fun k : Nat => (ad (k : Int), cf (k : Int) (σ (k : Int))))
section WD
variable {ad : Int → Nat} {NC : Nat} {cf : Int → (Int → Int) → va_E} {σ : Mem}
theorem wd_at {k : Int} (h0 : 0 ≤ k) (h1 : k < (NC : Int)) : (wd ad NC cf σ)[k.toNat]? = some (ad k, cf k (σ k)) := by
  have hk : ((k.toNat : Nat) : Int) = k := Int.toNat_of_nonneg h0
  have hl : k.toNat < NC := by omega
  unfold wd
  rw [List.getElem?_map, List.getElem?_range hl]
  simp only [Option.map_some]
  rw [hk]
theorem wd_in {j : Nat} {q : Nat × va_E} (h : (wd ad NC cf σ)[j]? = some q) : j < NC ∧ q = (ad (j : Int), cf (j : Int) (σ (j : Int))) := by
  unfold wd at h
  rw [List.getElem?_map] at h
  cases hj : (List.range NC)[j]? with
  | none => rw [hj] at h; cases h
  | some i =>
    rw [hj] at h
    obtain ⟨hl, he⟩ := List.getElem?_eq_some_iff.mp hj
    simp at hl he
    subst he
    simp at h
    exact ⟨hl, h.symm⟩
theorem wd_set {k : Int} (h0 : 0 ≤ k) (h1 : k < (NC : Int)) (f : Int → Int) : (wd ad NC cf σ).set k.toNat (ad k, cf k f) = wd ad NC cf (mr σ k f) := by
  have hk : ((k.toNat : Nat) : Int) = k := Int.toNat_of_nonneg h0
  apply List.ext_getElem?
  intro j
  by_cases hj : j < NC
  · have hj1 : (wd ad NC cf (mr σ k f))[j]? = some (ad (j : Int), cf (j : Int) (mr σ k f (j : Int))) := by
      have := wd_at (ad := ad) (NC := NC) (cf := cf) (σ := mr σ k f) (k := (j : Int)) (by omega) (by omega)
      simpa using this
    have hj0 : (wd ad NC cf σ)[j]? = some (ad (j : Int), cf (j : Int) (σ (j : Int))) := by
      have := wd_at (ad := ad) (NC := NC) (cf := cf) (σ := σ) (k := (j : Int)) (by omega) (by omega)
      simpa using this
    rw [hj1]
    by_cases he : j = k.toNat
    · subst he
      rw [List.getElem?_set_self (by simp [wd]; omega), hk]
      simp [mr]
    · rw [List.getElem?_set_ne (Ne.symm he), hj0]
      have hne : (j : Int) ≠ k := by omega
      simp [mr, hne]
  · have e1 : (wd ad NC cf (mr σ k f))[j]? = none := by simp [wd]; omega
    have e2 : ((wd ad NC cf σ).set k.toNat (ad k, cf k f))[j]? = none := by simp [wd]; omega
    rw [e1, e2]
def Apart (ad : Int → Nat) (NC : Nat) : Prop := ∀ i j : Int, 0 ≤ i → i < (NC : Int) → 0 ≤ j → j < (NC : Int) → ad i = ad j → i = j
/-- the cells of the world, and what is made from sz on -/
def gA (ad : Int → Nat) (NC : Nat) (sz : Nat) : Nat → Prop := fun q => (∃ k : Int, 0 ≤ k ∧ k < (NC : Int) ∧ q = ad k) ∨ sz ≤ q
theorem wd_D {A : Nat → Prop} (h : Apart ad NC) (hA : ∀ k : Int, 0 ≤ k → k < (NC : Int) → A (ad k)) : va_D A (wd ad NC cf σ) := by
  refine ⟨fun i j p q hi hj he => ?_, fun k q hk => ?_⟩
  · obtain ⟨h1, rfl⟩ := wd_in hi
    obtain ⟨h2, rfl⟩ := wd_in hj
    have := h (i : Int) (j : Int) (by omega) (by omega) (by omega) (by omega) he
    omega
  · obtain ⟨h1, rfl⟩ := wd_in hk
    exact hA _ (by omega) (by omega)
end WD
/-! the machine's part of a method's walk, in one bundle -/
abbrev GM : Type := (Program × Launch × Env × Room) × (State × MethodId × Array Value × List Frame) × (Method × Code × Nat) × ((State → Prop) × va_G × (Nat → Prop))
def gtys (K : Nat → ClassId) : List (ClassId × FieldType) := [(K 0, .int), (K 1, .boolean), (K 2, .object "LeastWants$Row"), (K 3, .object "LeastWants$Town")]
def rmd (d : Nat) : Room := { frames := d, cells := 0, slots := 0, locals := 40 * d }
def gw (y : MethodName) (bytes : ByteArray) (maxL : Nat) (ret : Option FieldType) : List Cond := Cond.code y bytes maxL ret :: gWs
def gEnv : Type := (Nat → Prop) → State → Heap → Prop
/-- what a method's surroundings must be to stay: read-only cells outside the world -/
def gEok (E : gEnv) : Prop := (∀ (A : Nat → Prop) (u U : State) (H : Heap), u.vm.Alike U.vm → E A u H → E A U H) ∧ (∀ (A : Nat → Prop) (U : State) (H H1 : Heap), E A U H → (∀ a : Nat, a < H.size → ¬ A a → H1[a]? = H[a]?) → E A U H1) ∧ (∀ (A B : Nat → Prop) (U : State) (H : Heap), E A U H → (∀ q, B q → A q) → E B U H)
def Good (l : Launch) (K : Nat → ClassId) (D : va_G) (ad : Int → Nat) (NC : Nat) (E : gEnv) (d : Nat) (cc : ByteArray) (own : String) (M : GM) : Prop :=
  M.1.1.tables.exec = Jvm.exec ∧ M.2.2.1.2.1.code = cc ∧ M.2.2.1.2.1.maxLocals = M.2.2.1.2.2 ∧ M.2.1.1.vm.findClass own = some M.2.1.2.1.cls ∧ (∀ w ∈ gWs, w.before M.2.1.2.2.1 M.2.1.1 = true) ∧ va_K D vwCl (gtys K) M.2.1.1 ∧ Apart ad NC ∧ (∀ k : Int, 0 ≤ k → k < (NC : Int) → M.2.2.2.2.2 (ad k)) ∧ (∀ q, M.2.1.1.heap.size ≤ q → M.2.2.2.2.2 q) ∧ E M.2.2.2.2.2 M.2.1.1 M.2.1.1.heap ∧ M.1.2.2.2 = rmd d ∧ M.1.2.1 = l ∧ M.2.2.2.2.1 = D ∧ gEok E
def G (M : GM) (ad : Int → Nat) (NC : Nat) (cf : Int → (Int → Int) → va_E) (pc : Nat) (lv : List (Nat × Value)) (st : List Value) (σ : Mem) : Prop :=
  ∀ (H : Heap) (locs : List Loc) (ls : Array Slot), va_P M.2.2.2.2.1 vwCl (wd ad NC cf σ) H → va_S M.2.2.2.2.2 M.2.1.1.heap H locs → lv_has ls M.2.2.1.2.2 lv → W M.1.1 M.1.2.1 M.1.2.2.1 M.1.2.2.2 M.2.1.1 M.2.1.2.1 M.2.1.2.2.1 M.2.1.2.2.2 M.2.2.1.1 M.2.2.1.2.1 H locs 0 0 M.2.2.2.1 (F0 M.2.1.2.1 pc ls st)
theorem g_c8 (n : Int) (h : -128 ≤ n ∧ n < 128) : (Int8.ofInt n).toInt32 = iI n := by
  rw [← Int32.toInt_inj, Int8.toInt_toInt32, iI_toInt ⟨by omega, by omega⟩, Int8.toInt_ofInt]
  exact Int.bmod_eq_of_le (by simp [Int8.size]; omega) (by simp [Int8.size]; omega)
theorem g_c16 (n : Int) (h : -32768 ≤ n ∧ n < 32768) : (Int16.ofInt n).toInt32 = iI n := by
  rw [← Int32.toInt_inj, Int16.toInt_toInt32, iI_toInt ⟨by omega, by omega⟩, Int16.toInt_ofInt]
  exact Int.bmod_eq_of_le (by simp [Int16.size]; omega) (by simp [Int16.size]; omega)
end
section
/-! THE ROWS OF G -/
section GR
variable {l : Launch} {K : Nat → ClassId} {D : va_G} {ad : Int → Nat} {NC : Nat} {E : gEnv} {d : Nat} {cc : ByteArray} {own : String} {M : GM} {cf : Int → (Int → Int) → va_E} {pc : Nat} {lv : List (Nat × Value)} {st : List Value} {σ : Mem}
theorem gd_x (C : Good l K D ad NC E d cc own M) : M.1.1.tables.exec = Jvm.exec := by unfold Good at C; exact C.1
theorem gd_b (C : Good l K D ad NC E d cc own M) : M.2.2.1.2.1.code = cc := by unfold Good at C; exact C.2.1
theorem gd_ml (C : Good l K D ad NC E d cc own M) : M.2.2.1.2.1.maxLocals = M.2.2.1.2.2 := by unfold Good at C; exact C.2.2.1
theorem gd_own (C : Good l K D ad NC E d cc own M) : M.2.1.1.vm.findClass own = some M.2.1.2.1.cls := by unfold Good at C; exact C.2.2.2.1
theorem gd_ts (C : Good l K D ad NC E d cc own M) : ∀ w ∈ gWs, w.before M.2.1.2.2.1 M.2.1.1 = true := by unfold Good at C; exact C.2.2.2.2.1
theorem gd_K (C : Good l K D ad NC E d cc own M) : va_K M.2.2.2.2.1 vwCl (gtys K) M.2.1.1 := by
  have hD : M.2.2.2.2.1 = D := by unfold Good at C; exact C.2.2.2.2.2.2.2.2.2.2.2.2.1
  rw [hD]
  unfold Good at C
  exact C.2.2.2.2.2.1
theorem gd_ap (C : Good l K D ad NC E d cc own M) : Apart ad NC := by unfold Good at C; exact C.2.2.2.2.2.2.1
theorem gd_A (C : Good l K D ad NC E d cc own M) : ∀ k : Int, 0 ≤ k → k < (NC : Int) → M.2.2.2.2.2 (ad k) := by unfold Good at C; exact C.2.2.2.2.2.2.2.1
theorem gd_N (C : Good l K D ad NC E d cc own M) : ∀ q, M.2.1.1.heap.size ≤ q → M.2.2.2.2.2 q := by unfold Good at C; exact C.2.2.2.2.2.2.2.2.1
theorem gd_E (C : Good l K D ad NC E d cc own M) : E M.2.2.2.2.2 M.2.1.1 M.2.1.1.heap := by unfold Good at C; exact C.2.2.2.2.2.2.2.2.2.1
theorem gd_R (C : Good l K D ad NC E d cc own M) : M.1.2.2.2 = rmd d := by unfold Good at C; exact C.2.2.2.2.2.2.2.2.2.2.1
theorem gd_l (C : Good l K D ad NC E d cc own M) : M.1.2.1 = l := by unfold Good at C; exact C.2.2.2.2.2.2.2.2.2.2.2.1
theorem gd_D (C : Good l K D ad NC E d cc own M) : M.2.2.2.2.1 = D := by unfold Good at C; exact C.2.2.2.2.2.2.2.2.2.2.2.2.1
theorem gd_Eo (C : Good l K D ad NC E d cc own M) : gEok E := by unfold Good at C; exact C.2.2.2.2.2.2.2.2.2.2.2.2.2
theorem gd_wD (C : Good l K D ad NC E d cc own M) : va_D M.2.2.2.2.2 (wd ad NC cf σ) := wd_D (gd_ap C) (gd_A C)
theorem gd_sub (C : Good l K D ad NC E d cc own M) {H : Heap} {locs : List Loc} (hS : va_S M.2.2.2.2.2 M.2.1.1.heap H locs) : ∀ q, gA ad NC H.size q → M.2.2.2.2.2 q := by
  intro q h
  rcases h with ⟨k, h0, h1, rfl⟩ | h
  · exact gd_A C k h0 h1
  · exact gd_N C q (Nat.le_trans hS.1 h)
theorem gd_EH (C : Good l K D ad NC E d cc own M) {H : Heap} {locs : List Loc} (hS : va_S M.2.2.2.2.2 M.2.1.1.heap H locs) : E M.2.2.2.2.2 M.2.1.1 H := (gd_Eo C).2.1 _ _ _ _ (gd_E C) (fun a h1 h2 => hS.2.1 a h1 h2)
/-! constants, locals, stack -/
theorem g_iconst (C : Good l K D ad NC E d cc own M) {n : Int} (hd : decode cc pc = .ok (.iconst n, 1)) (k : G M ad NC cf (pc + 1) lv (.int (iI n) :: st) σ) : G M ad NC cf pc lv st σ := fun H locs ls hP hS hl => lv_iconst (gd_x C) (gd_b C) hd rfl (k H locs ls hP hS hl)
theorem g_bipush (C : Good l K D ad NC E d cc own M) {n : Int} (hd : decode cc pc = .ok (.bipush n, 2)) (hn : (-128 ≤ n ∧ n < 128) := by decide) (k : G M ad NC cf (pc + 2) lv (.int (iI n) :: st) σ) : G M ad NC cf pc lv st σ := fun H locs ls hP hS hl => lv_bipush (gd_x C) (gd_b C) hd (g_c8 n hn) (k H locs ls hP hS hl)
theorem g_sipush (C : Good l K D ad NC E d cc own M) {n : Int} (hd : decode cc pc = .ok (.sipush n, 3)) (hn : (-32768 ≤ n ∧ n < 32768) := by decide) (k : G M ad NC cf (pc + 3) lv (.int (iI n) :: st) σ) : G M ad NC cf pc lv st σ := fun H locs ls hP hS hl => lv_sipush (gd_x C) (gd_b C) hd (g_c16 n hn) (k H locs ls hP hS hl)
theorem g_lconst (C : Good l K D ad NC E d cc own M) {n : Fin 2} {z : Int} (hd : decode cc pc = .ok (.lconst n, 1)) (hz : Int64.ofNat (n : Nat) = lI z) (k : G M ad NC cf (pc + 1) lv (.long (lI z) :: st) σ) : G M ad NC cf pc lv st σ := fun H locs ls hP hS hl => lv_lconst (gd_x C) (gd_b C) hd hz (k H locs ls hP hS hl)
theorem g_ldc (C : Good l K D ad NC E d cc own M) {index : Nat} {v : Int32} {n : Int} (hw : Cond.constant own index v ∈ gWs) (hv : v = iI n) (hd : decode cc pc = .ok (.ldc index, 2)) (k : G M ad NC cf (pc + 2) lv (.int (iI n) :: st) σ) : G M ad NC cf pc lv st σ := fun H locs ls hP hS hl => lv_ldc (v := iI n) (gd_x C) (gd_b C) (gd_own C) (gd_ts C _ (hv ▸ hw)) hd (k H locs ls hP hS hl)
theorem g_ldcw (C : Good l K D ad NC E d cc own M) {index : Nat} {v : Int32} {n : Int} (hw : Cond.constant own index v ∈ gWs) (hv : v = iI n) (hd : decode cc pc = .ok (.ldc_w index, 3)) (k : G M ad NC cf (pc + 3) lv (.int (iI n) :: st) σ) : G M ad NC cf pc lv st σ := fun H locs ls hP hS hl => lv_ldcw (v := iI n) (gd_x C) (gd_b C) (gd_own C) (gd_ts C _ (hv ▸ hw)) hd (k H locs ls hP hS hl)
theorem g_ldc2 (C : Good l K D ad NC E d cc own M) {index : Nat} {v : Int64} {n : Int} (hw : Cond.constantLong own index v ∈ gWs) (hv : v = lI n) (hd : decode cc pc = .ok (.ldc2_w index, 3)) (k : G M ad NC cf (pc + 3) lv (.long (lI n) :: st) σ) : G M ad NC cf pc lv st σ := fun H locs ls hP hS hl => lv_ldc2 (v := lI n) (gd_x C) (gd_b C) (gd_own C) (gd_ts C _ (hv ▸ hw)) hd (k H locs ls hP hS hl)
theorem g_iload_n (C : Good l K D ad NC E d cc own M) {kk : Fin 4} {i p : Nat} {x : Int32} (hd : decode cc pc = .ok (.iload_n kk, 1)) (hi : (kk : Nat) = i := by rfl) (hv : lv[p]? = some (i, .int x)) (k : G M ad NC cf (pc + 1) lv (.int x :: st) σ) : G M ad NC cf pc lv st σ := fun H locs ls hP hS hl => lv_iload_n (gd_x C) (gd_b C) hd hi (lv_at hl p hv) (k H locs ls hP hS hl)
theorem g_iload (C : Good l K D ad NC E d cc own M) {i p : Nat} {x : Int32} (hd : decode cc pc = .ok (.iload i, 2)) (hv : lv[p]? = some (i, .int x)) (k : G M ad NC cf (pc + 2) lv (.int x :: st) σ) : G M ad NC cf pc lv st σ := fun H locs ls hP hS hl => lv_iload (gd_x C) (gd_b C) hd (lv_at hl p hv) (k H locs ls hP hS hl)
theorem g_lload_n (C : Good l K D ad NC E d cc own M) {kk : Fin 4} {i p : Nat} {x : Int64} (hd : decode cc pc = .ok (.lload_n kk, 1)) (hi : (kk : Nat) = i := by rfl) (hv : lv[p]? = some (i, .long x)) (k : G M ad NC cf (pc + 1) lv (.long x :: st) σ) : G M ad NC cf pc lv st σ := fun H locs ls hP hS hl => lv_lload_n (gd_x C) (gd_b C) hd hi (lv_at hl p hv) (k H locs ls hP hS hl)
theorem g_lload (C : Good l K D ad NC E d cc own M) {i p : Nat} {x : Int64} (hd : decode cc pc = .ok (.lload i, 2)) (hv : lv[p]? = some (i, .long x)) (k : G M ad NC cf (pc + 2) lv (.long x :: st) σ) : G M ad NC cf pc lv st σ := fun H locs ls hP hS hl => lv_lload (gd_x C) (gd_b C) hd (lv_at hl p hv) (k H locs ls hP hS hl)
theorem g_aload_n (C : Good l K D ad NC E d cc own M) {kk : Fin 4} {i p : Nat} {x : Nat} (hd : decode cc pc = .ok (.aload_n kk, 1)) (hi : (kk : Nat) = i := by rfl) (hv : lv[p]? = some (i, .ref x)) (k : G M ad NC cf (pc + 1) lv (.ref x :: st) σ) : G M ad NC cf pc lv st σ := fun H locs ls hP hS hl => lv_aload_n (gd_x C) (gd_b C) hd hi (lv_at hl p hv) (k H locs ls hP hS hl)
theorem g_aload (C : Good l K D ad NC E d cc own M) {i p : Nat} {x : Nat} (hd : decode cc pc = .ok (.aload i, 2)) (hv : lv[p]? = some (i, .ref x)) (k : G M ad NC cf (pc + 2) lv (.ref x :: st) σ) : G M ad NC cf pc lv st σ := fun H locs ls hP hS hl => lv_aload (gd_x C) (gd_b C) hd (lv_at hl p hv) (k H locs ls hP hS hl)
theorem g_istore_n (C : Good l K D ad NC E d cc own M) {nL : Nat} (hn : M.2.2.1.2.2 = nL) {kk : Fin 4} {i : Nat} {x : Int32} {lv' : List (Nat × Value)} (hd : decode cc pc = .ok (.istore_n kk, 1)) (hi : (kk : Nat) = i) (hb : Nat.blt i nL = true) (hl' : (i, Value.int x) :: lv.filter (fun q => !(q.1 == i) && !(q.1 + 1 == i && q.2.category == 2)) = lv') (k : G M ad NC cf (pc + 1) lv' st σ) : G M ad NC cf pc lv (.int x :: st) σ := fun H locs ls hP hS hl => lv_istore_n (gd_x C) (gd_b C) hd hi hl (by rw [hn]; exact Nat.blt_eq.mp hb) hl' (fun ls' h => k H locs ls' hP hS h)
theorem g_istore (C : Good l K D ad NC E d cc own M) {nL : Nat} (hn : M.2.2.1.2.2 = nL) {i : Nat} {x : Int32} {lv' : List (Nat × Value)} (hd : decode cc pc = .ok (.istore i, 2)) (hb : Nat.blt i nL = true) (hl' : (i, Value.int x) :: lv.filter (fun q => !(q.1 == i) && !(q.1 + 1 == i && q.2.category == 2)) = lv') (k : G M ad NC cf (pc + 2) lv' st σ) : G M ad NC cf pc lv (.int x :: st) σ := fun H locs ls hP hS hl => lv_istore (gd_x C) (gd_b C) hd hl (by rw [hn]; exact Nat.blt_eq.mp hb) hl' (fun ls' h => k H locs ls' hP hS h)
theorem g_lstore_n (C : Good l K D ad NC E d cc own M) {nL : Nat} (hn : M.2.2.1.2.2 = nL) {kk : Fin 4} {i : Nat} {x : Int64} {lv' : List (Nat × Value)} (hd : decode cc pc = .ok (.lstore_n kk, 1)) (hi : (kk : Nat) = i) (hb : Nat.blt (i + 1) nL = true) (hl' : (i, Value.long x) :: lv.filter (fun q => !(q.1 == i) && (!(q.1 == i + 1) && !(q.1 + 1 == i && q.2.category == 2))) = lv') (k : G M ad NC cf (pc + 1) lv' st σ) : G M ad NC cf pc lv (.long x :: st) σ := fun H locs ls hP hS hl => lv_lstore_n (gd_x C) (gd_b C) hd hi hl (by rw [hn]; exact Nat.blt_eq.mp hb) hl' (fun ls' h => k H locs ls' hP hS h)
theorem g_lstore (C : Good l K D ad NC E d cc own M) {nL : Nat} (hn : M.2.2.1.2.2 = nL) {i : Nat} {x : Int64} {lv' : List (Nat × Value)} (hd : decode cc pc = .ok (.lstore i, 2)) (hb : Nat.blt (i + 1) nL = true) (hl' : (i, Value.long x) :: lv.filter (fun q => !(q.1 == i) && (!(q.1 == i + 1) && !(q.1 + 1 == i && q.2.category == 2))) = lv') (k : G M ad NC cf (pc + 2) lv' st σ) : G M ad NC cf pc lv (.long x :: st) σ := fun H locs ls hP hS hl => lv_lstore (gd_x C) (gd_b C) hd hl (by rw [hn]; exact Nat.blt_eq.mp hb) hl' (fun ls' h => k H locs ls' hP hS h)
theorem g_astore_n (C : Good l K D ad NC E d cc own M) {nL : Nat} (hn : M.2.2.1.2.2 = nL) {kk : Fin 4} {i : Nat} {x : Nat} {lv' : List (Nat × Value)} (hd : decode cc pc = .ok (.astore_n kk, 1)) (hi : (kk : Nat) = i) (hb : Nat.blt i nL = true) (hl' : (i, Value.ref x) :: lv.filter (fun q => !(q.1 == i) && !(q.1 + 1 == i && q.2.category == 2)) = lv') (k : G M ad NC cf (pc + 1) lv' st σ) : G M ad NC cf pc lv (.ref x :: st) σ := fun H locs ls hP hS hl => lv_astore_n (gd_x C) (gd_b C) hd hi hl (by rw [hn]; exact Nat.blt_eq.mp hb) hl' (fun ls' h => k H locs ls' hP hS h)
theorem g_astore (C : Good l K D ad NC E d cc own M) {nL : Nat} (hn : M.2.2.1.2.2 = nL) {i : Nat} {x : Nat} {lv' : List (Nat × Value)} (hd : decode cc pc = .ok (.astore i, 2)) (hb : Nat.blt i nL = true) (hl' : (i, Value.ref x) :: lv.filter (fun q => !(q.1 == i) && !(q.1 + 1 == i && q.2.category == 2)) = lv') (k : G M ad NC cf (pc + 2) lv' st σ) : G M ad NC cf pc lv (.ref x :: st) σ := fun H locs ls hP hS hl => lv_astore (gd_x C) (gd_b C) hd hl (by rw [hn]; exact Nat.blt_eq.mp hb) hl' (fun ls' h => k H locs ls' hP hS h)
theorem g_iinc (C : Good l K D ad NC E d cc own M) {nL : Nat} (hn : M.2.2.1.2.2 = nL) {i p : Nat} {n a : Int} {lv' : List (Nat × Value)} (hd : decode cc pc = .ok (.iinc i n, 3)) (hb : Nat.blt i nL = true) (hv : lv[p]? = some (i, .int (iI a))) (hl' : (i, Value.int (iI (a + n))) :: lv.filter (fun q => !(q.1 == i) && !(q.1 + 1 == i && q.2.category == 2)) = lv') (k : G M ad NC cf (pc + 3) lv' st σ) : G M ad NC cf pc lv st σ := fun H locs ls hP hS hl => lv_iinc (v := iI (a + n)) (gd_x C) (gd_b C) hd hl hv (by rw [← iI_add]; rfl) (by rw [hn]; exact Nat.blt_eq.mp hb) hl' (fun ls' h => k H locs ls' hP hS h)
theorem g_sub {lv' : List (Nat × Value)} (ks : List Nat) (h : lv_pick lv ks = lv') (k : G M ad NC cf pc lv' st σ) : G M ad NC cf pc lv st σ := fun H locs ls hP hS hl => k H locs ls hP hS (lv_sub hl ks h)
theorem g_eq {pc' : Nat} {lv' : List (Nat × Value)} {st' : List Value} {σ' : Mem} (h1 : pc = pc') (h2 : lv = lv') (h3 : st = st') (h4 : σ = σ') (k : G M ad NC cf pc' lv' st' σ') : G M ad NC cf pc lv st σ := by subst h1 h2 h3 h4; exact k
theorem g_dup (C : Good l K D ad NC E d cc own M) {va : Value} (hd : decode cc pc = .ok (.dup, 1)) (hc : va.category = 1) (k : G M ad NC cf (pc + 1) lv (va :: va :: st) σ) : G M ad NC cf pc lv (va :: st) σ := fun H locs ls hP hS hl => lv_dup (gd_x C) (gd_b C) hd hc (k H locs ls hP hS hl)
theorem g_dup2 (C : Good l K D ad NC E d cc own M) {va vb : Value} (hd : decode cc pc = .ok (.dup2, 1)) (hc : va.category = 1) (hc2 : vb.category = 1) (k : G M ad NC cf (pc + 1) lv (va :: vb :: va :: vb :: st) σ) : G M ad NC cf pc lv (va :: vb :: st) σ := fun H locs ls hP hS hl => lv_dup2_11 (gd_x C) (gd_b C) hd hc hc2 (k H locs ls hP hS hl)
theorem g_pop (C : Good l K D ad NC E d cc own M) {va : Value} (hd : decode cc pc = .ok (.pop, 1)) (hc : va.category = 1) (k : G M ad NC cf (pc + 1) lv st σ) : G M ad NC cf pc lv (va :: st) σ := fun H locs ls hP hS hl => lv_pop (gd_x C) (gd_b C) hd hc (k H locs ls hP hS hl)
/-! arithmetic -/
theorem g_iadd (C : Good l K D ad NC E d cc own M) {a b : Int} (hd : decode cc pc = .ok (.iadd, 1)) (k : G M ad NC cf (pc + 1) lv (.int (iI (a + b)) :: st) σ) : G M ad NC cf pc lv (.int (iI b) :: .int (iI a) :: st) σ := fun H locs ls hP hS hl => lv_iadd (gd_x C) (gd_b C) hd (by rw [iI_add]; exact k H locs ls hP hS hl)
theorem g_isub (C : Good l K D ad NC E d cc own M) {a b : Int} (hd : decode cc pc = .ok (.isub, 1)) (k : G M ad NC cf (pc + 1) lv (.int (iI (a - b)) :: st) σ) : G M ad NC cf pc lv (.int (iI b) :: .int (iI a) :: st) σ := fun H locs ls hP hS hl => lv_isub (gd_x C) (gd_b C) hd (by rw [iI_sub]; exact k H locs ls hP hS hl)
theorem g_imul (C : Good l K D ad NC E d cc own M) {a b : Int} (hd : decode cc pc = .ok (.imul, 1)) (k : G M ad NC cf (pc + 1) lv (.int (iI (a * b)) :: st) σ) : G M ad NC cf pc lv (.int (iI b) :: .int (iI a) :: st) σ := fun H locs ls hP hS hl => lv_imul (gd_x C) (gd_b C) hd (by rw [iI_mul]; exact k H locs ls hP hS hl)
theorem g_ineg (C : Good l K D ad NC E d cc own M) {a : Int} (hd : decode cc pc = .ok (.ineg, 1)) (k : G M ad NC cf (pc + 1) lv (.int (iI (-a)) :: st) σ) : G M ad NC cf pc lv (.int (iI a) :: st) σ := fun H locs ls hP hS hl => lv_ineg (gd_x C) (gd_b C) hd (by rw [iI_neg]; exact k H locs ls hP hS hl)
theorem tdiv_R3 {a b : Int} (ha : R3 a) (hb : 0 < b) : R3 (a.tdiv b) := by
  have h1 := Int.natAbs_tdiv a b
  have h2 : (a.tdiv b).natAbs ≤ a.natAbs := by rw [h1]; exact Nat.div_le_self _ _
  by_cases hz : 0 ≤ a
  · have h3 : 0 ≤ a.tdiv b := Int.tdiv_nonneg hz (by omega)
    exact ⟨by omega, by omega⟩
  · have h3 : a.tdiv b ≤ 0 := by
      have h4 : 0 ≤ (-a).tdiv b := Int.tdiv_nonneg (by omega) (by omega)
      rw [Int.neg_tdiv] at h4
      omega
    exact ⟨by omega, by omega⟩
theorem tdiv_R6 {a b : Int} (ha : R6 a) (hb : 0 < b) : R6 (a.tdiv b) := by
  have h1 := Int.natAbs_tdiv a b
  have h2 : (a.tdiv b).natAbs ≤ a.natAbs := by rw [h1]; exact Nat.div_le_self _ _
  by_cases hz : 0 ≤ a
  · have h3 : 0 ≤ a.tdiv b := Int.tdiv_nonneg hz (by omega)
    exact ⟨by omega, by omega⟩
  · have h3 : a.tdiv b ≤ 0 := by
      have h4 : 0 ≤ (-a).tdiv b := Int.tdiv_nonneg (by omega) (by omega)
      rw [Int.neg_tdiv] at h4
      omega
    exact ⟨by omega, by omega⟩
theorem g_idiv (C : Good l K D ad NC E d cc own M) {a b : Int} (ra : R3 a) (rb : R3 b) (hb : 0 < b) (hd : decode cc pc = .ok (.idiv, 1)) (k : G M ad NC cf (pc + 1) lv (.int (iI (a.tdiv b)) :: st) σ) : G M ad NC cf pc lv (.int (iI b) :: .int (iI a) :: st) σ := fun H locs ls hP hS hl => lv_idiv (gd_x C) (gd_b C) hd (fun h => by have := (iI_eq0 rb).mp h; omega) (by rw [iI_div ra rb (by omega) (tdiv_R3 ra hb)]; exact k H locs ls hP hS hl)
theorem g_irem (C : Good l K D ad NC E d cc own M) {a b : Int} (ra : R3 a) (rb : R3 b) (hb : 0 < b) (hd : decode cc pc = .ok (.irem, 1)) (k : G M ad NC cf (pc + 1) lv (.int (iI (a.tmod b)) :: st) σ) : G M ad NC cf pc lv (.int (iI b) :: .int (iI a) :: st) σ := fun H locs ls hP hS hl => lv_irem (gd_x C) (gd_b C) hd (fun h => by have := (iI_eq0 rb).mp h; omega) (by rw [iI_div ra rb (by omega) (tdiv_R3 ra hb), iI_mul, iI_sub]; rw [show a - a.tdiv b * b = a.tmod b by rw [Int.tmod_def, Int.mul_comm]]; exact k H locs ls hP hS hl)
theorem g_lrem (C : Good l K D ad NC E d cc own M) {a b : Int} (ra : R6 a) (rb : R6 b) (hb : 0 < b) (hd : decode cc pc = .ok (.lrem, 1)) (k : G M ad NC cf (pc + 1) lv (.long (lI (a.tmod b)) :: st) σ) : G M ad NC cf pc lv (.long (lI b) :: .long (lI a) :: st) σ := fun H locs ls hP hS hl => lv_lrem (gd_x C) (gd_b C) hd (fun h => by have := (lI_eq rb (show R6 0 from ⟨by omega, by omega⟩)).mp h; omega) (by rw [lI_div ra rb (by omega) (tdiv_R6 ra hb), lI_mul, lI_sub]; rw [show a - a.tdiv b * b = a.tmod b by rw [Int.tmod_def, Int.mul_comm]]; exact k H locs ls hP hS hl)
theorem g_ladd (C : Good l K D ad NC E d cc own M) {a b : Int} (hd : decode cc pc = .ok (.ladd, 1)) (k : G M ad NC cf (pc + 1) lv (.long (lI (a + b)) :: st) σ) : G M ad NC cf pc lv (.long (lI b) :: .long (lI a) :: st) σ := fun H locs ls hP hS hl => lv_ladd (gd_x C) (gd_b C) hd (by rw [lI_add]; exact k H locs ls hP hS hl)
theorem g_lmul (C : Good l K D ad NC E d cc own M) {a b : Int} (hd : decode cc pc = .ok (.lmul, 1)) (k : G M ad NC cf (pc + 1) lv (.long (lI (a * b)) :: st) σ) : G M ad NC cf pc lv (.long (lI b) :: .long (lI a) :: st) σ := fun H locs ls hP hS hl => lv_lmul (gd_x C) (gd_b C) hd (by rw [lI_mul]; exact k H locs ls hP hS hl)
theorem g_i2l (C : Good l K D ad NC E d cc own M) {a : Int} (ra : R3 a) (hd : decode cc pc = .ok (.i2l, 1)) (k : G M ad NC cf (pc + 1) lv (.long (lI a) :: st) σ) : G M ad NC cf pc lv (.int (iI a) :: st) σ := fun H locs ls hP hS hl => lv_i2l (gd_x C) (gd_b C) hd (iI_l ra) (k H locs ls hP hS hl)
def oL2I (a : Int) : Int := (lI a).toInt32.toInt
def oI2B (a : Int) : Int := (iI a).toInt8.toInt32.toInt
def oI2S (a : Int) : Int := (iI a).toInt16.toInt32.toInt
def oAnd (a b : Int) : Int := (iI a &&& iI b).toInt
def oOr (a b : Int) : Int := (iI a ||| iI b).toInt
def oShl (a b : Int) : Int := (iI a <<< (iI b &&& 31)).toInt
def oAndL (a b : Int) : Int := (lI a &&& lI b).toInt
def oOrL (a b : Int) : Int := (lI a ||| lI b).toInt
def oShlL (a b : Int) : Int := (lI a <<< ((iI b).toInt64 &&& 63)).toInt
def oShrL (a b : Int) : Int := (lI a >>> ((iI b).toInt64 &&& 63)).toInt
theorem g_l2i (C : Good l K D ad NC E d cc own M) {a : Int} (hd : decode cc pc = .ok (.l2i, 1)) (k : G M ad NC cf (pc + 1) lv (.int (iI (oL2I a)) :: st) σ) : G M ad NC cf pc lv (.long (lI a) :: st) σ := fun H locs ls hP hS hl => lv_l2i (gd_x C) (gd_b C) hd (iI_of _).symm (k H locs ls hP hS hl)
theorem g_i2b (C : Good l K D ad NC E d cc own M) {a : Int} (hd : decode cc pc = .ok (.i2b, 1)) (k : G M ad NC cf (pc + 1) lv (.int (iI (oI2B a)) :: st) σ) : G M ad NC cf pc lv (.int (iI a) :: st) σ := fun H locs ls hP hS hl => lv_i2b (gd_x C) (gd_b C) hd (iI_of _).symm (k H locs ls hP hS hl)
theorem g_i2s (C : Good l K D ad NC E d cc own M) {a : Int} (hd : decode cc pc = .ok (.i2s, 1)) (k : G M ad NC cf (pc + 1) lv (.int (iI (oI2S a)) :: st) σ) : G M ad NC cf pc lv (.int (iI a) :: st) σ := fun H locs ls hP hS hl => lv_i2s (gd_x C) (gd_b C) hd (iI_of _).symm (k H locs ls hP hS hl)
theorem g_iand (C : Good l K D ad NC E d cc own M) {a b : Int} (hd : decode cc pc = .ok (.iand, 1)) (k : G M ad NC cf (pc + 1) lv (.int (iI (oAnd a b)) :: st) σ) : G M ad NC cf pc lv (.int (iI b) :: .int (iI a) :: st) σ := fun H locs ls hP hS hl => lv_iand (gd_x C) (gd_b C) hd (by rw [show iI a &&& iI b = iI (oAnd a b) from (iI_of _).symm]; exact k H locs ls hP hS hl)
theorem g_ior (C : Good l K D ad NC E d cc own M) {a b : Int} (hd : decode cc pc = .ok (.ior, 1)) (k : G M ad NC cf (pc + 1) lv (.int (iI (oOr a b)) :: st) σ) : G M ad NC cf pc lv (.int (iI b) :: .int (iI a) :: st) σ := fun H locs ls hP hS hl => lv_ior (gd_x C) (gd_b C) hd (by rw [show iI a ||| iI b = iI (oOr a b) from (iI_of _).symm]; exact k H locs ls hP hS hl)
theorem g_ishl (C : Good l K D ad NC E d cc own M) {a b : Int} (hd : decode cc pc = .ok (.ishl, 1)) (k : G M ad NC cf (pc + 1) lv (.int (iI (oShl a b)) :: st) σ) : G M ad NC cf pc lv (.int (iI b) :: .int (iI a) :: st) σ := fun H locs ls hP hS hl => lv_ishl (gd_x C) (gd_b C) hd (by rw [show iI a <<< (iI b &&& 31) = iI (oShl a b) from (iI_of _).symm]; exact k H locs ls hP hS hl)
theorem g_land (C : Good l K D ad NC E d cc own M) {a b : Int} (hd : decode cc pc = .ok (.land, 1)) (k : G M ad NC cf (pc + 1) lv (.long (lI (oAndL a b)) :: st) σ) : G M ad NC cf pc lv (.long (lI b) :: .long (lI a) :: st) σ := fun H locs ls hP hS hl => lv_land (gd_x C) (gd_b C) hd (by rw [show lI a &&& lI b = lI (oAndL a b) from (lI_of _).symm]; exact k H locs ls hP hS hl)
theorem g_lor (C : Good l K D ad NC E d cc own M) {a b : Int} (hd : decode cc pc = .ok (.lor, 1)) (k : G M ad NC cf (pc + 1) lv (.long (lI (oOrL a b)) :: st) σ) : G M ad NC cf pc lv (.long (lI b) :: .long (lI a) :: st) σ := fun H locs ls hP hS hl => lv_lor (gd_x C) (gd_b C) hd (by rw [show lI a ||| lI b = lI (oOrL a b) from (lI_of _).symm]; exact k H locs ls hP hS hl)
theorem g_lshl (C : Good l K D ad NC E d cc own M) {a b : Int} (hd : decode cc pc = .ok (.lshl, 1)) (k : G M ad NC cf (pc + 1) lv (.long (lI (oShlL a b)) :: st) σ) : G M ad NC cf pc lv (.int (iI b) :: .long (lI a) :: st) σ := fun H locs ls hP hS hl => lv_lshl (gd_x C) (gd_b C) hd (lI_of _).symm (k H locs ls hP hS hl)
theorem g_lshr (C : Good l K D ad NC E d cc own M) {a b : Int} (hd : decode cc pc = .ok (.lshr, 1)) (k : G M ad NC cf (pc + 1) lv (.long (lI (oShrL a b)) :: st) σ) : G M ad NC cf pc lv (.int (iI b) :: .long (lI a) :: st) σ := fun H locs ls hP hS hl => lv_lshr (gd_x C) (gd_b C) hd (lI_of _).symm (k H locs ls hP hS hl)
def oCmp (a b : Int) : Int := if b < a then 1 else if a = b then 0 else -1
theorem g_lcmp (C : Good l K D ad NC E d cc own M) {a b : Int} (ra : R6 a) (rb : R6 b) (hd : decode cc pc = .ok (.lcmp, 1)) (k : G M ad NC cf (pc + 1) lv (.int (iI (oCmp a b)) :: st) σ) : G M ad NC cf pc lv (.long (lI b) :: .long (lI a) :: st) σ := fun H locs ls hP hS hl => W.lcmp (gd_x C) (gd_b C) hd (by
  have e : lg_cmp (lI a) (lI b) = iI (oCmp a b) := by
    unfold lg_cmp oCmp
    by_cases h : b < a
    · rw [if_pos ((lI_lt rb ra).mpr h), if_pos h]; rfl
    · rw [if_neg (fun z => h ((lI_lt rb ra).mp z)), if_neg h]
      by_cases h2 : a = b
      · rw [if_pos ((lI_eq ra rb).mpr h2), if_pos h2]; rfl
      · rw [if_neg (fun z => h2 ((lI_eq ra rb).mp z)), if_neg h2]; rfl
  rw [e]
  exact k H locs ls hP hS hl)
/-! jumps -/
theorem g_goto (C : Good l K D ad NC E d cc own M) {off : Int} {tgt : Nat} (hd : decode cc pc = .ok (.goto off, 3)) (ht : (pc : Int) + off = (tgt : Int)) (k : G M ad NC cf tgt lv st σ) : G M ad NC cf pc lv st σ := fun H locs ls hP hS hl => lv_goto (gd_x C) (gd_b C) hd ht (k H locs ls hP hS hl)
theorem g_if_eq (C : Good l K D ad NC E d cc own M) {a : Int} {off : Int} {tgt : Nat} (hd : decode cc pc = .ok (.ifCond .eq off, 3)) (ht : (pc : Int) + off = (tgt : Int)) (ra : R3 a) (kt : a = 0 → G M ad NC cf tgt lv st σ) (kf : ¬ a = 0 → G M ad NC cf (pc + 3) lv st σ) : G M ad NC cf pc lv (.int (iI a) :: st) σ := fun H locs ls hP hS hl => lv_if_eq (gd_x C) (gd_b C) hd ht (fun h => kt ((iI_eq0 ra).mp h) H locs ls hP hS hl) (fun h => kf (fun z => h ((iI_eq0 ra).mpr z)) H locs ls hP hS hl)
theorem g_if_ne (C : Good l K D ad NC E d cc own M) {a : Int} {off : Int} {tgt : Nat} (hd : decode cc pc = .ok (.ifCond .ne off, 3)) (ht : (pc : Int) + off = (tgt : Int)) (ra : R3 a) (kt : ¬ a = 0 → G M ad NC cf tgt lv st σ) (kf : a = 0 → G M ad NC cf (pc + 3) lv st σ) : G M ad NC cf pc lv (.int (iI a) :: st) σ := fun H locs ls hP hS hl => lv_if_ne (gd_x C) (gd_b C) hd ht (fun h => kt (fun z => h ((iI_eq0 ra).mpr z)) H locs ls hP hS hl) (fun h => kf ((iI_eq0 ra).mp h) H locs ls hP hS hl)
theorem g_if_lt (C : Good l K D ad NC E d cc own M) {a : Int} {off : Int} {tgt : Nat} (hd : decode cc pc = .ok (.ifCond .lt off, 3)) (ht : (pc : Int) + off = (tgt : Int)) (ra : R3 a) (kt : a < 0 → G M ad NC cf tgt lv st σ) (kf : 0 ≤ a → G M ad NC cf (pc + 3) lv st σ) : G M ad NC cf pc lv (.int (iI a) :: st) σ := fun H locs ls hP hS hl => lv_if_lt (gd_x C) (gd_b C) hd ht (fun h => kt ((iI_lt0 ra).mp h) H locs ls hP hS hl) (fun h => kf (Int.not_lt.mp fun z => h ((iI_lt0 ra).mpr z)) H locs ls hP hS hl)
theorem g_if_ge (C : Good l K D ad NC E d cc own M) {a : Int} {off : Int} {tgt : Nat} (hd : decode cc pc = .ok (.ifCond .ge off, 3)) (ht : (pc : Int) + off = (tgt : Int)) (ra : R3 a) (kt : 0 ≤ a → G M ad NC cf tgt lv st σ) (kf : a < 0 → G M ad NC cf (pc + 3) lv st σ) : G M ad NC cf pc lv (.int (iI a) :: st) σ := fun H locs ls hP hS hl => lv_if_ge (gd_x C) (gd_b C) hd ht (fun h => kt ((iI_0le ra).mp h) H locs ls hP hS hl) (fun h => kf (Int.not_le.mp fun z => h ((iI_0le ra).mpr z)) H locs ls hP hS hl)
theorem g_if_gt (C : Good l K D ad NC E d cc own M) {a : Int} {off : Int} {tgt : Nat} (hd : decode cc pc = .ok (.ifCond .gt off, 3)) (ht : (pc : Int) + off = (tgt : Int)) (ra : R3 a) (kt : 0 < a → G M ad NC cf tgt lv st σ) (kf : a ≤ 0 → G M ad NC cf (pc + 3) lv st σ) : G M ad NC cf pc lv (.int (iI a) :: st) σ := fun H locs ls hP hS hl => lv_if_gt (gd_x C) (gd_b C) hd ht (fun h => kt ((iI_0lt ra).mp h) H locs ls hP hS hl) (fun h => kf (Int.not_lt.mp fun z => h ((iI_0lt ra).mpr z)) H locs ls hP hS hl)
theorem g_if_le (C : Good l K D ad NC E d cc own M) {a : Int} {off : Int} {tgt : Nat} (hd : decode cc pc = .ok (.ifCond .le off, 3)) (ht : (pc : Int) + off = (tgt : Int)) (ra : R3 a) (kt : a ≤ 0 → G M ad NC cf tgt lv st σ) (kf : 0 < a → G M ad NC cf (pc + 3) lv st σ) : G M ad NC cf pc lv (.int (iI a) :: st) σ := fun H locs ls hP hS hl => lv_if_le (gd_x C) (gd_b C) hd ht (fun h => kt ((iI_le0 ra).mp h) H locs ls hP hS hl) (fun h => kf (Int.not_le.mp fun z => h ((iI_le0 ra).mpr z)) H locs ls hP hS hl)
theorem g_icmp_eq (C : Good l K D ad NC E d cc own M) {a b : Int} {off : Int} {tgt : Nat} (hd : decode cc pc = .ok (.if_icmp .eq off, 3)) (ht : (pc : Int) + off = (tgt : Int)) (ra : R3 a) (rb : R3 b) (kt : a = b → G M ad NC cf tgt lv st σ) (kf : ¬ a = b → G M ad NC cf (pc + 3) lv st σ) : G M ad NC cf pc lv (.int (iI b) :: .int (iI a) :: st) σ := fun H locs ls hP hS hl => lv_icmp_eq (gd_x C) (gd_b C) hd ht (fun h => kt ((iI_eq ra rb).mp h) H locs ls hP hS hl) (fun h => kf (fun z => h ((iI_eq ra rb).mpr z)) H locs ls hP hS hl)
theorem g_icmp_ne (C : Good l K D ad NC E d cc own M) {a b : Int} {off : Int} {tgt : Nat} (hd : decode cc pc = .ok (.if_icmp .ne off, 3)) (ht : (pc : Int) + off = (tgt : Int)) (ra : R3 a) (rb : R3 b) (kt : ¬ a = b → G M ad NC cf tgt lv st σ) (kf : a = b → G M ad NC cf (pc + 3) lv st σ) : G M ad NC cf pc lv (.int (iI b) :: .int (iI a) :: st) σ := fun H locs ls hP hS hl => lv_icmp_ne (gd_x C) (gd_b C) hd ht (fun h => kt (fun z => h ((iI_eq ra rb).mpr z)) H locs ls hP hS hl) (fun h => kf ((iI_eq ra rb).mp h) H locs ls hP hS hl)
theorem g_icmp_lt (C : Good l K D ad NC E d cc own M) {a b : Int} {off : Int} {tgt : Nat} (hd : decode cc pc = .ok (.if_icmp .lt off, 3)) (ht : (pc : Int) + off = (tgt : Int)) (ra : R3 a) (rb : R3 b) (kt : a < b → G M ad NC cf tgt lv st σ) (kf : b ≤ a → G M ad NC cf (pc + 3) lv st σ) : G M ad NC cf pc lv (.int (iI b) :: .int (iI a) :: st) σ := fun H locs ls hP hS hl => lv_icmp_lt (gd_x C) (gd_b C) hd ht (fun h => kt ((iI_lt ra rb).mp h) H locs ls hP hS hl) (fun h => kf (Int.not_lt.mp fun z => h ((iI_lt ra rb).mpr z)) H locs ls hP hS hl)
theorem g_icmp_ge (C : Good l K D ad NC E d cc own M) {a b : Int} {off : Int} {tgt : Nat} (hd : decode cc pc = .ok (.if_icmp .ge off, 3)) (ht : (pc : Int) + off = (tgt : Int)) (ra : R3 a) (rb : R3 b) (kt : b ≤ a → G M ad NC cf tgt lv st σ) (kf : a < b → G M ad NC cf (pc + 3) lv st σ) : G M ad NC cf pc lv (.int (iI b) :: .int (iI a) :: st) σ := fun H locs ls hP hS hl => lv_icmp_ge (gd_x C) (gd_b C) hd ht (fun h => kt ((iI_le rb ra).mp h) H locs ls hP hS hl) (fun h => kf (Int.not_le.mp fun z => h ((iI_le rb ra).mpr z)) H locs ls hP hS hl)
theorem g_icmp_gt (C : Good l K D ad NC E d cc own M) {a b : Int} {off : Int} {tgt : Nat} (hd : decode cc pc = .ok (.if_icmp .gt off, 3)) (ht : (pc : Int) + off = (tgt : Int)) (ra : R3 a) (rb : R3 b) (kt : b < a → G M ad NC cf tgt lv st σ) (kf : a ≤ b → G M ad NC cf (pc + 3) lv st σ) : G M ad NC cf pc lv (.int (iI b) :: .int (iI a) :: st) σ := fun H locs ls hP hS hl => lv_icmp_gt (gd_x C) (gd_b C) hd ht (fun h => kt ((iI_lt rb ra).mp h) H locs ls hP hS hl) (fun h => kf (Int.not_lt.mp fun z => h ((iI_lt rb ra).mpr z)) H locs ls hP hS hl)
theorem g_icmp_le (C : Good l K D ad NC E d cc own M) {a b : Int} {off : Int} {tgt : Nat} (hd : decode cc pc = .ok (.if_icmp .le off, 3)) (ht : (pc : Int) + off = (tgt : Int)) (ra : R3 a) (rb : R3 b) (kt : a ≤ b → G M ad NC cf tgt lv st σ) (kf : b < a → G M ad NC cf (pc + 3) lv st σ) : G M ad NC cf pc lv (.int (iI b) :: .int (iI a) :: st) σ := fun H locs ls hP hS hl => lv_icmp_le (gd_x C) (gd_b C) hd ht (fun h => kt ((iI_le ra rb).mp h) H locs ls hP hS hl) (fun h => kf (Int.not_le.mp fun z => h ((iI_le ra rb).mpr z)) H locs ls hP hS hl)
theorem g_swIn (C : Good l K D ad NC E d cc own M) {dflt lo hi : Int} {offs : Array Int} {len : Nat} {a : Int} (z : Int) {off : Int} {tgt : Nat} (hd : decode cc pc = .ok (.tableswitch dflt lo hi offs, len)) (ra : R3 z) (hz : a = z) (h1 : lo ≤ z) (h2 : z ≤ hi) (ho : offs[(z - lo).toNat]? = some off) (ht : (pc : Int) + off = (tgt : Int)) (k : G M ad NC cf tgt lv st σ) : G M ad NC cf pc lv (.int (iI a) :: st) σ := fun H locs ls hP hS hl => by
  subst hz
  exact lv_tableIn (gd_x C) (gd_b C) hd (by rw [iI_toInt ra]; omega) (by rw [iI_toInt ra]; omega) (by rw [iI_toInt ra]; exact ho) ht (k H locs ls hP hS hl)
theorem g_swOut (C : Good l K D ad NC E d cc own M) {dflt lo hi : Int} {offs : Array Int} {len : Nat} {a : Int} {tgt : Nat} (hd : decode cc pc = .ok (.tableswitch dflt lo hi offs, len)) (ra : R3 a) (h1 : a < lo ∨ hi < a) (ht : (pc : Int) + dflt = (tgt : Int)) (k : G M ad NC cf tgt lv st σ) : G M ad NC cf pc lv (.int (iI a) :: st) σ := fun H locs ls hP hS hl => lv_tableOut (gd_x C) (gd_b C) hd (by rw [iI_toInt ra]; exact h1) ht (k H locs ls hP hS hl)
/-! fields and arrays -/
theorem g_get (C : Good l K D ad NC E d cc own M) {q : Int} {ci j index N : Nat} {Cn : String} {T : u_T} {fs : List Value} {v : Value} (hd : decode cc pc = .ok (.getfield index, 3)) (hq : 0 ≤ q ∧ q < (NC : Int)) (hf : cf q (σ q) = .inr (ci, fs)) (hc : vwCl[ci]? = some (Cn, T, N)) (hin : ∀ w ∈ u_ws Cn T N, w ∈ gWs) (hj : j < N) (hw : Cond.fieldLink own index (T j).1 (T j).2.1 (T j).2.2.1 ∈ gWs) (hv : fs[j]? = some v) (k : G M ad NC cf (pc + 3) lv (v :: st) σ) : G M ad NC cf pc lv (.ref (ad q) :: st) σ := by
  intro H locs ls hP hS hl
  have he := wd_at (ad := ad) (cf := cf) (σ := σ) hq.1 hq.2
  rw [hf] at he
  exact va_get (gd_x C) (gd_b C) (gd_ts C) hin (gd_own C) (gd_K C) hP q.toNat he hc j hj (gd_ts C _ hw) (fun _ h => h) hv hd (k H locs ls hP hS hl)
theorem g_put (C : Good l K D ad NC E d cc own M) {q : Int} {ci j index N : Nat} {Cn : String} {T : u_T} {ty0 : Nat → FieldType} {fs : List Value} {v : Value} {ty : FieldType} (f' : Int → Int) (hd : decode cc pc = .ok (.putfield index, 3)) (hq : 0 ≤ q ∧ q < (NC : Int)) (hf : cf q (σ q) = .inr (ci, fs)) (hf' : cf q f' = .inr (ci, fs.set j v)) (hc : vwCl[ci]? = some (Cn, T, N)) (hin : ∀ w ∈ u_ws Cn T N, w ∈ gWs) (hty : ∀ k, k < N → parseFieldDescriptor (T k).2.2.1 = some (ty0 k)) (hnm : ∀ a, a < N → ∀ b, b < N → a ≠ b → (T a).2.1 ≠ (T b).2.1) (hj : j < N) (hw : Cond.fieldLink own index (T j).1 (T j).2.1 (T j).2.2.1 ∈ gWs) (hfin : (T j).2.2.2 = false) (hds : parseFieldDescriptor (T j).2.2.1 = some ty) (hn : narrow ty v = v) (hfit : fits ty v = true) (hlen : j < fs.length) (k : G M ad NC cf (pc + 3) lv st (mr σ q f')) : G M ad NC cf pc lv (v :: .ref (ad q) :: st) σ := by
  intro H locs ls hP hS hl
  have he := wd_at (ad := ad) (cf := cf) (σ := σ) hq.1 hq.2
  rw [hf] at he
  refine va_put (gd_x C) (gd_b C) (gd_ts C) hin ty0 hty hnm (gd_own C) (gd_K C) hP (gd_wD C) hS q.toNat he hc j hj (gd_ts C _ hw) (fun _ h => h) hfin hds hn hfit hlen hd (fun H1 locs1 hP1 hD1 hS1 => ?_)
  rw [← hf', wd_set hq.1 hq.2] at hP1
  exact k H1 locs1 ls hP1 hS1 hl
theorem g_iald (C : Good l K D ad NC E d cc own M) {q a : Int} {n : Nat} (hd : decode cc pc = .ok (.iaload, 1)) (hq : 0 ≤ q ∧ q < (NC : Int)) (hf : ∀ f : Int → Int, cf q f = .inl (K 0, n, .inl (fun j : Nat => iI (f (j : Int))))) (h0 : 0 ≤ a) (h1 : a < (n : Int)) (ra : R3 a) (k : G M ad NC cf (pc + 1) lv (.int (iI (σ q a)) :: st) σ) : G M ad NC cf pc lv (.int (iI a) :: .ref (ad q) :: st) σ := by
  intro H locs ls hP hS hl
  have he := wd_at (ad := ad) (cf := cf) (σ := σ) hq.1 hq.2
  rw [hf] at he
  have e : σ q (((iI a).toNatClampNeg : Nat) : Int) = σ q a := by rw [iI_cl ra, Int.toNat_of_nonneg h0]
  refine va_iald (gd_x C) (gd_b C) (gd_K C) hP q.toNat 0 he rfl (iI_in h0 h1 ra) hd ?_
  show W _ _ _ _ _ _ _ _ _ _ _ _ _ _ _ (F0 _ _ _ (.int (iI (σ q (((iI a).toNatClampNeg : Nat) : Int))) :: st))
  rw [e]
  exact k H locs ls hP hS hl
theorem g_iast (C : Good l K D ad NC E d cc own M) {q a x : Int} {n : Nat} (hd : decode cc pc = .ok (.iastore, 1)) (hq : 0 ≤ q ∧ q < (NC : Int)) (hf : ∀ f : Int → Int, cf q f = .inl (K 0, n, .inl (fun j : Nat => iI (f (j : Int))))) (h0 : 0 ≤ a) (h1 : a < (n : Int)) (ra : R3 a) (k : G M ad NC cf (pc + 1) lv st (mu σ q a x)) : G M ad NC cf pc lv (.int (iI x) :: .int (iI a) :: .ref (ad q) :: st) σ := by
  intro H locs ls hP hS hl
  have he := wd_at (ad := ad) (cf := cf) (σ := σ) hq.1 hq.2
  rw [hf] at he
  refine va_iast (gd_x C) (gd_b C) (gd_K C) hP (gd_wD C) hS q.toNat 0 he rfl (iI_in h0 h1 ra) hd (fun H1 locs1 hP1 hD1 hS1 => ?_)
  have e : (Sum.inl (K 0, n, Sum.inl (upd (fun j : Nat => iI (σ q (j : Int))) (iI a).toNatClampNeg (iI x))) : va_E) = cf q (ru (σ q) a x) := by
    rw [hf]
    refine congrArg (fun z => (Sum.inl (_, _, Sum.inl z) : va_E)) (funext fun j => ?_)
    unfold upd ru
    rw [iI_cl ra]
    by_cases hj : j = a.toNat
    · subst hj; simp [Int.toNat_of_nonneg h0]
    · have : (j : Int) ≠ a := by omega
      simp [hj, this]
  rw [e, wd_set hq.1 hq.2] at hP1
  exact k H1 locs1 ls hP1 hS1 hl
theorem g_zald (C : Good l K D ad NC E d cc own M) {q a : Int} {n : Nat} (hd : decode cc pc = .ok (.baload, 1)) (hq : 0 ≤ q ∧ q < (NC : Int)) (hf : ∀ f : Int → Int, cf q f = .inl (K 1, n, .inl (fun j : Nat => iI (f (j : Int))))) (h0 : 0 ≤ a) (h1 : a < (n : Int)) (ra : R3 a) (k : G M ad NC cf (pc + 1) lv (.int (iI (σ q a)) :: st) σ) : G M ad NC cf pc lv (.int (iI a) :: .ref (ad q) :: st) σ := by
  intro H locs ls hP hS hl
  have he := wd_at (ad := ad) (cf := cf) (σ := σ) hq.1 hq.2
  rw [hf] at he
  have e : σ q (((iI a).toNatClampNeg : Nat) : Int) = σ q a := by rw [iI_cl ra, Int.toNat_of_nonneg h0]
  refine va_zald (gd_x C) (gd_b C) (gd_K C) hP q.toNat 1 he rfl (iI_in h0 h1 ra) hd ?_
  show W _ _ _ _ _ _ _ _ _ _ _ _ _ _ _ (F0 _ _ _ (.int (iI (σ q (((iI a).toNatClampNeg : Nat) : Int))) :: st))
  rw [e]
  exact k H locs ls hP hS hl
theorem g_zast (C : Good l K D ad NC E d cc own M) {q a x : Int} {n : Nat} (hd : decode cc pc = .ok (.bastore, 1)) (hq : 0 ≤ q ∧ q < (NC : Int)) (hf : ∀ f : Int → Int, cf q f = .inl (K 1, n, .inl (fun j : Nat => iI (f (j : Int))))) (h0 : 0 ≤ a) (h1 : a < (n : Int)) (ra : R3 a) (hx : vp_nar .boolean (iI x) = iI x) (k : G M ad NC cf (pc + 1) lv st (mu σ q a x)) : G M ad NC cf pc lv (.int (iI x) :: .int (iI a) :: .ref (ad q) :: st) σ := by
  intro H locs ls hP hS hl
  have he := wd_at (ad := ad) (cf := cf) (σ := σ) hq.1 hq.2
  rw [hf] at he
  refine va_zast (gd_x C) (gd_b C) (gd_K C) hP (gd_wD C) hS q.toNat 1 he rfl (iI_in h0 h1 ra) hd (fun H1 locs1 hP1 hD1 hS1 => ?_)
  have e : (Sum.inl (K 1, n, Sum.inl (upd (fun j : Nat => iI (σ q (j : Int))) (iI a).toNatClampNeg (vp_nar .boolean (iI x)))) : va_E) = cf q (ru (σ q) a x) := by
    rw [hf, hx]
    refine congrArg (fun z => (Sum.inl (_, _, Sum.inl z) : va_E)) (funext fun j => ?_)
    unfold upd ru
    rw [iI_cl ra]
    by_cases hj : j = a.toNat
    · subst hj; simp [Int.toNat_of_nonneg h0]
    · have : (j : Int) ≠ a := by omega
      simp [hj, this]
  rw [e, wd_set hq.1 hq.2] at hP1
  exact k H1 locs1 ls hP1 hS1 hl
theorem g_aald (C : Good l K D ad NC E d cc own M) {q a : Int} {n t : Nat} {Cn : String} {f : Nat → Option Nat} (b : Nat) (hd : decode cc pc = .ok (.aaload, 1)) (hq : 0 ≤ q ∧ q < (NC : Int)) (hf : cf q (σ q) = .inl (K t, n, .inr (.inr (.inr (.inr f))))) (ht : (gtys K)[t]? = some (K t, .object Cn)) (h0 : 0 ≤ a) (h1 : a < (n : Int)) (ra : R3 a) (hb : f a.toNat = some b) (k : G M ad NC cf (pc + 1) lv (.ref b :: st) σ) : G M ad NC cf pc lv (.int (iI a) :: .ref (ad q) :: st) σ := by
  intro H locs ls hP hS hl
  have he := wd_at (ad := ad) (cf := cf) (σ := σ) hq.1 hq.2
  rw [hf] at he
  refine va_aldq (gd_x C) (gd_b C) (gd_K C) hP q.toNat t he ht (iI_in h0 h1 ra) hd ?_
  rw [iI_cl ra, hb]
  exact k H locs ls hP hS hl
theorem g_alen (C : Good l K D ad NC E d cc own M) {q : Int} {c0 : ClassId} {x : vp_A} {ty : FieldType} {t : Nat} {n : Int} (hd : decode cc pc = .ok (.arraylength, 1)) (hq : 0 ≤ q ∧ q < (NC : Int)) (hf : cf q (σ q) = .inl (c0, x)) (ht : (gtys K)[t]? = some (c0, ty)) (hn : Int32.ofNat x.1 = iI n) (k : G M ad NC cf (pc + 1) lv (.int (iI n) :: st) σ) : G M ad NC cf pc lv (.ref (ad q) :: st) σ := by
  intro H locs ls hP hS hl
  have he := wd_at (ad := ad) (cf := cf) (σ := σ) hq.1 hq.2
  rw [hf] at he
  exact va_alen (gd_x C) (gd_b C) (gd_K C) hP q.toNat t he ht hn hd (k H locs ls hP hS hl)
theorem g_copy (C : Good l K D ad NC E d cc own M) {index : Nat} {q0 q1 sp dp n : Int} {n0 n1 : Nat} (hw : Cond.methodLink own index arraycopyName ∈ gWs) (hd : decode cc pc = .ok (.invokestatic index, 3)) (hq0 : 0 ≤ q0 ∧ q0 < (NC : Int)) (hq1 : 0 ≤ q1 ∧ q1 < (NC : Int)) (hf0 : ∀ f : Int → Int, cf q0 f = .inl (K 0, n0, .inl (fun j : Nat => iI (f (j : Int))))) (hf1 : ∀ f : Int → Int, cf q1 f = .inl (K 0, n1, .inl (fun j : Nat => iI (f (j : Int))))) (h1 : 0 ≤ sp) (h2 : 0 ≤ dp) (h3 : 0 ≤ n) (h4 : sp + n ≤ n0) (h5 : dp + n ≤ n1) (r1 : R3 sp) (r2 : R3 dp) (r3 : R3 n) (hcat : (st.map fun v => v.category).sum ≤ 8) (hd1 : 1 ≤ d) (k : G M ad NC cf (pc + 3) lv st (mr σ q1 (cpy (σ q0) (σ q1) sp dp n))) : G M ad NC cf pc lv (.int (iI n) :: .int (iI dp) :: .ref (ad q1) :: .int (iI sp) :: .ref (ad q0) :: st) σ := by
  intro H locs ls hP hS hl
  have he0 := wd_at (ad := ad) (cf := cf) (σ := σ) hq0.1 hq0.2
  rw [hf0] at he0
  have he1 := wd_at (ad := ad) (cf := cf) (σ := σ) hq1.1 hq1.2
  rw [hf1] at he1
  have hfr : 1 ≤ M.1.2.2.2.frames := by rw [gd_R C]; exact hd1
  have hnw : nativeFrameWords "java/lang/System" "arraycopy" 5 ≤ 20 := by decide +kernel
  have hlo : (st.map fun v => v.category).sum + (nativeFrameWords "java/lang/System" "arraycopy" 5 + 11) ≤ M.1.2.2.2.locals := by
    rw [gd_R C]
    show _ ≤ 40 * d
    omega
  refine va_copyi (gd_x C) (gd_b C) ((gd_ml C).trans hl.1.symm) (gd_own C) (gd_ts C _ hw) (gd_ts C _ w_native_arraycopy) (gd_ts C _ w_static_arraycopy) (gd_ts C _ wi_J10) (gd_K C) hP (gd_wD C) hS q0.toNat q1.toNat 0 0 he0 he1 rfl rfl rfl (fun h => by have := (iI_lt0 r1).mp h; omega) (fun h => by have := (iI_lt0 r2).mp h; omega) (fun h => by have := (iI_lt0 r3).mp h; omega) (by rw [iI_cl r1, iI_cl r3]; omega) (by rw [iI_cl r2, iI_cl r3]; omega) (fun _ _ => rfl) hfr hlo hd (fun H1 locs1 hP1 hD1 hS1 => ?_)
  have e : (Sum.inl (K 0, n1, Sum.inl (va_cpy (fun j : Nat => iI (σ q0 (j : Int))) (fun j : Nat => iI (σ q1 (j : Int))) (iI sp).toNatClampNeg (iI dp).toNatClampNeg (iI n).toNatClampNeg)) : va_E) = cf q1 (cpy (σ q0) (σ q1) sp dp n) := by
    rw [hf1]
    refine congrArg (fun z => (Sum.inl (_, _, Sum.inl z) : va_E)) (funext fun j => ?_)
    rw [iI_cl r1, iI_cl r2, iI_cl r3]
    unfold va_cpy cpy
    by_cases hj : dp.toNat ≤ j ∧ j < dp.toNat + n.toNat
    · have hj' : dp ≤ (j : Int) ∧ (j : Int) < dp + n := ⟨by omega, by omega⟩
      have e3 : ((sp.toNat + (j - dp.toNat) : Nat) : Int) = sp + ((j : Int) - dp) := by omega
      rw [if_pos hj, if_pos hj']
      show iI (σ q0 ((sp.toNat + (j - dp.toNat) : Nat) : Int)) = _
      rw [e3]
    · have hj' : ¬ (dp ≤ (j : Int) ∧ (j : Int) < dp + n) := fun z => hj ⟨by omega, by omega⟩
      rw [if_neg hj, if_neg hj']
  rw [e, wd_set hq1.1 hq1.2] at hP1
  exact k H1 locs1 ls hP1 hS1 hl
theorem g_mmax (C : Good l K D ad NC E d cc own M) {index : Nat} {a b : Int} (ra : R3 a) (rb : R3 b) (hw : Cond.methodLink own index yJ9_max_7cf53 ∈ gWs) (hd : decode cc pc = .ok (.invokestatic index, 3)) (hcat : (st.map fun v => v.category).sum ≤ 8) (hd1 : 1 ≤ d) (k : G M ad NC cf (pc + 3) lv (.int (iI (if a < b then b else a)) :: st) σ) : G M ad NC cf pc lv (.int (iI b) :: .int (iI a) :: st) σ := by
  intro H locs ls hP hS hl
  have hm := mw_J9_max_7cf53
  have hfr : 1 ≤ M.1.2.2.2.frames := by rw [gd_R C]; exact hd1
  have hlo : (st.map fun v => v.category).sum + 13 ≤ M.1.2.2.2.locals := by
    rw [gd_R C]
    show _ ≤ 40 * d
    omega
  refine va_mmax (gd_x C) (gd_b C) ((gd_ml C).trans hl.1.symm) (gd_own C) (gd_ts C _ hw) (gd_ts C _ hm.2.1) (gd_ts C _ hm.2.2.1) (gd_ts C _ hm.2.2.2) hfr hlo (Nat.zero_le _) (Nat.zero_le _) hd ?_
  have e : (if iI a < iI b then iI b else iI a) = iI (if a < b then b else a) := by
    by_cases h : a < b
    · rw [if_pos ((iI_lt ra rb).mpr h), if_pos h]
    · rw [if_neg (fun z => h ((iI_lt ra rb).mp z)), if_neg h]
  rw [e]
  exact k H locs ls hP hS hl
theorem g_mmin (C : Good l K D ad NC E d cc own M) {index : Nat} {a b : Int} (ra : R3 a) (rb : R3 b) (hw : Cond.methodLink own index yJ9_min_7cf53 ∈ gWs) (hd : decode cc pc = .ok (.invokestatic index, 3)) (hcat : (st.map fun v => v.category).sum ≤ 8) (hd1 : 1 ≤ d) (k : G M ad NC cf (pc + 3) lv (.int (iI (if b < a then b else a)) :: st) σ) : G M ad NC cf pc lv (.int (iI b) :: .int (iI a) :: st) σ := by
  intro H locs ls hP hS hl
  have hm := mw_J9_min_7cf53
  have hfr : 1 ≤ M.1.2.2.2.frames := by rw [gd_R C]; exact hd1
  have hlo : (st.map fun v => v.category).sum + 13 ≤ M.1.2.2.2.locals := by
    rw [gd_R C]
    show _ ≤ 40 * d
    omega
  refine va_mmin (gd_x C) (gd_b C) ((gd_ml C).trans hl.1.symm) (gd_own C) (gd_ts C _ hw) (gd_ts C _ hm.2.1) (gd_ts C _ hm.2.2.1) (gd_ts C _ hm.2.2.2) hfr hlo (Nat.zero_le _) (Nat.zero_le _) hd ?_
  have e : (if iI b < iI a then iI b else iI a) = iI (if b < a then b else a) := by
    by_cases h : b < a
    · rw [if_pos ((iI_lt rb ra).mpr h), if_pos h]
    · rw [if_neg (fun z => h ((iI_lt rb ra).mp z)), if_neg h]
  rw [e]
  exact k H locs ls hP hS hl
end GR
theorem g_cI {M : GM} {ad : Int → Nat} {NC : Nat} {cf : Int → (Int → Int) → va_E} {pc : Nat} {lv : List (Nat × Value)} {st : List Value} {σ : Mem} {a b : Int} (h : a = b) (k : G M ad NC cf pc lv (.int (iI b) :: st) σ) : G M ad NC cf pc lv (.int (iI a) :: st) σ := by rw [h]; exact k
end
section
/-! CONTRACTS over G: a method, at any heap that holds the world σ, returns r and leaves the world σ' -/
def gPic (K : Nat → ClassId) (D : va_G) (ad : Int → Nat) (NC : Nat) (cf : Int → (Int → Int) → va_E) (E : gEnv) (σ : Mem) (sz : Nat) (U : State) : Prop := U.heap.size = sz ∧ va_P D vwCl (wd ad NC cf σ) U.heap ∧ va_K D vwCl (gtys K) U ∧ E (gA ad NC sz) U U.heap
def CtI (l : Launch) (K : Nat → ClassId) (D : va_G) (ad : Int → Nat) (NC : Nat) (cf : Int → (Int → Int) → va_E) (E : gEnv) (y : MethodName) (bytes : ByteArray) (maxL : Nat) (ret : Option FieldType) (d : Nat) (As : List Value) (σ : Mem) (r : Int) (σ' : Mem) : Prop := ∀ sz : Nat, Met l y (gw y bytes maxL ret) (rmd d) (va_Pc As (gPic K D ad NC cf E σ sz)) (va_Qi (fun (x : Int32) (u : Mem) => x = iI r ∧ u = σ') (fun u t => va_P D vwCl (wd ad NC cf u) t.heap) (gA ad NC sz)) 0 0 (gA ad NC sz)
def CtL (l : Launch) (K : Nat → ClassId) (D : va_G) (ad : Int → Nat) (NC : Nat) (cf : Int → (Int → Int) → va_E) (E : gEnv) (y : MethodName) (bytes : ByteArray) (maxL : Nat) (ret : Option FieldType) (d : Nat) (As : List Value) (σ : Mem) (r : Int) (σ' : Mem) : Prop := ∀ sz : Nat, Met l y (gw y bytes maxL ret) (rmd d) (va_Pc As (gPic K D ad NC cf E σ sz)) (va_Ql (fun (x : Int64) (u : Mem) => x = lI r ∧ u = σ') (fun u t => va_P D vwCl (wd ad NC cf u) t.heap) (gA ad NC sz)) 0 0 (gA ad NC sz)
def CtV (l : Launch) (K : Nat → ClassId) (D : va_G) (ad : Int → Nat) (NC : Nat) (cf : Int → (Int → Int) → va_E) (E : gEnv) (y : MethodName) (bytes : ByteArray) (maxL : Nat) (ret : Option FieldType) (d : Nat) (As : List Value) (σ : Mem) (σ' : Mem) : Prop := ∀ sz : Nat, Met l y (gw y bytes maxL ret) (rmd d) (va_Pc As (gPic K D ad NC cf E σ sz)) (va_Qv (fun (u : Mem) => u = σ') (fun u t => va_P D vwCl (wd ad NC cf u) t.heap) (gA ad NC sz)) 0 0 (gA ad NC sz)
theorem gPic_blind {K : Nat → ClassId} {D : va_G} {ad : Int → Nat} {NC : Nat} {cf : Int → (Int → Int) → va_E} {E : gEnv} {σ : Mem} {sz : Nat} {As : List Value} (hE : gEok E) : FrameBlind (va_Pc As (gPic K D ad NC cf E σ sz)) := by
  intro a U g mk q
  obtain ⟨q0, q1, qP, qK, qE⟩ := q
  exact ⟨q0, q1, qP, va_K.moved (u := U) (U := U.calling g mk a) (Vm.Alike.refl U.vm) qK, hE.1 _ U (U.calling g mk a) _ (Vm.Alike.refl U.vm) qE⟩
theorem gw_V {own C : String} {index maxL n : Nat} {y : MethodName} {bytes : ByteArray} {ret : Option FieldType} (hm : MWv y bytes maxL ret C n) (hl : Cond.methodLink own index y ∈ gWs) : GoodIn gWs (wsV own index C y (gw y bytes maxL ret)) := by
  intro w hw
  have h : w ∈ gWs := by
    rcases List.mem_append.mp hw with h | h
    · simp only [List.mem_cons, List.not_mem_nil, or_false] at h
      rcases h with rfl | rfl | rfl | rfl
      · exact hl
      · exact hm.2.1
      · exact hm.2.2.1
      · exact hm.2.2.2.1
    · rcases List.mem_cons.mp h with rfl | h
      · exact hm.2.2.2.2
      · exact h
  exact ⟨h, good_of_word (gWs_good w h)⟩
theorem gw_S {own : String} {index maxL n : Nat} {y : MethodName} {bytes : ByteArray} {ret : Option FieldType} (hm : MWs y bytes maxL ret n) (hl : Cond.methodLink own index y ∈ gWs) : GoodIn gWs (va_wsS own index y (gw y bytes maxL ret)) := by
  intro w hw
  have h : w ∈ gWs := by
    rcases List.mem_append.mp hw with h | h
    · simp only [List.mem_cons, List.not_mem_nil, or_false] at h
      rcases h with rfl | rfl | rfl
      · exact hl
      · exact hm.2.1
      · exact hm.2.2.1
    · rcases List.mem_cons.mp h with rfl | h
      · exact hm.2.2.2
      · exact h
  exact ⟨h, good_of_word (gWs_good w h)⟩
section GC
variable {l : Launch} {K : Nat → ClassId} {D : va_G} {ad : Int → Nat} {NC : Nat} {E : gEnv} {d d0 : Nat} {cc : ByteArray} {own : String} {M : GM} {cf : Int → (Int → Int) → va_E} {pc : Nat} {lv : List (Nat × Value)} {st st0 : List Value} {σ σ' : Mem} {y : MethodName} {bytes : ByteArray} {maxL n index : Nat} {ret : Option FieldType} {As : List Value} {r : Int}
theorem g_room (C : Good l K D ad NC E d cc own M) (hd1 : d0 + 1 ≤ d) (hml : maxL ≤ 21) : (rmd d0).frames + 1 ≤ M.1.2.2.2.frames ∧ 8 + (maxL + 11) + (rmd d0).locals ≤ M.1.2.2.2.locals := by
  rw [gd_R C]
  exact ⟨hd1, by show 8 + (maxL + 11) + 40 * d0 ≤ 40 * d; omega⟩
theorem g_pre (C : Good l K D ad NC E d cc own M) {H : Heap} {locs : List Loc} (hP : va_P M.2.2.2.2.1 vwCl (wd ad NC cf σ) H) (hS : va_S M.2.2.2.2.2 M.2.1.1.heap H locs) (U : State) (hU : U.heap = H) (hW : M.2.1.1.WarmedH U.vm) : va_Pc As (gPic K D ad NC cf E σ H.size) As.toArray U := by
  refine ⟨rfl, by rw [hU], ?_, ?_, ?_⟩
  · rw [hU, ← gd_D C]; exact hP
  · have := va_K.moved hW.alike (gd_K C)
    rw [← gd_D C]; exact this
  · rw [hU]
    exact (gd_Eo C).2.2 _ _ _ _ ((gd_Eo C).1 _ _ _ _ hW.alike (gd_EH C hS)) (gd_sub C hS)
theorem g_runV (C : Good l K D ad NC E d cc own M) {Qc : Array Value → State → Outcome → State → Prop} {b : Int} {ci : Nat} {fs : List Value} {Cn : String} {T : u_T} {N : Nat} {H : Heap} {locs : List Loc} {ls : Array Slot} {nf : Nat → Prop} (hP : va_P M.2.2.2.2.1 vwCl (wd ad NC cf σ) H) (hS : va_S M.2.2.2.2.2 M.2.1.1.heap H locs) (hlv : lv_has ls M.2.2.1.2.2 lv) (hM : Met l y (gw y bytes maxL ret) (rmd d0) (va_Pc (.ref (ad b) :: As) (gPic K D ad NC cf E σ H.size)) Qc 0 0 nf) (hm : MWv y bytes maxL ret Cn n) (hl : Cond.methodLink own index y ∈ gWs) (hd1 : d0 + 1 ≤ d) (hml : maxL ≤ 21) (hb : 0 ≤ b ∧ b < (NC : Int)) (hf : cf b (σ b) = .inr (ci, fs)) (hc : vwCl[ci]? = some (Cn, T, N)) (hn : As.length = n) (hst : st0 = As.reverse ++ .ref (ad b) :: st) (hcat : (st.map fun v => v.category).sum ≤ 8) (hd : decode cc pc = .ok (.invokevirtual index, 3)) : va_Run M.1.1 M.1.2.1 M.1.2.2.1 M.1.2.2.2 M.2.1.1 M.2.1.2.1 M.2.1.2.2.1 M.2.1.2.2.2 M.2.2.1.1 M.2.2.1.2.1 H locs 0 0 0 0 (F0 M.2.1.2.1 pc ls st0) st (Qc (Value.ref (ad b) :: As).toArray) nf := by
  have he := wd_at (ad := ad) (cf := cf) (σ := σ) hb.1 hb.2
  rw [hf] at he
  rw [gd_l C]
  exact va_runV (As := As) (rest := st) (C := Cn) ⟨gd_x C, gd_b C, gd_ml C, gd_own C, gd_ts C⟩ hM (cwV n (gd_ts C) (gw_V hm hl) rfl rfl rfl hm.1 (g_room C hd1 hml)) ⟨gPic_blind (gd_Eo C), va_recv (gd_K C) hP hc he, fun U hU hW => g_pre C hP hS U hU hW⟩ rfl hn hlv.1 hst (by show 2 * 0 + _ ≤ 8; omega) hd ⟨Nat.zero_le _, Nat.zero_le _⟩
theorem g_runS (C : Good l K D ad NC E d cc own M) {Qc : Array Value → State → Outcome → State → Prop} {H : Heap} {locs : List Loc} {ls : Array Slot} {nf : Nat → Prop} (hP : va_P M.2.2.2.2.1 vwCl (wd ad NC cf σ) H) (hS : va_S M.2.2.2.2.2 M.2.1.1.heap H locs) (hlv : lv_has ls M.2.2.1.2.2 lv) (hM : Met l y (gw y bytes maxL ret) (rmd d0) (va_Pc As (gPic K D ad NC cf E σ H.size)) Qc 0 0 nf) (hm : MWs y bytes maxL ret n) (hl : Cond.methodLink own index y ∈ gWs) (hd1 : d0 + 1 ≤ d) (hml : maxL ≤ 21) (hn : As.length = n) (hst : st0 = As.reverse ++ st) (hcat : (st.map fun v => v.category).sum ≤ 8) (hd : decode cc pc = .ok (.invokestatic index, 3)) : va_Run M.1.1 M.1.2.1 M.1.2.2.1 M.1.2.2.2 M.2.1.1 M.2.1.2.1 M.2.1.2.2.1 M.2.1.2.2.2 M.2.2.1.1 M.2.2.1.2.1 H locs 0 0 0 0 (F0 M.2.1.2.1 pc ls st0) st (Qc As.toArray) nf := by
  rw [gd_l C]
  exact va_runS (As := As) (rest := st) ⟨gd_x C, gd_b C, gd_ml C, gd_own C, gd_ts C⟩ hM (va_cwS n (gd_ts C) (gw_S hm hl) rfl rfl rfl hm.1 (g_room C hd1 hml)) ⟨gPic_blind (gd_Eo C), fun U hU hW => g_pre C hP hS U hU hW⟩ rfl hn hlv.1 hst (by show 2 * 0 + _ ≤ 8; omega) hd ⟨Nat.zero_le _, Nat.zero_le _⟩
theorem g_callV (C : Good l K D ad NC E d cc own M) (hd : decode cc pc = .ok (.invokevirtual index, 3)) {b : Int} (hct : CtI l K D ad NC cf E y bytes maxL ret d0 (.ref (ad b) :: As) σ r σ') {ci : Nat} {fs : List Value} {Cn : String} {T : u_T} {N : Nat} (hm : MWv y bytes maxL ret Cn n) (hl : Cond.methodLink own index y ∈ gWs) (hd1 : d0 + 1 ≤ d) (hml : maxL ≤ 21) (hb : 0 ≤ b ∧ b < (NC : Int)) (hf : cf b (σ b) = .inr (ci, fs)) (hc : vwCl[ci]? = some (Cn, T, N)) (hn : As.length = n) (hst : st0 = As.reverse ++ .ref (ad b) :: st) (hcat : (st.map fun v => v.category).sum ≤ 8) (k : G M ad NC cf (pc + 3) lv (.int (iI r) :: st) σ') : G M ad NC cf pc lv st0 σ := by
  intro H locs ls hP hS hlv
  refine va_calli (g_runV C hP hS hlv (hct H.size) hm hl hd1 hml hb hf hc hn hst hcat hd) hS (fun q _ h => gd_sub C hS q h) (gd_sub C hS) (fun x u t H1 locs1 ht _ hpost hB _ _ hS1 => ?_)
  obtain ⟨rfl, rfl⟩ := hpost
  rw [ht, ← gd_D C] at hB
  exact k H1 locs1 ls hB hS1 hlv
theorem g_callVl (C : Good l K D ad NC E d cc own M) (hd : decode cc pc = .ok (.invokevirtual index, 3)) {b : Int} (hct : CtL l K D ad NC cf E y bytes maxL ret d0 (.ref (ad b) :: As) σ r σ') {ci : Nat} {fs : List Value} {Cn : String} {T : u_T} {N : Nat} (hm : MWv y bytes maxL ret Cn n) (hl : Cond.methodLink own index y ∈ gWs) (hd1 : d0 + 1 ≤ d) (hml : maxL ≤ 21) (hb : 0 ≤ b ∧ b < (NC : Int)) (hf : cf b (σ b) = .inr (ci, fs)) (hc : vwCl[ci]? = some (Cn, T, N)) (hn : As.length = n) (hst : st0 = As.reverse ++ .ref (ad b) :: st) (hcat : (st.map fun v => v.category).sum ≤ 8) (k : G M ad NC cf (pc + 3) lv (.long (lI r) :: st) σ') : G M ad NC cf pc lv st0 σ := by
  intro H locs ls hP hS hlv
  refine va_calll (g_runV C hP hS hlv (hct H.size) hm hl hd1 hml hb hf hc hn hst hcat hd) hS (fun q _ h => gd_sub C hS q h) (gd_sub C hS) (fun x u t H1 locs1 ht _ hpost hB _ _ hS1 => ?_)
  obtain ⟨rfl, rfl⟩ := hpost
  rw [ht, ← gd_D C] at hB
  exact k H1 locs1 ls hB hS1 hlv
theorem g_callVv (C : Good l K D ad NC E d cc own M) (hd : decode cc pc = .ok (.invokevirtual index, 3)) {b : Int} (hct : CtV l K D ad NC cf E y bytes maxL ret d0 (.ref (ad b) :: As) σ σ') {ci : Nat} {fs : List Value} {Cn : String} {T : u_T} {N : Nat} (hm : MWv y bytes maxL ret Cn n) (hl : Cond.methodLink own index y ∈ gWs) (hd1 : d0 + 1 ≤ d) (hml : maxL ≤ 21) (hb : 0 ≤ b ∧ b < (NC : Int)) (hf : cf b (σ b) = .inr (ci, fs)) (hc : vwCl[ci]? = some (Cn, T, N)) (hn : As.length = n) (hst : st0 = As.reverse ++ .ref (ad b) :: st) (hcat : (st.map fun v => v.category).sum ≤ 8) (k : G M ad NC cf (pc + 3) lv st σ') : G M ad NC cf pc lv st0 σ := by
  intro H locs ls hP hS hlv
  refine va_callv (g_runV C hP hS hlv (hct H.size) hm hl hd1 hml hb hf hc hn hst hcat hd) hS (fun q _ h => gd_sub C hS q h) (gd_sub C hS) (fun u t H1 locs1 ht _ hpost hB _ _ hS1 => ?_)
  obtain rfl := hpost
  rw [ht, ← gd_D C] at hB
  exact k H1 locs1 ls hB hS1 hlv
theorem g_callS (C : Good l K D ad NC E d cc own M) (hd : decode cc pc = .ok (.invokestatic index, 3)) (hct : CtI l K D ad NC cf E y bytes maxL ret d0 As σ r σ') (hm : MWs y bytes maxL ret n) (hl : Cond.methodLink own index y ∈ gWs) (hd1 : d0 + 1 ≤ d) (hml : maxL ≤ 21) (hn : As.length = n) (hst : st0 = As.reverse ++ st) (hcat : (st.map fun v => v.category).sum ≤ 8) (k : G M ad NC cf (pc + 3) lv (.int (iI r) :: st) σ') : G M ad NC cf pc lv st0 σ := by
  intro H locs ls hP hS hlv
  refine va_calli (g_runS C hP hS hlv (hct H.size) hm hl hd1 hml hn hst hcat hd) hS (fun q _ h => gd_sub C hS q h) (gd_sub C hS) (fun x u t H1 locs1 ht _ hpost hB _ _ hS1 => ?_)
  obtain ⟨rfl, rfl⟩ := hpost
  rw [ht, ← gd_D C] at hB
  exact k H1 locs1 ls hB hS1 hlv
end GC
/-! a method's proof begins: its machine M, its return -/
def gM (p : Program) (l : Launch) (e : Env) (R : Room) (s : State) (m : MethodId) (args : Array Value) (below : List Frame) (meth : Method) (c : Code) (nL : Nat) (Q : State → Prop) (D : va_G) (A : Nat → Prop) : GM := ((p, l, e, R), (s, m, args, below), (meth, c, nL), (Q, D, A))
section GI
variable {l : Launch} {K : Nat → ClassId} {D : va_G} {ad : Int → Nat} {NC : Nat} {E : gEnv} {d : Nat} {bytes : ByteArray} {cf : Int → (Int → Int) → va_E} {σ σ' : Mem} {y : MethodName} {maxL : Nat} {As : List Value} {r : Int} {ret : Option FieldType}
theorem g_start {Qc : Array Value → State → Outcome → State → Prop} {sz : Nat} (hap : Apart ad NC) (hE : gEok E) (hy : plainName y.cls = true) (hlen : Nat.ble (lg_sl As).length maxL = true) (body : ∀ M : GM, Good l K D ad NC E d bytes y.cls M → M.2.2.1.2.2 = maxL → M.2.2.1.1.sig.returnType = ret → M.2.2.1.1.locks = false → M.2.2.2.1 = MQ M.2.1.2.2.2 Qc As.toArray M.2.1.1 0 0 (gA ad NC sz) → M.2.1.2.2.1 = As.toArray → M.2.1.1.heap.size = sz → M.2.2.2.2.2 = gA ad NC sz → G M ad NC cf 0 (lv_args 0 As) [] σ) : Met l y (gw y bytes maxL ret) (rmd d) (va_Pc As (gPic K D ad NC cf E σ sz)) Qc 0 0 (gA ad NC sz) := by
  refine Met.ofW (cc := bytes) (maxL := maxL) (ret := ret) hy rfl ?_
  intro p e s m args below meth c s₁ B hml hv
  obtain ⟨rfl, hsz, hP, hK, hEs⟩ := hv
  have hts : ∀ w ∈ gWs, w.before As.toArray s = true := fun w h => atoms_spec (ws := gw y bytes maxL ret) B.pre w (List.mem_cons_of_mem _ h)
  have hown : s.vm.findClass y.cls = some m.cls := findClass_of_methodNamed B.named
  have C : Good l K D ad NC E d bytes y.cls (gM p l e (headSpec (gw y bytes maxL ret) (rmd d)).room s m As.toArray below meth c maxL (MQ below Qc As.toArray s 0 0 (gA ad NC sz)) D (gA ad NC sz)) := by
    unfold Good gM
    exact ⟨B.exec, B.bytes, hml, hown, hts, hK, hap, fun k h0 h1 => Or.inl ⟨k, h0, h1, rfl⟩, fun q h => Or.inr (by rw [← hsz]; exact h), hEs, rfl, rfl, rfl, hE⟩
  have hG := body _ C rfl B.returns B.notSynchronized rfl rfl hsz rfl
  have hl := lv_entry As (n := maxL) (Nat.le_of_ble_eq_true hlen)
  rw [lg_entry_eq]
  exact hG s.heap [] _ hP va_S.rf hl
theorem ctI_of (hap : Apart ad NC) (hE : gEok E) (hy : plainName y.cls = true) (hlen : Nat.ble (lg_sl As).length maxL = true) (ty : FieldType) (hty : narrow ty (.int (iI r)) = .int (iI r)) (body : ∀ M : GM, Good l K D ad NC E d bytes y.cls M → M.2.2.1.2.2 = maxL → (∀ (pc : Nat) (lv : List (Nat × Value)) (x : Int) (τ : Mem), decode bytes pc = .ok (.ireturn, 1) → x = r → τ = σ' → G M ad NC cf pc lv [.int (iI x)] τ) → G M ad NC cf 0 (lv_args 0 As) [] σ) : CtI l K D ad NC cf E y bytes maxL (some ty) d As σ r σ' := by
  intro sz
  refine g_start hap hE hy hlen (fun M C hn hr hlk hQ hargs hsz hA => body M C hn (fun pc lv x τ hd hx hτ => ?_))
  subst hx hτ
  intro H locs ls hP hS hl
  have h1 : ∀ t : State, t.heap = H → va_P D vwCl (wd ad NC cf τ) t.heap := fun t ht => by rw [ht, ← gd_D C]; exact hP
  have h2 : ∀ t : State, t.heap = H → va_F (gA ad NC sz) M.2.1.1 t := fun t ht => by rw [← hA]; exact hS.F ht
  have h3 : ∀ q ∈ locs, gA ad NC sz q.base := fun q hq => by rw [← hA]; exact hS.2.2 q hq
  rw [hQ, ← hargs]
  exact W.zret (gd_x C) (gd_b C) hr hty (fun t ht hW => ⟨⟨_, τ, rfl, ⟨rfl, rfl⟩, h1 t ht⟩, h2 t ht⟩) h3 hd hlk
theorem ctL_of (hap : Apart ad NC) (hE : gEok E) (hy : plainName y.cls = true) (hlen : Nat.ble (lg_sl As).length maxL = true) (body : ∀ M : GM, Good l K D ad NC E d bytes y.cls M → M.2.2.1.2.2 = maxL → (∀ (pc : Nat) (lv : List (Nat × Value)) (x : Int) (τ : Mem), decode bytes pc = .ok (.lreturn, 1) → x = r → τ = σ' → G M ad NC cf pc lv [.long (lI x)] τ) → G M ad NC cf 0 (lv_args 0 As) [] σ) : CtL l K D ad NC cf E y bytes maxL (some .long) d As σ r σ' := by
  intro sz
  refine g_start hap hE hy hlen (fun M C hn hr hlk hQ hargs hsz hA => body M C hn (fun pc lv x τ hd hx hτ => ?_))
  subst hx hτ
  intro H locs ls hP hS hl
  have h1 : ∀ t : State, t.heap = H → va_P D vwCl (wd ad NC cf τ) t.heap := fun t ht => by rw [ht, ← gd_D C]; exact hP
  have h2 : ∀ t : State, t.heap = H → va_F (gA ad NC sz) M.2.1.1 t := fun t ht => by rw [← hA]; exact hS.F ht
  have h3 : ∀ q ∈ locs, gA ad NC sz q.base := fun q hq => by rw [← hA]; exact hS.2.2 q hq
  rw [hQ, ← hargs]
  exact W.lret (gd_x C) (gd_b C) hr (fun t ht hW => ⟨⟨_, τ, rfl, ⟨rfl, rfl⟩, h1 t ht⟩, h2 t ht⟩) h3 hd hlk
theorem ctV_of (hap : Apart ad NC) (hE : gEok E) (hy : plainName y.cls = true) (hlen : Nat.ble (lg_sl As).length maxL = true) (body : ∀ M : GM, Good l K D ad NC E d bytes y.cls M → M.2.2.1.2.2 = maxL → (∀ (pc : Nat) (lv : List (Nat × Value)) (τ : Mem), decode bytes pc = .ok (.return_, 1) → τ = σ' → G M ad NC cf pc lv [] τ) → G M ad NC cf 0 (lv_args 0 As) [] σ) : CtV l K D ad NC cf E y bytes maxL none d As σ σ' := by
  intro sz
  refine g_start hap hE hy hlen (fun M C hn hr hlk hQ hargs hsz hA => body M C hn (fun pc lv τ hd hτ => ?_))
  subst hτ
  intro H locs ls hP hS hl
  have h1 : ∀ t : State, t.heap = H → va_P D vwCl (wd ad NC cf τ) t.heap := fun t ht => by rw [ht, ← gd_D C]; exact hP
  have h2 : ∀ t : State, t.heap = H → va_F (gA ad NC sz) M.2.1.1 t := fun t ht => by rw [← hA]; exact hS.F ht
  have h3 : ∀ q ∈ locs, gA ad NC sz q.base := fun q hq => by rw [← hA]; exact hS.2.2 q hq
  rw [hQ, ← hargs]
  exact W.vret (gd_x C) (gd_b C) hr (fun t ht hW => ⟨⟨τ, rfl, rfl, h1 t ht⟩, h2 t ht⟩) h3 hd hlk
theorem nar_i (r : Int) : narrow .int (.int (iI r)) = .int (iI r) := rfl
theorem nar_z {r : Int} (h : r = 0 ∨ r = 1) : narrow .boolean (.int (iI r)) = .int (iI r) := by rcases h with rfl | rfl <;> rfl
end GI
end
section
/-! THE REFERENCE'S WORLD: cell 0 its object, cells 1 .. 11 its rows -/
def cfM (ad : Int → Nat) (K : Nat → ClassId) (k : Int) (f : Int → Int) : va_E :=
  if k = 0 then .inr (9, [.int (iI (f 0)), .int (iI (f 1)), .ref (ad 1), .ref (ad 2), .ref (ad 3), .ref (ad 4), .ref (ad 5), .ref (ad 6), .int (iI (f 8)), .ref (ad 7), .int (iI (f 10)), .int (iI (f 11)), .int (iI (f 12)), .int (iI (f 13)), .int (iI (f 14)), .int (iI (f 15)), .int (iI (f 16)), .int (iI (f 17)), .int (iI (f 18)), .ref (ad 8), .ref (ad 9), .ref (ad 10), .ref (ad 11), .int (iI (f 23))])
  else if k = 1 then .inl (K 0, 8, .inl (fun j : Nat => iI (f (j : Int))))
  else if k = 2 then .inl (K 0, 8, .inl (fun j : Nat => iI (f (j : Int))))
  else if k = 3 then .inl (K 0, 320, .inl (fun j : Nat => iI (f (j : Int))))
  else if k = 4 then .inl (K 0, 42, .inl (fun j : Nat => iI (f (j : Int))))
  else if k = 5 then .inl (K 0, 42, .inl (fun j : Nat => iI (f (j : Int))))
  else if k = 6 then .inl (K 0, 1008, .inl (fun j : Nat => iI (f (j : Int))))
  else if k = 7 then .inl (K 0, 400, .inl (fun j : Nat => iI (f (j : Int))))
  else if k = 8 then .inl (K 0, 4, .inl (fun j : Nat => iI (f (j : Int))))
  else if k = 9 then .inl (K 1, 2, .inl (fun j : Nat => iI (f (j : Int))))
  else if k = 10 then .inl (K 0, 84, .inl (fun j : Nat => iI (f (j : Int))))
  else if k = 11 then .inl (K 0, 16, .inl (fun j : Nat => iI (f (j : Int))))
  else .inl (K 0, 0, .inl (fun _ => 0))
section WM
variable {l : Launch} {K : Nat → ClassId} {D : va_G} {ad : Int → Nat} {E : gEnv} {d : Nat} {cc : ByteArray} {own : String} {M : GM} {pc : Nat} {lv : List (Nat × Value)} {st : List Value} {σ : Mem}
theorem gm_g_thrown (C : Good l K D ad 12 E d cc own M) {index : Nat} (hd : decode cc pc = .ok (.getfield index, 3)) (hw : Cond.fieldLink own index "LeastWantsModel" "thrown" "I" ∈ gWs) (k : G M ad 12 (cfM ad K) (pc + 3) lv (.int (iI (σ 0 0)) :: st) σ) : G M ad 12 (cfM ad K) pc lv (.ref (ad 0) :: st) σ := g_get C hd ⟨by omega, by omega⟩ rfl rfl inX9 (j := 0) (by decide) hw rfl k
theorem gm_p_thrown (C : Good l K D ad 12 E d cc own M) {index : Nat} {x : Int} (hd : decode cc pc = .ok (.putfield index, 3)) (hw : Cond.fieldLink own index "LeastWantsModel" "thrown" "I" ∈ gWs) (k : G M ad 12 (cfM ad K) (pc + 3) lv st (mu σ 0 0 x)) : G M ad 12 (cfM ad K) pc lv (.int (iI x) :: .ref (ad 0) :: st) σ := g_put C (ru (σ 0) 0 x) hd ⟨by omega, by omega⟩ rfl rfl rfl inX9 tyX9_ok nmX9 (j := 0) (ty := .int) (by decide) hw rfl (by decide +kernel) rfl rfl (Nat.le_of_ble_eq_true rfl) k
theorem gm_g_status (C : Good l K D ad 12 E d cc own M) {index : Nat} (hd : decode cc pc = .ok (.getfield index, 3)) (hw : Cond.fieldLink own index "LeastWantsModel" "status" "I" ∈ gWs) (k : G M ad 12 (cfM ad K) (pc + 3) lv (.int (iI (σ 0 1)) :: st) σ) : G M ad 12 (cfM ad K) pc lv (.ref (ad 0) :: st) σ := g_get C hd ⟨by omega, by omega⟩ rfl rfl inX9 (j := 1) (by decide) hw rfl k
theorem gm_p_status (C : Good l K D ad 12 E d cc own M) {index : Nat} {x : Int} (hd : decode cc pc = .ok (.putfield index, 3)) (hw : Cond.fieldLink own index "LeastWantsModel" "status" "I" ∈ gWs) (k : G M ad 12 (cfM ad K) (pc + 3) lv st (mu σ 0 1 x)) : G M ad 12 (cfM ad K) pc lv (.int (iI x) :: .ref (ad 0) :: st) σ := g_put C (ru (σ 0) 1 x) hd ⟨by omega, by omega⟩ rfl rfl rfl inX9 tyX9_ok nmX9 (j := 1) (ty := .int) (by decide) hw rfl (by decide +kernel) rfl rfl (Nat.le_of_ble_eq_true rfl) k
theorem gm_g_lane (C : Good l K D ad 12 E d cc own M) {index : Nat} (hd : decode cc pc = .ok (.getfield index, 3)) (hw : Cond.fieldLink own index "LeastWantsModel" "lane" "[I" ∈ gWs) (k : G M ad 12 (cfM ad K) (pc + 3) lv (.ref (ad 1) :: st) σ) : G M ad 12 (cfM ad K) pc lv (.ref (ad 0) :: st) σ := g_get C hd ⟨by omega, by omega⟩ rfl rfl inX9 (j := 2) (by decide) hw rfl k
theorem gm_g_many (C : Good l K D ad 12 E d cc own M) {index : Nat} (hd : decode cc pc = .ok (.getfield index, 3)) (hw : Cond.fieldLink own index "LeastWantsModel" "many" "[I" ∈ gWs) (k : G M ad 12 (cfM ad K) (pc + 3) lv (.ref (ad 2) :: st) σ) : G M ad 12 (cfM ad K) pc lv (.ref (ad 0) :: st) σ := g_get C hd ⟨by omega, by omega⟩ rfl rfl inX9 (j := 3) (by decide) hw rfl k
theorem gm_g_item (C : Good l K D ad 12 E d cc own M) {index : Nat} (hd : decode cc pc = .ok (.getfield index, 3)) (hw : Cond.fieldLink own index "LeastWantsModel" "item" "[I" ∈ gWs) (k : G M ad 12 (cfM ad K) (pc + 3) lv (.ref (ad 3) :: st) σ) : G M ad 12 (cfM ad K) pc lv (.ref (ad 0) :: st) σ := g_get C hd ⟨by omega, by omega⟩ rfl rfl inX9 (j := 4) (by decide) hw rfl k
theorem gm_g_town (C : Good l K D ad 12 E d cc own M) {index : Nat} (hd : decode cc pc = .ok (.getfield index, 3)) (hw : Cond.fieldLink own index "LeastWantsModel" "town" "[I" ∈ gWs) (k : G M ad 12 (cfM ad K) (pc + 3) lv (.ref (ad 4) :: st) σ) : G M ad 12 (cfM ad K) pc lv (.ref (ad 0) :: st) σ := g_get C hd ⟨by omega, by omega⟩ rfl rfl inX9 (j := 5) (by decide) hw rfl k
theorem gm_g_fresh (C : Good l K D ad 12 E d cc own M) {index : Nat} (hd : decode cc pc = .ok (.getfield index, 3)) (hw : Cond.fieldLink own index "LeastWantsModel" "fresh" "[I" ∈ gWs) (k : G M ad 12 (cfM ad K) (pc + 3) lv (.ref (ad 5) :: st) σ) : G M ad 12 (cfM ad K) pc lv (.ref (ad 0) :: st) σ := g_get C hd ⟨by omega, by omega⟩ rfl rfl inX9 (j := 6) (by decide) hw rfl k
theorem gm_g_was (C : Good l K D ad 12 E d cc own M) {index : Nat} (hd : decode cc pc = .ok (.getfield index, 3)) (hw : Cond.fieldLink own index "LeastWantsModel" "was" "[I" ∈ gWs) (k : G M ad 12 (cfM ad K) (pc + 3) lv (.ref (ad 6) :: st) σ) : G M ad 12 (cfM ad K) pc lv (.ref (ad 0) :: st) σ := g_get C hd ⟨by omega, by omega⟩ rfl rfl inX9 (j := 7) (by decide) hw rfl k
theorem gm_g_acts (C : Good l K D ad 12 E d cc own M) {index : Nat} (hd : decode cc pc = .ok (.getfield index, 3)) (hw : Cond.fieldLink own index "LeastWantsModel" "acts" "I" ∈ gWs) (k : G M ad 12 (cfM ad K) (pc + 3) lv (.int (iI (σ 0 8)) :: st) σ) : G M ad 12 (cfM ad K) pc lv (.ref (ad 0) :: st) σ := g_get C hd ⟨by omega, by omega⟩ rfl rfl inX9 (j := 8) (by decide) hw rfl k
theorem gm_p_acts (C : Good l K D ad 12 E d cc own M) {index : Nat} {x : Int} (hd : decode cc pc = .ok (.putfield index, 3)) (hw : Cond.fieldLink own index "LeastWantsModel" "acts" "I" ∈ gWs) (k : G M ad 12 (cfM ad K) (pc + 3) lv st (mu σ 0 8 x)) : G M ad 12 (cfM ad K) pc lv (.int (iI x) :: .ref (ad 0) :: st) σ := g_put C (ru (σ 0) 8 x) hd ⟨by omega, by omega⟩ rfl rfl rfl inX9 tyX9_ok nmX9 (j := 8) (ty := .int) (by decide) hw rfl (by decide +kernel) rfl rfl (Nat.le_of_ble_eq_true rfl) k
theorem gm_g_tape (C : Good l K D ad 12 E d cc own M) {index : Nat} (hd : decode cc pc = .ok (.getfield index, 3)) (hw : Cond.fieldLink own index "LeastWantsModel" "tape" "[I" ∈ gWs) (k : G M ad 12 (cfM ad K) (pc + 3) lv (.ref (ad 7) :: st) σ) : G M ad 12 (cfM ad K) pc lv (.ref (ad 0) :: st) σ := g_get C hd ⟨by omega, by omega⟩ rfl rfl inX9 (j := 9) (by decide) hw rfl k
theorem gm_g_taped (C : Good l K D ad 12 E d cc own M) {index : Nat} (hd : decode cc pc = .ok (.getfield index, 3)) (hw : Cond.fieldLink own index "LeastWantsModel" "taped" "I" ∈ gWs) (k : G M ad 12 (cfM ad K) (pc + 3) lv (.int (iI (σ 0 10)) :: st) σ) : G M ad 12 (cfM ad K) pc lv (.ref (ad 0) :: st) σ := g_get C hd ⟨by omega, by omega⟩ rfl rfl inX9 (j := 10) (by decide) hw rfl k
theorem gm_p_taped (C : Good l K D ad 12 E d cc own M) {index : Nat} {x : Int} (hd : decode cc pc = .ok (.putfield index, 3)) (hw : Cond.fieldLink own index "LeastWantsModel" "taped" "I" ∈ gWs) (k : G M ad 12 (cfM ad K) (pc + 3) lv st (mu σ 0 10 x)) : G M ad 12 (cfM ad K) pc lv (.int (iI x) :: .ref (ad 0) :: st) σ := g_put C (ru (σ 0) 10 x) hd ⟨by omega, by omega⟩ rfl rfl rfl inX9 tyX9_ok nmX9 (j := 10) (ty := .int) (by decide) hw rfl (by decide +kernel) rfl rfl (Nat.le_of_ble_eq_true rfl) k
theorem gm_g_latest (C : Good l K D ad 12 E d cc own M) {index : Nat} (hd : decode cc pc = .ok (.getfield index, 3)) (hw : Cond.fieldLink own index "LeastWantsModel" "latest" "I" ∈ gWs) (k : G M ad 12 (cfM ad K) (pc + 3) lv (.int (iI (σ 0 11)) :: st) σ) : G M ad 12 (cfM ad K) pc lv (.ref (ad 0) :: st) σ := g_get C hd ⟨by omega, by omega⟩ rfl rfl inX9 (j := 11) (by decide) hw rfl k
theorem gm_p_latest (C : Good l K D ad 12 E d cc own M) {index : Nat} {x : Int} (hd : decode cc pc = .ok (.putfield index, 3)) (hw : Cond.fieldLink own index "LeastWantsModel" "latest" "I" ∈ gWs) (k : G M ad 12 (cfM ad K) (pc + 3) lv st (mu σ 0 11 x)) : G M ad 12 (cfM ad K) pc lv (.int (iI x) :: .ref (ad 0) :: st) σ := g_put C (ru (σ 0) 11 x) hd ⟨by omega, by omega⟩ rfl rfl rfl inX9 tyX9_ok nmX9 (j := 11) (ty := .int) (by decide) hw rfl (by decide +kernel) rfl rfl (Nat.le_of_ble_eq_true rfl) k
theorem gm_g_length (C : Good l K D ad 12 E d cc own M) {index : Nat} (hd : decode cc pc = .ok (.getfield index, 3)) (hw : Cond.fieldLink own index "LeastWantsModel" "length" "I" ∈ gWs) (k : G M ad 12 (cfM ad K) (pc + 3) lv (.int (iI (σ 0 12)) :: st) σ) : G M ad 12 (cfM ad K) pc lv (.ref (ad 0) :: st) σ := g_get C hd ⟨by omega, by omega⟩ rfl rfl inX9 (j := 12) (by decide) hw rfl k
theorem gm_p_length (C : Good l K D ad 12 E d cc own M) {index : Nat} {x : Int} (hd : decode cc pc = .ok (.putfield index, 3)) (hw : Cond.fieldLink own index "LeastWantsModel" "length" "I" ∈ gWs) (k : G M ad 12 (cfM ad K) (pc + 3) lv st (mu σ 0 12 x)) : G M ad 12 (cfM ad K) pc lv (.int (iI x) :: .ref (ad 0) :: st) σ := g_put C (ru (σ 0) 12 x) hd ⟨by omega, by omega⟩ rfl rfl rfl inX9 tyX9_ok nmX9 (j := 12) (ty := .int) (by decide) hw rfl (by decide +kernel) rfl rfl (Nat.le_of_ble_eq_true rfl) k
theorem gm_g_cursor (C : Good l K D ad 12 E d cc own M) {index : Nat} (hd : decode cc pc = .ok (.getfield index, 3)) (hw : Cond.fieldLink own index "LeastWantsModel" "cursor" "I" ∈ gWs) (k : G M ad 12 (cfM ad K) (pc + 3) lv (.int (iI (σ 0 13)) :: st) σ) : G M ad 12 (cfM ad K) pc lv (.ref (ad 0) :: st) σ := g_get C hd ⟨by omega, by omega⟩ rfl rfl inX9 (j := 13) (by decide) hw rfl k
theorem gm_p_cursor (C : Good l K D ad 12 E d cc own M) {index : Nat} {x : Int} (hd : decode cc pc = .ok (.putfield index, 3)) (hw : Cond.fieldLink own index "LeastWantsModel" "cursor" "I" ∈ gWs) (k : G M ad 12 (cfM ad K) (pc + 3) lv st (mu σ 0 13 x)) : G M ad 12 (cfM ad K) pc lv (.int (iI x) :: .ref (ad 0) :: st) σ := g_put C (ru (σ 0) 13 x) hd ⟨by omega, by omega⟩ rfl rfl rfl inX9 tyX9_ok nmX9 (j := 13) (ty := .int) (by decide) hw rfl (by decide +kernel) rfl rfl (Nat.le_of_ble_eq_true rfl) k
theorem gm_g_token (C : Good l K D ad 12 E d cc own M) {index : Nat} (hd : decode cc pc = .ok (.getfield index, 3)) (hw : Cond.fieldLink own index "LeastWantsModel" "token" "I" ∈ gWs) (k : G M ad 12 (cfM ad K) (pc + 3) lv (.int (iI (σ 0 14)) :: st) σ) : G M ad 12 (cfM ad K) pc lv (.ref (ad 0) :: st) σ := g_get C hd ⟨by omega, by omega⟩ rfl rfl inX9 (j := 14) (by decide) hw rfl k
theorem gm_p_token (C : Good l K D ad 12 E d cc own M) {index : Nat} {x : Int} (hd : decode cc pc = .ok (.putfield index, 3)) (hw : Cond.fieldLink own index "LeastWantsModel" "token" "I" ∈ gWs) (k : G M ad 12 (cfM ad K) (pc + 3) lv st (mu σ 0 14 x)) : G M ad 12 (cfM ad K) pc lv (.int (iI x) :: .ref (ad 0) :: st) σ := g_put C (ru (σ 0) 14 x) hd ⟨by omega, by omega⟩ rfl rfl rfl inX9 tyX9_ok nmX9 (j := 14) (ty := .int) (by decide) hw rfl (by decide +kernel) rfl rfl (Nat.le_of_ble_eq_true rfl) k
theorem gm_g_start (C : Good l K D ad 12 E d cc own M) {index : Nat} (hd : decode cc pc = .ok (.getfield index, 3)) (hw : Cond.fieldLink own index "LeastWantsModel" "start" "I" ∈ gWs) (k : G M ad 12 (cfM ad K) (pc + 3) lv (.int (iI (σ 0 15)) :: st) σ) : G M ad 12 (cfM ad K) pc lv (.ref (ad 0) :: st) σ := g_get C hd ⟨by omega, by omega⟩ rfl rfl inX9 (j := 15) (by decide) hw rfl k
theorem gm_p_start (C : Good l K D ad 12 E d cc own M) {index : Nat} {x : Int} (hd : decode cc pc = .ok (.putfield index, 3)) (hw : Cond.fieldLink own index "LeastWantsModel" "start" "I" ∈ gWs) (k : G M ad 12 (cfM ad K) (pc + 3) lv st (mu σ 0 15 x)) : G M ad 12 (cfM ad K) pc lv (.int (iI x) :: .ref (ad 0) :: st) σ := g_put C (ru (σ 0) 15 x) hd ⟨by omega, by omega⟩ rfl rfl rfl inX9 tyX9_ok nmX9 (j := 15) (ty := .int) (by decide) hw rfl (by decide +kernel) rfl rfl (Nat.le_of_ble_eq_true rfl) k
theorem gm_g_till (C : Good l K D ad 12 E d cc own M) {index : Nat} (hd : decode cc pc = .ok (.getfield index, 3)) (hw : Cond.fieldLink own index "LeastWantsModel" "till" "I" ∈ gWs) (k : G M ad 12 (cfM ad K) (pc + 3) lv (.int (iI (σ 0 16)) :: st) σ) : G M ad 12 (cfM ad K) pc lv (.ref (ad 0) :: st) σ := g_get C hd ⟨by omega, by omega⟩ rfl rfl inX9 (j := 16) (by decide) hw rfl k
theorem gm_p_till (C : Good l K D ad 12 E d cc own M) {index : Nat} {x : Int} (hd : decode cc pc = .ok (.putfield index, 3)) (hw : Cond.fieldLink own index "LeastWantsModel" "till" "I" ∈ gWs) (k : G M ad 12 (cfM ad K) (pc + 3) lv st (mu σ 0 16 x)) : G M ad 12 (cfM ad K) pc lv (.int (iI x) :: .ref (ad 0) :: st) σ := g_put C (ru (σ 0) 16 x) hd ⟨by omega, by omega⟩ rfl rfl rfl inX9 tyX9_ok nmX9 (j := 16) (ty := .int) (by decide) hw rfl (by decide +kernel) rfl rfl (Nat.le_of_ble_eq_true rfl) k
theorem gm_g_fault (C : Good l K D ad 12 E d cc own M) {index : Nat} (hd : decode cc pc = .ok (.getfield index, 3)) (hw : Cond.fieldLink own index "LeastWantsModel" "fault" "I" ∈ gWs) (k : G M ad 12 (cfM ad K) (pc + 3) lv (.int (iI (σ 0 17)) :: st) σ) : G M ad 12 (cfM ad K) pc lv (.ref (ad 0) :: st) σ := g_get C hd ⟨by omega, by omega⟩ rfl rfl inX9 (j := 17) (by decide) hw rfl k
theorem gm_p_fault (C : Good l K D ad 12 E d cc own M) {index : Nat} {x : Int} (hd : decode cc pc = .ok (.putfield index, 3)) (hw : Cond.fieldLink own index "LeastWantsModel" "fault" "I" ∈ gWs) (k : G M ad 12 (cfM ad K) (pc + 3) lv st (mu σ 0 17 x)) : G M ad 12 (cfM ad K) pc lv (.int (iI x) :: .ref (ad 0) :: st) σ := g_put C (ru (σ 0) 17 x) hd ⟨by omega, by omega⟩ rfl rfl rfl inX9 tyX9_ok nmX9 (j := 17) (ty := .int) (by decide) hw rfl (by decide +kernel) rfl rfl (Nat.le_of_ble_eq_true rfl) k
theorem gm_g_faultAt (C : Good l K D ad 12 E d cc own M) {index : Nat} (hd : decode cc pc = .ok (.getfield index, 3)) (hw : Cond.fieldLink own index "LeastWantsModel" "faultAt" "I" ∈ gWs) (k : G M ad 12 (cfM ad K) (pc + 3) lv (.int (iI (σ 0 18)) :: st) σ) : G M ad 12 (cfM ad K) pc lv (.ref (ad 0) :: st) σ := g_get C hd ⟨by omega, by omega⟩ rfl rfl inX9 (j := 18) (by decide) hw rfl k
theorem gm_p_faultAt (C : Good l K D ad 12 E d cc own M) {index : Nat} {x : Int} (hd : decode cc pc = .ok (.putfield index, 3)) (hw : Cond.fieldLink own index "LeastWantsModel" "faultAt" "I" ∈ gWs) (k : G M ad 12 (cfM ad K) (pc + 3) lv st (mu σ 0 18 x)) : G M ad 12 (cfM ad K) pc lv (.int (iI x) :: .ref (ad 0) :: st) σ := g_put C (ru (σ 0) 18 x) hd ⟨by omega, by omega⟩ rfl rfl rfl inX9 tyX9_ok nmX9 (j := 18) (ty := .int) (by decide) hw rfl (by decide +kernel) rfl rfl (Nat.le_of_ble_eq_true rfl) k
theorem gm_g_says (C : Good l K D ad 12 E d cc own M) {index : Nat} (hd : decode cc pc = .ok (.getfield index, 3)) (hw : Cond.fieldLink own index "LeastWantsModel" "says" "[I" ∈ gWs) (k : G M ad 12 (cfM ad K) (pc + 3) lv (.ref (ad 8) :: st) σ) : G M ad 12 (cfM ad K) pc lv (.ref (ad 0) :: st) σ := g_get C hd ⟨by omega, by omega⟩ rfl rfl inX9 (j := 19) (by decide) hw rfl k
theorem gm_g_isKept (C : Good l K D ad 12 E d cc own M) {index : Nat} (hd : decode cc pc = .ok (.getfield index, 3)) (hw : Cond.fieldLink own index "LeastWantsModel" "isKept" "[Z" ∈ gWs) (k : G M ad 12 (cfM ad K) (pc + 3) lv (.ref (ad 9) :: st) σ) : G M ad 12 (cfM ad K) pc lv (.ref (ad 0) :: st) σ := g_get C hd ⟨by omega, by omega⟩ rfl rfl inX9 (j := 20) (by decide) hw rfl k
theorem gm_g_kept (C : Good l K D ad 12 E d cc own M) {index : Nat} (hd : decode cc pc = .ok (.getfield index, 3)) (hw : Cond.fieldLink own index "LeastWantsModel" "kept" "[I" ∈ gWs) (k : G M ad 12 (cfM ad K) (pc + 3) lv (.ref (ad 10) :: st) σ) : G M ad 12 (cfM ad K) pc lv (.ref (ad 0) :: st) σ := g_get C hd ⟨by omega, by omega⟩ rfl rfl inX9 (j := 21) (by decide) hw rfl k
theorem gm_g_trace (C : Good l K D ad 12 E d cc own M) {index : Nat} (hd : decode cc pc = .ok (.getfield index, 3)) (hw : Cond.fieldLink own index "LeastWantsModel" "trace" "[I" ∈ gWs) (k : G M ad 12 (cfM ad K) (pc + 3) lv (.ref (ad 11) :: st) σ) : G M ad 12 (cfM ad K) pc lv (.ref (ad 0) :: st) σ := g_get C hd ⟨by omega, by omega⟩ rfl rfl inX9 (j := 22) (by decide) hw rfl k
theorem gm_g_traced (C : Good l K D ad 12 E d cc own M) {index : Nat} (hd : decode cc pc = .ok (.getfield index, 3)) (hw : Cond.fieldLink own index "LeastWantsModel" "traced" "I" ∈ gWs) (k : G M ad 12 (cfM ad K) (pc + 3) lv (.int (iI (σ 0 23)) :: st) σ) : G M ad 12 (cfM ad K) pc lv (.ref (ad 0) :: st) σ := g_get C hd ⟨by omega, by omega⟩ rfl rfl inX9 (j := 23) (by decide) hw rfl k
theorem gm_p_traced (C : Good l K D ad 12 E d cc own M) {index : Nat} {x : Int} (hd : decode cc pc = .ok (.putfield index, 3)) (hw : Cond.fieldLink own index "LeastWantsModel" "traced" "I" ∈ gWs) (k : G M ad 12 (cfM ad K) (pc + 3) lv st (mu σ 0 23 x)) : G M ad 12 (cfM ad K) pc lv (.int (iI x) :: .ref (ad 0) :: st) σ := g_put C (ru (σ 0) 23 x) hd ⟨by omega, by omega⟩ rfl rfl rfl inX9 tyX9_ok nmX9 (j := 23) (ty := .int) (by decide) hw rfl (by decide +kernel) rfl rfl (Nat.le_of_ble_eq_true rfl) k
theorem gm_l_lane (C : Good l K D ad 12 E d cc own M) {a : Int} (hd : decode cc pc = .ok (.iaload, 1)) (h0 : 0 ≤ a) (h1 : a < 8) (k : G M ad 12 (cfM ad K) (pc + 1) lv (.int (iI (σ 1 a)) :: st) σ) : G M ad 12 (cfM ad K) pc lv (.int (iI a) :: .ref (ad 1) :: st) σ := g_iald C hd ⟨by omega, by omega⟩ (fun _ => rfl) h0 h1 ⟨by omega, by omega⟩ k
theorem gm_s_lane (C : Good l K D ad 12 E d cc own M) {a x : Int} (hd : decode cc pc = .ok (.iastore, 1)) (h0 : 0 ≤ a) (h1 : a < 8) (k : G M ad 12 (cfM ad K) (pc + 1) lv st (mu σ 1 a x)) : G M ad 12 (cfM ad K) pc lv (.int (iI x) :: .int (iI a) :: .ref (ad 1) :: st) σ := g_iast C hd ⟨by omega, by omega⟩ (fun _ => rfl) h0 h1 ⟨by omega, by omega⟩ k
theorem gm_l_many (C : Good l K D ad 12 E d cc own M) {a : Int} (hd : decode cc pc = .ok (.iaload, 1)) (h0 : 0 ≤ a) (h1 : a < 8) (k : G M ad 12 (cfM ad K) (pc + 1) lv (.int (iI (σ 2 a)) :: st) σ) : G M ad 12 (cfM ad K) pc lv (.int (iI a) :: .ref (ad 2) :: st) σ := g_iald C hd ⟨by omega, by omega⟩ (fun _ => rfl) h0 h1 ⟨by omega, by omega⟩ k
theorem gm_s_many (C : Good l K D ad 12 E d cc own M) {a x : Int} (hd : decode cc pc = .ok (.iastore, 1)) (h0 : 0 ≤ a) (h1 : a < 8) (k : G M ad 12 (cfM ad K) (pc + 1) lv st (mu σ 2 a x)) : G M ad 12 (cfM ad K) pc lv (.int (iI x) :: .int (iI a) :: .ref (ad 2) :: st) σ := g_iast C hd ⟨by omega, by omega⟩ (fun _ => rfl) h0 h1 ⟨by omega, by omega⟩ k
theorem gm_l_item (C : Good l K D ad 12 E d cc own M) {a : Int} (hd : decode cc pc = .ok (.iaload, 1)) (h0 : 0 ≤ a) (h1 : a < 320) (k : G M ad 12 (cfM ad K) (pc + 1) lv (.int (iI (σ 3 a)) :: st) σ) : G M ad 12 (cfM ad K) pc lv (.int (iI a) :: .ref (ad 3) :: st) σ := g_iald C hd ⟨by omega, by omega⟩ (fun _ => rfl) h0 h1 ⟨by omega, by omega⟩ k
theorem gm_s_item (C : Good l K D ad 12 E d cc own M) {a x : Int} (hd : decode cc pc = .ok (.iastore, 1)) (h0 : 0 ≤ a) (h1 : a < 320) (k : G M ad 12 (cfM ad K) (pc + 1) lv st (mu σ 3 a x)) : G M ad 12 (cfM ad K) pc lv (.int (iI x) :: .int (iI a) :: .ref (ad 3) :: st) σ := g_iast C hd ⟨by omega, by omega⟩ (fun _ => rfl) h0 h1 ⟨by omega, by omega⟩ k
theorem gm_l_town (C : Good l K D ad 12 E d cc own M) {a : Int} (hd : decode cc pc = .ok (.iaload, 1)) (h0 : 0 ≤ a) (h1 : a < 42) (k : G M ad 12 (cfM ad K) (pc + 1) lv (.int (iI (σ 4 a)) :: st) σ) : G M ad 12 (cfM ad K) pc lv (.int (iI a) :: .ref (ad 4) :: st) σ := g_iald C hd ⟨by omega, by omega⟩ (fun _ => rfl) h0 h1 ⟨by omega, by omega⟩ k
theorem gm_s_town (C : Good l K D ad 12 E d cc own M) {a x : Int} (hd : decode cc pc = .ok (.iastore, 1)) (h0 : 0 ≤ a) (h1 : a < 42) (k : G M ad 12 (cfM ad K) (pc + 1) lv st (mu σ 4 a x)) : G M ad 12 (cfM ad K) pc lv (.int (iI x) :: .int (iI a) :: .ref (ad 4) :: st) σ := g_iast C hd ⟨by omega, by omega⟩ (fun _ => rfl) h0 h1 ⟨by omega, by omega⟩ k
theorem gm_l_fresh (C : Good l K D ad 12 E d cc own M) {a : Int} (hd : decode cc pc = .ok (.iaload, 1)) (h0 : 0 ≤ a) (h1 : a < 42) (k : G M ad 12 (cfM ad K) (pc + 1) lv (.int (iI (σ 5 a)) :: st) σ) : G M ad 12 (cfM ad K) pc lv (.int (iI a) :: .ref (ad 5) :: st) σ := g_iald C hd ⟨by omega, by omega⟩ (fun _ => rfl) h0 h1 ⟨by omega, by omega⟩ k
theorem gm_s_fresh (C : Good l K D ad 12 E d cc own M) {a x : Int} (hd : decode cc pc = .ok (.iastore, 1)) (h0 : 0 ≤ a) (h1 : a < 42) (k : G M ad 12 (cfM ad K) (pc + 1) lv st (mu σ 5 a x)) : G M ad 12 (cfM ad K) pc lv (.int (iI x) :: .int (iI a) :: .ref (ad 5) :: st) σ := g_iast C hd ⟨by omega, by omega⟩ (fun _ => rfl) h0 h1 ⟨by omega, by omega⟩ k
theorem gm_l_was (C : Good l K D ad 12 E d cc own M) {a : Int} (hd : decode cc pc = .ok (.iaload, 1)) (h0 : 0 ≤ a) (h1 : a < 1008) (k : G M ad 12 (cfM ad K) (pc + 1) lv (.int (iI (σ 6 a)) :: st) σ) : G M ad 12 (cfM ad K) pc lv (.int (iI a) :: .ref (ad 6) :: st) σ := g_iald C hd ⟨by omega, by omega⟩ (fun _ => rfl) h0 h1 ⟨by omega, by omega⟩ k
theorem gm_s_was (C : Good l K D ad 12 E d cc own M) {a x : Int} (hd : decode cc pc = .ok (.iastore, 1)) (h0 : 0 ≤ a) (h1 : a < 1008) (k : G M ad 12 (cfM ad K) (pc + 1) lv st (mu σ 6 a x)) : G M ad 12 (cfM ad K) pc lv (.int (iI x) :: .int (iI a) :: .ref (ad 6) :: st) σ := g_iast C hd ⟨by omega, by omega⟩ (fun _ => rfl) h0 h1 ⟨by omega, by omega⟩ k
theorem gm_l_tape (C : Good l K D ad 12 E d cc own M) {a : Int} (hd : decode cc pc = .ok (.iaload, 1)) (h0 : 0 ≤ a) (h1 : a < 400) (k : G M ad 12 (cfM ad K) (pc + 1) lv (.int (iI (σ 7 a)) :: st) σ) : G M ad 12 (cfM ad K) pc lv (.int (iI a) :: .ref (ad 7) :: st) σ := g_iald C hd ⟨by omega, by omega⟩ (fun _ => rfl) h0 h1 ⟨by omega, by omega⟩ k
theorem gm_s_tape (C : Good l K D ad 12 E d cc own M) {a x : Int} (hd : decode cc pc = .ok (.iastore, 1)) (h0 : 0 ≤ a) (h1 : a < 400) (k : G M ad 12 (cfM ad K) (pc + 1) lv st (mu σ 7 a x)) : G M ad 12 (cfM ad K) pc lv (.int (iI x) :: .int (iI a) :: .ref (ad 7) :: st) σ := g_iast C hd ⟨by omega, by omega⟩ (fun _ => rfl) h0 h1 ⟨by omega, by omega⟩ k
theorem gm_l_says (C : Good l K D ad 12 E d cc own M) {a : Int} (hd : decode cc pc = .ok (.iaload, 1)) (h0 : 0 ≤ a) (h1 : a < 4) (k : G M ad 12 (cfM ad K) (pc + 1) lv (.int (iI (σ 8 a)) :: st) σ) : G M ad 12 (cfM ad K) pc lv (.int (iI a) :: .ref (ad 8) :: st) σ := g_iald C hd ⟨by omega, by omega⟩ (fun _ => rfl) h0 h1 ⟨by omega, by omega⟩ k
theorem gm_s_says (C : Good l K D ad 12 E d cc own M) {a x : Int} (hd : decode cc pc = .ok (.iastore, 1)) (h0 : 0 ≤ a) (h1 : a < 4) (k : G M ad 12 (cfM ad K) (pc + 1) lv st (mu σ 8 a x)) : G M ad 12 (cfM ad K) pc lv (.int (iI x) :: .int (iI a) :: .ref (ad 8) :: st) σ := g_iast C hd ⟨by omega, by omega⟩ (fun _ => rfl) h0 h1 ⟨by omega, by omega⟩ k
theorem gm_l_isKept (C : Good l K D ad 12 E d cc own M) {a : Int} (hd : decode cc pc = .ok (.baload, 1)) (h0 : 0 ≤ a) (h1 : a < 2) (k : G M ad 12 (cfM ad K) (pc + 1) lv (.int (iI (σ 9 a)) :: st) σ) : G M ad 12 (cfM ad K) pc lv (.int (iI a) :: .ref (ad 9) :: st) σ := g_zald C hd ⟨by omega, by omega⟩ (fun _ => rfl) h0 h1 ⟨by omega, by omega⟩ k
theorem gm_s_isKept (C : Good l K D ad 12 E d cc own M) {a x : Int} (hd : decode cc pc = .ok (.bastore, 1)) (h0 : 0 ≤ a) (h1 : a < 2) (hx : x = 0 ∨ x = 1) (k : G M ad 12 (cfM ad K) (pc + 1) lv st (mu σ 9 a x)) : G M ad 12 (cfM ad K) pc lv (.int (iI x) :: .int (iI a) :: .ref (ad 9) :: st) σ := g_zast C hd ⟨by omega, by omega⟩ (fun _ => rfl) h0 h1 ⟨by omega, by omega⟩ (by rcases hx with rfl | rfl <;> rfl) k
theorem gm_l_kept (C : Good l K D ad 12 E d cc own M) {a : Int} (hd : decode cc pc = .ok (.iaload, 1)) (h0 : 0 ≤ a) (h1 : a < 84) (k : G M ad 12 (cfM ad K) (pc + 1) lv (.int (iI (σ 10 a)) :: st) σ) : G M ad 12 (cfM ad K) pc lv (.int (iI a) :: .ref (ad 10) :: st) σ := g_iald C hd ⟨by omega, by omega⟩ (fun _ => rfl) h0 h1 ⟨by omega, by omega⟩ k
theorem gm_s_kept (C : Good l K D ad 12 E d cc own M) {a x : Int} (hd : decode cc pc = .ok (.iastore, 1)) (h0 : 0 ≤ a) (h1 : a < 84) (k : G M ad 12 (cfM ad K) (pc + 1) lv st (mu σ 10 a x)) : G M ad 12 (cfM ad K) pc lv (.int (iI x) :: .int (iI a) :: .ref (ad 10) :: st) σ := g_iast C hd ⟨by omega, by omega⟩ (fun _ => rfl) h0 h1 ⟨by omega, by omega⟩ k
theorem gm_l_trace (C : Good l K D ad 12 E d cc own M) {a : Int} (hd : decode cc pc = .ok (.iaload, 1)) (h0 : 0 ≤ a) (h1 : a < 16) (k : G M ad 12 (cfM ad K) (pc + 1) lv (.int (iI (σ 11 a)) :: st) σ) : G M ad 12 (cfM ad K) pc lv (.int (iI a) :: .ref (ad 11) :: st) σ := g_iald C hd ⟨by omega, by omega⟩ (fun _ => rfl) h0 h1 ⟨by omega, by omega⟩ k
theorem gm_s_trace (C : Good l K D ad 12 E d cc own M) {a x : Int} (hd : decode cc pc = .ok (.iastore, 1)) (h0 : 0 ≤ a) (h1 : a < 16) (k : G M ad 12 (cfM ad K) (pc + 1) lv st (mu σ 11 a x)) : G M ad 12 (cfM ad K) pc lv (.int (iI x) :: .int (iI a) :: .ref (ad 11) :: st) σ := g_iast C hd ⟨by omega, by omega⟩ (fun _ => rfl) h0 h1 ⟨by omega, by omega⟩ k
theorem gm_call (C : Good l K D ad 12 E d cc own M) {y : MethodName} {bytes : ByteArray} {maxL n index d0 : Nat} {ret : Option FieldType} {As : List Value} {st0 : List Value} {σ' : Mem} {r : Int} (hd : decode cc pc = .ok (.invokevirtual index, 3)) (hct : CtI l K D ad 12 (cfM ad K) E y bytes maxL ret d0 (.ref (ad 0) :: As) σ r σ') (hm : MWv y bytes maxL ret RX9 n) (hl : Cond.methodLink own index y ∈ gWs) (hd1 : d0 + 1 ≤ d) (hml : maxL ≤ 21) (hn : As.length = n) (hst : st0 = As.reverse ++ .ref (ad 0) :: st) (hcat : (st.map fun v => v.category).sum ≤ 8) (k : G M ad 12 (cfM ad K) (pc + 3) lv (.int (iI r) :: st) σ') : G M ad 12 (cfM ad K) pc lv st0 σ := g_callV C hd hct hm hl hd1 hml ⟨by omega, by omega⟩ rfl rfl hn hst hcat k
theorem gm_calll (C : Good l K D ad 12 E d cc own M) {y : MethodName} {bytes : ByteArray} {maxL n index d0 : Nat} {ret : Option FieldType} {As : List Value} {st0 : List Value} {σ' : Mem} {r : Int} (hd : decode cc pc = .ok (.invokevirtual index, 3)) (hct : CtL l K D ad 12 (cfM ad K) E y bytes maxL ret d0 (.ref (ad 0) :: As) σ r σ') (hm : MWv y bytes maxL ret RX9 n) (hl : Cond.methodLink own index y ∈ gWs) (hd1 : d0 + 1 ≤ d) (hml : maxL ≤ 21) (hn : As.length = n) (hst : st0 = As.reverse ++ .ref (ad 0) :: st) (hcat : (st.map fun v => v.category).sum ≤ 8) (k : G M ad 12 (cfM ad K) (pc + 3) lv (.long (lI r) :: st) σ') : G M ad 12 (cfM ad K) pc lv st0 σ := g_callVl C hd hct hm hl hd1 hml ⟨by omega, by omega⟩ rfl rfl hn hst hcat k
theorem gm_callv (C : Good l K D ad 12 E d cc own M) {y : MethodName} {bytes : ByteArray} {maxL n index d0 : Nat} {ret : Option FieldType} {As : List Value} {st0 : List Value} {σ' : Mem} (hd : decode cc pc = .ok (.invokevirtual index, 3)) (hct : CtV l K D ad 12 (cfM ad K) E y bytes maxL ret d0 (.ref (ad 0) :: As) σ σ') (hm : MWv y bytes maxL ret RX9 n) (hl : Cond.methodLink own index y ∈ gWs) (hd1 : d0 + 1 ≤ d) (hml : maxL ≤ 21) (hn : As.length = n) (hst : st0 = As.reverse ++ .ref (ad 0) :: st) (hcat : (st.map fun v => v.category).sum ≤ 8) (k : G M ad 12 (cfM ad K) (pc + 3) lv st σ') : G M ad 12 (cfM ad K) pc lv st0 σ := g_callVv C hd hct hm hl hd1 hml ⟨by omega, by omega⟩ rfl rfl hn hst hcat k
end WM
theorem oCmp_R (a b : Int) : R3 (oCmp a b) := by unfold oCmp; constructor <;> (repeat' split) <;> omega
theorem oCmp_lt {a b : Int} : oCmp a b < 0 ↔ a < b := by unfold oCmp; constructor <;> (repeat' split) <;> omega
theorem oCmp_nlt {a b : Int} : 0 ≤ oCmp a b ↔ b ≤ a := by unfold oCmp; constructor <;> (repeat' split) <;> omega
theorem oCmp_gt {a b : Int} : 0 < oCmp a b ↔ b < a := by unfold oCmp; constructor <;> (repeat' split) <;> omega
theorem oCmp_ngt {a b : Int} : oCmp a b ≤ 0 ↔ a ≤ b := by unfold oCmp; constructor <;> (repeat' split) <;> omega
theorem oCmp_eq {a b : Int} : oCmp a b = 0 ↔ a = b := by unfold oCmp; constructor <;> (repeat' split) <;> omega
theorem oCmp_ne {a b : Int} : ¬ oCmp a b = 0 ↔ ¬ a = b := not_congr oCmp_eq
/-- f, with g's values from lo to hi (without it) -/
def over (f g : Int → Int) (lo hi : Int) : Int → Int := fun x => if lo ≤ x ∧ x < hi then g x else f x
theorem over_in {f g : Int → Int} {lo hi x : Int} (h0 : lo ≤ x) (h1 : x < hi) : over f g lo hi x = g x := if_pos ⟨h0, h1⟩
theorem over_out {f g : Int → Int} {lo hi x : Int} (h : x < lo ∨ hi ≤ x) : over f g lo hi x = f x := if_neg (fun z => by omega)
theorem mr_self {σ : Mem} {k : Int} {f : Int → Int} (h : f = σ k) : mr σ k f = σ := by
  funext k' j
  rw [mr_app]
  split
  · rename_i e; subst e; rw [h]
  · rfl
theorem mu_self {σ : Mem} {k j v : Int} (h : v = σ k j) : mu σ k j v = σ := by
  funext k' j'
  rw [mu_app]
  split
  · rename_i e; rw [e.1, e.2, h]
  · rfl
theorem mu_mr {σ : Mem} {k j v : Int} {f : Int → Int} : mu (mr σ k f) k j v = mr σ k (ru f j v) := by
  funext k' j'
  simp only [mu_app, mr_app, ru]
  by_cases h : k' = k <;> by_cases h2 : j' = j <;> simp [h, h2]
theorem mr_mr {σ : Mem} {k : Int} {f g : Int → Int} : mr (mr σ k f) k g = mr σ k g := by
  funext k' j'
  simp only [mr_app]
  by_cases h : k' = k <;> simp [h]
theorem mu_mu {σ : Mem} {k j v w : Int} : mu (mu σ k j v) k j w = mu σ k j w := by
  funext k' j'
  simp only [mu_app]
  by_cases h : k' = k ∧ j' = j <;> simp [h]
theorem over_0 {f g : Int → Int} {lo hi : Int} (h : hi ≤ lo) : over f g lo hi = f := by
  funext x
  exact if_neg (fun z => by omega)
theorem over_init {σ : Mem} {k lo hi : Int} {g : Int → Int} (h : hi ≤ lo) : σ = mr σ k (over (σ k) g lo hi) := (mr_self (over_0 h)).symm
theorem over_step {σ : Mem} {k lo hi hi' v : Int} {f g : Int → Int} (h : lo ≤ hi) (h' : hi' = hi + 1) (hv : v = g hi) : mu (mr σ k (over f g lo hi)) k hi v = mr σ k (over f g lo hi') := by
  rw [mu_mr]
  congr 1
  funext x
  unfold ru over
  subst h' hv
  by_cases e : x = hi
  · subst e; rw [if_pos rfl, if_pos ⟨h, by omega⟩]
  · rw [if_neg e]
    by_cases e2 : lo ≤ x ∧ x < hi
    · rw [if_pos e2, if_pos ⟨e2.1, by omega⟩]
    · rw [if_neg e2, if_neg (fun z => e2 ⟨z.1, by omega⟩)]
theorem loopUp {P : Nat → Prop} (N : Nat) (hs : ∀ i, i ≤ N → (i < N → P (i + 1)) → P i) : ∀ i, i ≤ N → P i := by
  have key : ∀ m i, i ≤ N → N - i = m → P i := by
    intro m
    induction m with
    | zero => intro i hi he; exact hs i hi (fun h => absurd h (by omega))
    | succ m ih => intro i hi he; exact hs i hi (fun h => ih (i + 1) (by omega) (by omega))
  exact fun i hi => key _ i hi rfl
theorem loopDn {V : Type} {P : V → Prop} (μ : V → Nat) (hs : ∀ v, (∀ w, μ w < μ v → P w) → P v) : ∀ v, P v := by
  have key : ∀ m v, μ v < m → P v := by
    intro m
    induction m with
    | zero => intro v hv; omega
    | succ m ih => intro v hv; exact hs v (fun w hw => ih w (by omega))
  exact fun v => key _ v (Nat.lt_succ_self _)
end
section
/-! THE CLASS'S WORLD -/
def cfC (ad : Int → Nat) (K : Nat → ClassId) (k : Int) (f : Int → Int) : va_E :=
  if k = 0 then .inr (8, [.ref (ad 1), .ref (ad 3), .ref (ad 2), .ref (ad 5), .ref (ad 10), .ref (ad 12), .ref (ad 13), .ref (ad 18), .ref (ad (f 8)), .ref (ad (f 9)), .int (iI (f 10)), .int (iI (f 11))])
  else if k = 3 then .inr (4, [.ref (ad 4), .int (iI (f 1)), .int (iI (f 2)), .int (iI (f 3)), .int (iI (f 4)), .int (iI (f 5)), .int (iI (f 6))])
  else if k = 5 then .inr (0, [.int (iI (f 0)), .int (iI (f 1)), .ref (ad 6), .ref (ad 7), .ref (ad 8), .ref (ad 9)])
  else if k = 10 ∨ k = 15 then .inr (6, [.int (iI (f 0)), .ref (ad (k + 1))])
  else if k = 12 ∨ k = 17 then .inr (3, [.int (iI (f 0)), .int (iI (f 1)), .int (iI (f 2)), .int (iI (f 3)), .int (iI (f 4))])
  else if k = 13 then .inr (2, [.int (iI (f 0)), .ref (ad 14), .ref (ad 15), .ref (ad 17)])
  else if k = 18 then .inr (1, [.int (iI (f 0)), .ref (ad 19), .int (iI (f 2)), .int (iI (f 3)), .int (iI (f 4)), .int (iI (f 5))])
  else if 20 ≤ k ∧ k < 24 then .inr (7, [.int (iI (f 0)), .int (iI (f 1)), .int (iI (f 2)), .int (iI (f 3)), .ref (ad (k + 4)), .ref (ad (k + 8)), .ref (ad (k + 12)), .ref (ad (k + 16)), .ref (ad (k + 20))])
  else if 44 ≤ k ∧ k < 52 then .inr (5, [.ref (ad (k + 8)), .int (iI (f 1)), .int (iI (f 2)), .int (iI (f 3))])
  else if k = 4 then .inl (K 0, 400, .inl (fun j : Nat => iI (f (j : Int))))
  else if k = 6 then .inl (K 0, 24, .inl (fun j : Nat => iI (f (j : Int))))
  else if k = 7 then .inl (K 0, 24, .inl (fun j : Nat => iI (f (j : Int))))
  else if k = 8 then .inl (K 0, 24, .inl (fun j : Nat => iI (f (j : Int))))
  else if k = 9 then .inl (K 0, 96, .inl (fun j : Nat => iI (f (j : Int))))
  else if k = 11 ∨ k = 16 then .inl (K 0, 4, .inl (fun j : Nat => iI (f (j : Int))))
  else if k = 14 then .inl (K 0, 4, .inl (fun j : Nat => iI (f (j : Int))))
  else if k = 19 then .inl (K 0, 16, .inl (fun j : Nat => iI (f (j : Int))))
  else if 24 ≤ k ∧ k < 28 then .inl (K 0, 4, .inl (fun j : Nat => iI (f (j : Int))))
  else if 28 ≤ k ∧ k < 32 then .inl (K 0, 4, .inl (fun j : Nat => iI (f (j : Int))))
  else if 32 ≤ k ∧ k < 36 then .inl (K 0, 20, .inl (fun j : Nat => iI (f (j : Int))))
  else if 36 ≤ k ∧ k < 40 then .inl (K 0, 5, .inl (fun j : Nat => iI (f (j : Int))))
  else if 40 ≤ k ∧ k < 44 then .inl (K 0, 5, .inl (fun j : Nat => iI (f (j : Int))))
  else if 52 ≤ k ∧ k < 60 then .inl (K 0, 40, .inl (fun j : Nat => iI (f (j : Int))))
  else if k = 1 then .inl (K 2, 8, .inr (.inr (.inr (.inr (fun j : Nat => some (ad (44 + (j : Int))))))))
  else if k = 2 then .inl (K 3, 2, .inr (.inr (.inr (.inr (fun j : Nat => some (ad (20 + (j : Int))))))))
  else .inl (K 0, 0, .inl (fun _ => 0))
theorem cfC_X8 {ad : Int → Nat} {K : Nat → ClassId} {f : Int → Int} : cfC ad K 0 f = .inr (8, [.ref (ad 1), .ref (ad 3), .ref (ad 2), .ref (ad 5), .ref (ad 10), .ref (ad 12), .ref (ad 13), .ref (ad 18), .ref (ad (f 8)), .ref (ad (f 9)), .int (iI (f 10)), .int (iI (f 11))]) := rfl
theorem cfC_X4 {ad : Int → Nat} {K : Nat → ClassId} {f : Int → Int} : cfC ad K 3 f = .inr (4, [.ref (ad 4), .int (iI (f 1)), .int (iI (f 2)), .int (iI (f 3)), .int (iI (f 4)), .int (iI (f 5)), .int (iI (f 6))]) := rfl
theorem cfC_X0 {ad : Int → Nat} {K : Nat → ClassId} {f : Int → Int} : cfC ad K 5 f = .inr (0, [.int (iI (f 0)), .int (iI (f 1)), .ref (ad 6), .ref (ad 7), .ref (ad 8), .ref (ad 9)]) := rfl
theorem cfC_X6 {ad : Int → Nat} {K : Nat → ClassId} {f : Int → Int} {q : Int} (hq : q = 10 ∨ q = 15) : cfC ad K q f = .inr (6, [.int (iI (f 0)), .ref (ad (q + 1))]) := by
  unfold cfC
  rw [if_neg (show ¬ (q = 0) by omega), if_neg (show ¬ (q = 3) by omega), if_neg (show ¬ (q = 5) by omega), if_pos hq]
theorem cfC_X3 {ad : Int → Nat} {K : Nat → ClassId} {f : Int → Int} {q : Int} (hq : q = 12 ∨ q = 17) : cfC ad K q f = .inr (3, [.int (iI (f 0)), .int (iI (f 1)), .int (iI (f 2)), .int (iI (f 3)), .int (iI (f 4))]) := by
  unfold cfC
  rw [if_neg (show ¬ (q = 0) by omega), if_neg (show ¬ (q = 3) by omega), if_neg (show ¬ (q = 5) by omega), if_neg (show ¬ (q = 10 ∨ q = 15) by omega), if_pos hq]
theorem cfC_X2 {ad : Int → Nat} {K : Nat → ClassId} {f : Int → Int} : cfC ad K 13 f = .inr (2, [.int (iI (f 0)), .ref (ad 14), .ref (ad 15), .ref (ad 17)]) := rfl
theorem cfC_X1 {ad : Int → Nat} {K : Nat → ClassId} {f : Int → Int} : cfC ad K 18 f = .inr (1, [.int (iI (f 0)), .ref (ad 19), .int (iI (f 2)), .int (iI (f 3)), .int (iI (f 4)), .int (iI (f 5))]) := rfl
theorem cfC_X7 {ad : Int → Nat} {K : Nat → ClassId} {f : Int → Int} {q : Int} (hq : 20 ≤ q ∧ q < 24) : cfC ad K q f = .inr (7, [.int (iI (f 0)), .int (iI (f 1)), .int (iI (f 2)), .int (iI (f 3)), .ref (ad (q + 4)), .ref (ad (q + 8)), .ref (ad (q + 12)), .ref (ad (q + 16)), .ref (ad (q + 20))]) := by
  unfold cfC
  rw [if_neg (show ¬ (q = 0) by omega), if_neg (show ¬ (q = 3) by omega), if_neg (show ¬ (q = 5) by omega), if_neg (show ¬ (q = 10 ∨ q = 15) by omega), if_neg (show ¬ (q = 12 ∨ q = 17) by omega), if_neg (show ¬ (q = 13) by omega), if_neg (show ¬ (q = 18) by omega), if_pos hq]
theorem cfC_X5 {ad : Int → Nat} {K : Nat → ClassId} {f : Int → Int} {q : Int} (hq : 44 ≤ q ∧ q < 52) : cfC ad K q f = .inr (5, [.ref (ad (q + 8)), .int (iI (f 1)), .int (iI (f 2)), .int (iI (f 3))]) := by
  unfold cfC
  rw [if_neg (show ¬ (q = 0) by omega), if_neg (show ¬ (q = 3) by omega), if_neg (show ¬ (q = 5) by omega), if_neg (show ¬ (q = 10 ∨ q = 15) by omega), if_neg (show ¬ (q = 12 ∨ q = 17) by omega), if_neg (show ¬ (q = 13) by omega), if_neg (show ¬ (q = 18) by omega), if_neg (show ¬ (20 ≤ q ∧ q < 24) by omega), if_pos hq]
theorem cfC_tape {ad : Int → Nat} {K : Nat → ClassId} {f : Int → Int} : cfC ad K 4 f = .inl (K 0, 400, .inl (fun j : Nat => iI (f (j : Int)))) := rfl
theorem cfC_athings {ad : Int → Nat} {K : Nat → ClassId} {f : Int → Int} : cfC ad K 6 f = .inl (K 0, 24, .inl (fun j : Nat => iI (f (j : Int)))) := rfl
theorem cfC_aholders {ad : Int → Nat} {K : Nat → ClassId} {f : Int → Int} : cfC ad K 7 f = .inl (K 0, 24, .inl (fun j : Nat => iI (f (j : Int)))) := rfl
theorem cfC_aworn {ad : Int → Nat} {K : Nat → ClassId} {f : Int → Int} : cfC ad K 8 f = .inl (K 0, 24, .inl (fun j : Nat => iI (f (j : Int)))) := rfl
theorem cfC_acoins {ad : Int → Nat} {K : Nat → ClassId} {f : Int → Int} : cfC ad K 9 f = .inl (K 0, 96, .inl (fun j : Nat => iI (f (j : Int)))) := rfl
theorem cfC_said {ad : Int → Nat} {K : Nat → ClassId} {f : Int → Int} {q : Int} (hq : q = 11 ∨ q = 16) : cfC ad K q f = .inl (K 0, 4, .inl (fun j : Nat => iI (f (j : Int)))) := by
  unfold cfC
  rw [if_neg (show ¬ (q = 0) by omega), if_neg (show ¬ (q = 3) by omega), if_neg (show ¬ (q = 5) by omega), if_neg (show ¬ (q = 10 ∨ q = 15) by omega), if_neg (show ¬ (q = 12 ∨ q = 17) by omega), if_neg (show ¬ (q = 13) by omega), if_neg (show ¬ (q = 18) by omega), if_neg (show ¬ (20 ≤ q ∧ q < 24) by omega), if_neg (show ¬ (44 ≤ q ∧ q < 52) by omega), if_neg (show ¬ (q = 4) by omega), if_neg (show ¬ (q = 6) by omega), if_neg (show ¬ (q = 7) by omega), if_neg (show ¬ (q = 8) by omega), if_neg (show ¬ (q = 9) by omega), if_pos hq]
theorem cfC_firstRest {ad : Int → Nat} {K : Nat → ClassId} {f : Int → Int} : cfC ad K 14 f = .inl (K 0, 4, .inl (fun j : Nat => iI (f (j : Int)))) := rfl
theorem cfC_trail {ad : Int → Nat} {K : Nat → ClassId} {f : Int → Int} : cfC ad K 19 f = .inl (K 0, 16, .inl (fun j : Nat => iI (f (j : Int)))) := rfl
theorem cfC_kinds {ad : Int → Nat} {K : Nat → ClassId} {f : Int → Int} {q : Int} (hq : 24 ≤ q ∧ q < 28) : cfC ad K q f = .inl (K 0, 4, .inl (fun j : Nat => iI (f (j : Int)))) := by
  unfold cfC
  rw [if_neg (show ¬ (q = 0) by omega), if_neg (show ¬ (q = 3) by omega), if_neg (show ¬ (q = 5) by omega), if_neg (show ¬ (q = 10 ∨ q = 15) by omega), if_neg (show ¬ (q = 12 ∨ q = 17) by omega), if_neg (show ¬ (q = 13) by omega), if_neg (show ¬ (q = 18) by omega), if_neg (show ¬ (20 ≤ q ∧ q < 24) by omega), if_neg (show ¬ (44 ≤ q ∧ q < 52) by omega), if_neg (show ¬ (q = 4) by omega), if_neg (show ¬ (q = 6) by omega), if_neg (show ¬ (q = 7) by omega), if_neg (show ¬ (q = 8) by omega), if_neg (show ¬ (q = 9) by omega), if_neg (show ¬ (q = 11 ∨ q = 16) by omega), if_neg (show ¬ (q = 14) by omega), if_neg (show ¬ (q = 19) by omega), if_pos hq]
theorem cfC_coins {ad : Int → Nat} {K : Nat → ClassId} {f : Int → Int} {q : Int} (hq : 28 ≤ q ∧ q < 32) : cfC ad K q f = .inl (K 0, 4, .inl (fun j : Nat => iI (f (j : Int)))) := by
  unfold cfC
  rw [if_neg (show ¬ (q = 0) by omega), if_neg (show ¬ (q = 3) by omega), if_neg (show ¬ (q = 5) by omega), if_neg (show ¬ (q = 10 ∨ q = 15) by omega), if_neg (show ¬ (q = 12 ∨ q = 17) by omega), if_neg (show ¬ (q = 13) by omega), if_neg (show ¬ (q = 18) by omega), if_neg (show ¬ (20 ≤ q ∧ q < 24) by omega), if_neg (show ¬ (44 ≤ q ∧ q < 52) by omega), if_neg (show ¬ (q = 4) by omega), if_neg (show ¬ (q = 6) by omega), if_neg (show ¬ (q = 7) by omega), if_neg (show ¬ (q = 8) by omega), if_neg (show ¬ (q = 9) by omega), if_neg (show ¬ (q = 11 ∨ q = 16) by omega), if_neg (show ¬ (q = 14) by omega), if_neg (show ¬ (q = 19) by omega), if_neg (show ¬ (24 ≤ q ∧ q < 28) by omega), if_pos hq]
theorem cfC_told {ad : Int → Nat} {K : Nat → ClassId} {f : Int → Int} {q : Int} (hq : 32 ≤ q ∧ q < 36) : cfC ad K q f = .inl (K 0, 20, .inl (fun j : Nat => iI (f (j : Int)))) := by
  unfold cfC
  rw [if_neg (show ¬ (q = 0) by omega), if_neg (show ¬ (q = 3) by omega), if_neg (show ¬ (q = 5) by omega), if_neg (show ¬ (q = 10 ∨ q = 15) by omega), if_neg (show ¬ (q = 12 ∨ q = 17) by omega), if_neg (show ¬ (q = 13) by omega), if_neg (show ¬ (q = 18) by omega), if_neg (show ¬ (20 ≤ q ∧ q < 24) by omega), if_neg (show ¬ (44 ≤ q ∧ q < 52) by omega), if_neg (show ¬ (q = 4) by omega), if_neg (show ¬ (q = 6) by omega), if_neg (show ¬ (q = 7) by omega), if_neg (show ¬ (q = 8) by omega), if_neg (show ¬ (q = 9) by omega), if_neg (show ¬ (q = 11 ∨ q = 16) by omega), if_neg (show ¬ (q = 14) by omega), if_neg (show ¬ (q = 19) by omega), if_neg (show ¬ (24 ≤ q ∧ q < 28) by omega), if_neg (show ¬ (28 ≤ q ∧ q < 32) by omega), if_pos hq]
theorem cfC_holders {ad : Int → Nat} {K : Nat → ClassId} {f : Int → Int} {q : Int} (hq : 36 ≤ q ∧ q < 40) : cfC ad K q f = .inl (K 0, 5, .inl (fun j : Nat => iI (f (j : Int)))) := by
  unfold cfC
  rw [if_neg (show ¬ (q = 0) by omega), if_neg (show ¬ (q = 3) by omega), if_neg (show ¬ (q = 5) by omega), if_neg (show ¬ (q = 10 ∨ q = 15) by omega), if_neg (show ¬ (q = 12 ∨ q = 17) by omega), if_neg (show ¬ (q = 13) by omega), if_neg (show ¬ (q = 18) by omega), if_neg (show ¬ (20 ≤ q ∧ q < 24) by omega), if_neg (show ¬ (44 ≤ q ∧ q < 52) by omega), if_neg (show ¬ (q = 4) by omega), if_neg (show ¬ (q = 6) by omega), if_neg (show ¬ (q = 7) by omega), if_neg (show ¬ (q = 8) by omega), if_neg (show ¬ (q = 9) by omega), if_neg (show ¬ (q = 11 ∨ q = 16) by omega), if_neg (show ¬ (q = 14) by omega), if_neg (show ¬ (q = 19) by omega), if_neg (show ¬ (24 ≤ q ∧ q < 28) by omega), if_neg (show ¬ (28 ≤ q ∧ q < 32) by omega), if_neg (show ¬ (32 ≤ q ∧ q < 36) by omega), if_pos hq]
theorem cfC_worn {ad : Int → Nat} {K : Nat → ClassId} {f : Int → Int} {q : Int} (hq : 40 ≤ q ∧ q < 44) : cfC ad K q f = .inl (K 0, 5, .inl (fun j : Nat => iI (f (j : Int)))) := by
  unfold cfC
  rw [if_neg (show ¬ (q = 0) by omega), if_neg (show ¬ (q = 3) by omega), if_neg (show ¬ (q = 5) by omega), if_neg (show ¬ (q = 10 ∨ q = 15) by omega), if_neg (show ¬ (q = 12 ∨ q = 17) by omega), if_neg (show ¬ (q = 13) by omega), if_neg (show ¬ (q = 18) by omega), if_neg (show ¬ (20 ≤ q ∧ q < 24) by omega), if_neg (show ¬ (44 ≤ q ∧ q < 52) by omega), if_neg (show ¬ (q = 4) by omega), if_neg (show ¬ (q = 6) by omega), if_neg (show ¬ (q = 7) by omega), if_neg (show ¬ (q = 8) by omega), if_neg (show ¬ (q = 9) by omega), if_neg (show ¬ (q = 11 ∨ q = 16) by omega), if_neg (show ¬ (q = 14) by omega), if_neg (show ¬ (q = 19) by omega), if_neg (show ¬ (24 ≤ q ∧ q < 28) by omega), if_neg (show ¬ (28 ≤ q ∧ q < 32) by omega), if_neg (show ¬ (32 ≤ q ∧ q < 36) by omega), if_neg (show ¬ (36 ≤ q ∧ q < 40) by omega), if_pos hq]
theorem cfC_items {ad : Int → Nat} {K : Nat → ClassId} {f : Int → Int} {q : Int} (hq : 52 ≤ q ∧ q < 60) : cfC ad K q f = .inl (K 0, 40, .inl (fun j : Nat => iI (f (j : Int)))) := by
  unfold cfC
  rw [if_neg (show ¬ (q = 0) by omega), if_neg (show ¬ (q = 3) by omega), if_neg (show ¬ (q = 5) by omega), if_neg (show ¬ (q = 10 ∨ q = 15) by omega), if_neg (show ¬ (q = 12 ∨ q = 17) by omega), if_neg (show ¬ (q = 13) by omega), if_neg (show ¬ (q = 18) by omega), if_neg (show ¬ (20 ≤ q ∧ q < 24) by omega), if_neg (show ¬ (44 ≤ q ∧ q < 52) by omega), if_neg (show ¬ (q = 4) by omega), if_neg (show ¬ (q = 6) by omega), if_neg (show ¬ (q = 7) by omega), if_neg (show ¬ (q = 8) by omega), if_neg (show ¬ (q = 9) by omega), if_neg (show ¬ (q = 11 ∨ q = 16) by omega), if_neg (show ¬ (q = 14) by omega), if_neg (show ¬ (q = 19) by omega), if_neg (show ¬ (24 ≤ q ∧ q < 28) by omega), if_neg (show ¬ (28 ≤ q ∧ q < 32) by omega), if_neg (show ¬ (32 ≤ q ∧ q < 36) by omega), if_neg (show ¬ (36 ≤ q ∧ q < 40) by omega), if_neg (show ¬ (40 ≤ q ∧ q < 44) by omega), if_pos hq]
theorem cfC_rows {ad : Int → Nat} {K : Nat → ClassId} {f : Int → Int} : cfC ad K 1 f = .inl (K 2, 8, .inr (.inr (.inr (.inr (fun j : Nat => some (ad (44 + (j : Int)))))))) := rfl
theorem cfC_images {ad : Int → Nat} {K : Nat → ClassId} {f : Int → Int} : cfC ad K 2 f = .inl (K 3, 2, .inr (.inr (.inr (.inr (fun j : Nat => some (ad (20 + (j : Int)))))))) := rfl
section WC
variable {l : Launch} {K : Nat → ClassId} {D : va_G} {ad : Int → Nat} {E : gEnv} {d : Nat} {cc : ByteArray} {own : String} {M : GM} {pc : Nat} {lv : List (Nat × Value)} {st : List Value} {σ : Mem}
theorem gc_g_X8_rows (C : Good l K D ad 60 E d cc own M) {index : Nat} (hd : decode cc pc = .ok (.getfield index, 3)) (hw : Cond.fieldLink own index "LeastWants" "rows" "[LLeastWants$Row;" ∈ gWs) (k : G M ad 60 (cfC ad K) (pc + 3) lv (.ref (ad 1) :: st) σ) : G M ad 60 (cfC ad K) pc lv (.ref (ad 0) :: st) σ := g_get C hd ⟨by omega, by omega⟩ cfC_X8 rfl inX8 (j := 0) (by decide) hw rfl k
theorem gc_g_X8_reader (C : Good l K D ad 60 E d cc own M) {index : Nat} (hd : decode cc pc = .ok (.getfield index, 3)) (hw : Cond.fieldLink own index "LeastWants" "reader" "LLeastWants$Reader;" ∈ gWs) (k : G M ad 60 (cfC ad K) (pc + 3) lv (.ref (ad 3) :: st) σ) : G M ad 60 (cfC ad K) pc lv (.ref (ad 0) :: st) σ := g_get C hd ⟨by omega, by omega⟩ cfC_X8 rfl inX8 (j := 1) (by decide) hw rfl k
theorem gc_g_X8_images (C : Good l K D ad 60 E d cc own M) {index : Nat} (hd : decode cc pc = .ok (.getfield index, 3)) (hw : Cond.fieldLink own index "LeastWants" "images" "[LLeastWants$Town;" ∈ gWs) (k : G M ad 60 (cfC ad K) (pc + 3) lv (.ref (ad 2) :: st) σ) : G M ad 60 (cfC ad K) pc lv (.ref (ad 0) :: st) σ := g_get C hd ⟨by omega, by omega⟩ cfC_X8 rfl inX8 (j := 2) (by decide) hw rfl k
theorem gc_g_X8_acts (C : Good l K D ad 60 E d cc own M) {index : Nat} (hd : decode cc pc = .ok (.getfield index, 3)) (hw : Cond.fieldLink own index "LeastWants" "acts" "LLeastWants$Acts;" ∈ gWs) (k : G M ad 60 (cfC ad K) (pc + 3) lv (.ref (ad 5) :: st) σ) : G M ad 60 (cfC ad K) pc lv (.ref (ad 0) :: st) σ := g_get C hd ⟨by omega, by omega⟩ cfC_X8 rfl inX8 (j := 3) (by decide) hw rfl k
theorem gc_g_X8_sayings (C : Good l K D ad 60 E d cc own M) {index : Nat} (hd : decode cc pc = .ok (.getfield index, 3)) (hw : Cond.fieldLink own index "LeastWants" "sayings" "LLeastWants$Sayings;" ∈ gWs) (k : G M ad 60 (cfC ad K) (pc + 3) lv (.ref (ad 10) :: st) σ) : G M ad 60 (cfC ad K) pc lv (.ref (ad 0) :: st) σ := g_get C hd ⟨by omega, by omega⟩ cfC_X8 rfl inX8 (j := 4) (by decide) hw rfl k
theorem gc_g_X8_prospect (C : Good l K D ad 60 E d cc own M) {index : Nat} (hd : decode cc pc = .ok (.getfield index, 3)) (hw : Cond.fieldLink own index "LeastWants" "prospect" "LLeastWants$Prospect;" ∈ gWs) (k : G M ad 60 (cfC ad K) (pc + 3) lv (.ref (ad 12) :: st) σ) : G M ad 60 (cfC ad K) pc lv (.ref (ad 0) :: st) σ := g_get C hd ⟨by omega, by omega⟩ cfC_X8 rfl inX8 (j := 5) (by decide) hw rfl k
theorem gc_g_X8_foretold (C : Good l K D ad 60 E d cc own M) {index : Nat} (hd : decode cc pc = .ok (.getfield index, 3)) (hw : Cond.fieldLink own index "LeastWants" "foretold" "LLeastWants$Foretold;" ∈ gWs) (k : G M ad 60 (cfC ad K) (pc + 3) lv (.ref (ad 13) :: st) σ) : G M ad 60 (cfC ad K) pc lv (.ref (ad 0) :: st) σ := g_get C hd ⟨by omega, by omega⟩ cfC_X8 rfl inX8 (j := 6) (by decide) hw rfl k
theorem gc_g_X8_asking (C : Good l K D ad 60 E d cc own M) {index : Nat} (hd : decode cc pc = .ok (.getfield index, 3)) (hw : Cond.fieldLink own index "LeastWants" "asking" "LLeastWants$Asking;" ∈ gWs) (k : G M ad 60 (cfC ad K) (pc + 3) lv (.ref (ad 18) :: st) σ) : G M ad 60 (cfC ad K) pc lv (.ref (ad 0) :: st) σ := g_get C hd ⟨by omega, by omega⟩ cfC_X8 rfl inX8 (j := 7) (by decide) hw rfl k
theorem gc_g_X8_here (C : Good l K D ad 60 E d cc own M) {index : Nat} (hd : decode cc pc = .ok (.getfield index, 3)) (hw : Cond.fieldLink own index "LeastWants" "here" "LLeastWants$Town;" ∈ gWs) (k : G M ad 60 (cfC ad K) (pc + 3) lv (.ref (ad (σ 0 8)) :: st) σ) : G M ad 60 (cfC ad K) pc lv (.ref (ad 0) :: st) σ := g_get C hd ⟨by omega, by omega⟩ cfC_X8 rfl inX8 (j := 8) (by decide) hw rfl k
theorem gc_p_X8_here (C : Good l K D ad 60 E d cc own M) {index : Nat} {x : Int} (hd : decode cc pc = .ok (.putfield index, 3)) (hw : Cond.fieldLink own index "LeastWants" "here" "LLeastWants$Town;" ∈ gWs) (k : G M ad 60 (cfC ad K) (pc + 3) lv st (mu σ 0 8 x)) : G M ad 60 (cfC ad K) pc lv (.ref (ad x) :: .ref (ad 0) :: st) σ := g_put C (ru (σ 0) 8 x) hd ⟨by omega, by omega⟩ cfC_X8 (cfC_X8.trans rfl) rfl inX8 tyX8_ok nmX8 (j := 8) (ty := (.object "LeastWants$Town")) (by decide) hw rfl (by decide +kernel) rfl rfl (Nat.le_of_ble_eq_true rfl) k
theorem gc_g_X8_spare (C : Good l K D ad 60 E d cc own M) {index : Nat} (hd : decode cc pc = .ok (.getfield index, 3)) (hw : Cond.fieldLink own index "LeastWants" "spare" "LLeastWants$Town;" ∈ gWs) (k : G M ad 60 (cfC ad K) (pc + 3) lv (.ref (ad (σ 0 9)) :: st) σ) : G M ad 60 (cfC ad K) pc lv (.ref (ad 0) :: st) σ := g_get C hd ⟨by omega, by omega⟩ cfC_X8 rfl inX8 (j := 9) (by decide) hw rfl k
theorem gc_p_X8_spare (C : Good l K D ad 60 E d cc own M) {index : Nat} {x : Int} (hd : decode cc pc = .ok (.putfield index, 3)) (hw : Cond.fieldLink own index "LeastWants" "spare" "LLeastWants$Town;" ∈ gWs) (k : G M ad 60 (cfC ad K) (pc + 3) lv st (mu σ 0 9 x)) : G M ad 60 (cfC ad K) pc lv (.ref (ad x) :: .ref (ad 0) :: st) σ := g_put C (ru (σ 0) 9 x) hd ⟨by omega, by omega⟩ cfC_X8 (cfC_X8.trans rfl) rfl inX8 tyX8_ok nmX8 (j := 9) (ty := (.object "LeastWants$Town")) (by decide) hw rfl (by decide +kernel) rfl rfl (Nat.le_of_ble_eq_true rfl) k
theorem gc_g_X8_latestFault (C : Good l K D ad 60 E d cc own M) {index : Nat} (hd : decode cc pc = .ok (.getfield index, 3)) (hw : Cond.fieldLink own index "LeastWants" "latestFault" "I" ∈ gWs) (k : G M ad 60 (cfC ad K) (pc + 3) lv (.int (iI (σ 0 10)) :: st) σ) : G M ad 60 (cfC ad K) pc lv (.ref (ad 0) :: st) σ := g_get C hd ⟨by omega, by omega⟩ cfC_X8 rfl inX8 (j := 10) (by decide) hw rfl k
theorem gc_p_X8_latestFault (C : Good l K D ad 60 E d cc own M) {index : Nat} {x : Int} (hd : decode cc pc = .ok (.putfield index, 3)) (hw : Cond.fieldLink own index "LeastWants" "latestFault" "I" ∈ gWs) (k : G M ad 60 (cfC ad K) (pc + 3) lv st (mu σ 0 10 x)) : G M ad 60 (cfC ad K) pc lv (.int (iI x) :: .ref (ad 0) :: st) σ := g_put C (ru (σ 0) 10 x) hd ⟨by omega, by omega⟩ cfC_X8 (cfC_X8.trans rfl) rfl inX8 tyX8_ok nmX8 (j := 10) (ty := .int) (by decide) hw rfl (by decide +kernel) rfl rfl (Nat.le_of_ble_eq_true rfl) k
theorem gc_g_X8_latestFinding (C : Good l K D ad 60 E d cc own M) {index : Nat} (hd : decode cc pc = .ok (.getfield index, 3)) (hw : Cond.fieldLink own index "LeastWants" "latestFinding" "I" ∈ gWs) (k : G M ad 60 (cfC ad K) (pc + 3) lv (.int (iI (σ 0 11)) :: st) σ) : G M ad 60 (cfC ad K) pc lv (.ref (ad 0) :: st) σ := g_get C hd ⟨by omega, by omega⟩ cfC_X8 rfl inX8 (j := 11) (by decide) hw rfl k
theorem gc_p_X8_latestFinding (C : Good l K D ad 60 E d cc own M) {index : Nat} {x : Int} (hd : decode cc pc = .ok (.putfield index, 3)) (hw : Cond.fieldLink own index "LeastWants" "latestFinding" "I" ∈ gWs) (k : G M ad 60 (cfC ad K) (pc + 3) lv st (mu σ 0 11 x)) : G M ad 60 (cfC ad K) pc lv (.int (iI x) :: .ref (ad 0) :: st) σ := g_put C (ru (σ 0) 11 x) hd ⟨by omega, by omega⟩ cfC_X8 (cfC_X8.trans rfl) rfl inX8 tyX8_ok nmX8 (j := 11) (ty := .int) (by decide) hw rfl (by decide +kernel) rfl rfl (Nat.le_of_ble_eq_true rfl) k
theorem gc_call_X8 (C : Good l K D ad 60 E d cc own M) {y : MethodName} {bytes : ByteArray} {maxL n index d0 : Nat} {ret : Option FieldType} {As : List Value} {st0 : List Value} {σ' : Mem} {r : Int} (hd : decode cc pc = .ok (.invokevirtual index, 3)) (hct : CtI l K D ad 60 (cfC ad K) E y bytes maxL ret d0 (.ref (ad 0) :: As) σ r σ') (hm : MWv y bytes maxL ret RX8 n) (hl : Cond.methodLink own index y ∈ gWs) (hd1 : d0 + 1 ≤ d) (hml : maxL ≤ 21) (hn : As.length = n) (hst : st0 = As.reverse ++ .ref (ad 0) :: st) (hcat : (st.map fun v => v.category).sum ≤ 8) (k : G M ad 60 (cfC ad K) (pc + 3) lv (.int (iI r) :: st) σ') : G M ad 60 (cfC ad K) pc lv st0 σ := g_callV C hd hct hm hl hd1 hml ⟨by omega, by omega⟩ cfC_X8 rfl hn hst hcat k
theorem gc_callv_X8 (C : Good l K D ad 60 E d cc own M) {y : MethodName} {bytes : ByteArray} {maxL n index d0 : Nat} {ret : Option FieldType} {As : List Value} {st0 : List Value} {σ' : Mem} (hd : decode cc pc = .ok (.invokevirtual index, 3)) (hct : CtV l K D ad 60 (cfC ad K) E y bytes maxL ret d0 (.ref (ad 0) :: As) σ σ') (hm : MWv y bytes maxL ret RX8 n) (hl : Cond.methodLink own index y ∈ gWs) (hd1 : d0 + 1 ≤ d) (hml : maxL ≤ 21) (hn : As.length = n) (hst : st0 = As.reverse ++ .ref (ad 0) :: st) (hcat : (st.map fun v => v.category).sum ≤ 8) (k : G M ad 60 (cfC ad K) (pc + 3) lv st σ') : G M ad 60 (cfC ad K) pc lv st0 σ := g_callVv C hd hct hm hl hd1 hml ⟨by omega, by omega⟩ cfC_X8 rfl hn hst hcat k
theorem gc_g_X4_tape (C : Good l K D ad 60 E d cc own M) {index : Nat} (hd : decode cc pc = .ok (.getfield index, 3)) (hw : Cond.fieldLink own index "LeastWants$Reader" "tape" "[I" ∈ gWs) (k : G M ad 60 (cfC ad K) (pc + 3) lv (.ref (ad 4) :: st) σ) : G M ad 60 (cfC ad K) pc lv (.ref (ad 3) :: st) σ := g_get C hd ⟨by omega, by omega⟩ cfC_X4 rfl inX4 (j := 0) (by decide) hw rfl k
theorem gc_g_X4_fed (C : Good l K D ad 60 E d cc own M) {index : Nat} (hd : decode cc pc = .ok (.getfield index, 3)) (hw : Cond.fieldLink own index "LeastWants$Reader" "fed" "I" ∈ gWs) (k : G M ad 60 (cfC ad K) (pc + 3) lv (.int (iI (σ 3 1)) :: st) σ) : G M ad 60 (cfC ad K) pc lv (.ref (ad 3) :: st) σ := g_get C hd ⟨by omega, by omega⟩ cfC_X4 rfl inX4 (j := 1) (by decide) hw rfl k
theorem gc_p_X4_fed (C : Good l K D ad 60 E d cc own M) {index : Nat} {x : Int} (hd : decode cc pc = .ok (.putfield index, 3)) (hw : Cond.fieldLink own index "LeastWants$Reader" "fed" "I" ∈ gWs) (k : G M ad 60 (cfC ad K) (pc + 3) lv st (mu σ 3 1 x)) : G M ad 60 (cfC ad K) pc lv (.int (iI x) :: .ref (ad 3) :: st) σ := g_put C (ru (σ 3) 1 x) hd ⟨by omega, by omega⟩ cfC_X4 (cfC_X4.trans rfl) rfl inX4 tyX4_ok nmX4 (j := 1) (ty := .int) (by decide) hw rfl (by decide +kernel) rfl rfl (Nat.le_of_ble_eq_true rfl) k
theorem gc_g_X4_wrong (C : Good l K D ad 60 E d cc own M) {index : Nat} (hd : decode cc pc = .ok (.getfield index, 3)) (hw : Cond.fieldLink own index "LeastWants$Reader" "wrong" "I" ∈ gWs) (k : G M ad 60 (cfC ad K) (pc + 3) lv (.int (iI (σ 3 2)) :: st) σ) : G M ad 60 (cfC ad K) pc lv (.ref (ad 3) :: st) σ := g_get C hd ⟨by omega, by omega⟩ cfC_X4 rfl inX4 (j := 2) (by decide) hw rfl k
theorem gc_p_X4_wrong (C : Good l K D ad 60 E d cc own M) {index : Nat} {x : Int} (hd : decode cc pc = .ok (.putfield index, 3)) (hw : Cond.fieldLink own index "LeastWants$Reader" "wrong" "I" ∈ gWs) (k : G M ad 60 (cfC ad K) (pc + 3) lv st (mu σ 3 2 x)) : G M ad 60 (cfC ad K) pc lv (.int (iI x) :: .ref (ad 3) :: st) σ := g_put C (ru (σ 3) 2 x) hd ⟨by omega, by omega⟩ cfC_X4 (cfC_X4.trans rfl) rfl inX4 tyX4_ok nmX4 (j := 2) (ty := .int) (by decide) hw rfl (by decide +kernel) rfl rfl (Nat.le_of_ble_eq_true rfl) k
theorem gc_g_X4_at (C : Good l K D ad 60 E d cc own M) {index : Nat} (hd : decode cc pc = .ok (.getfield index, 3)) (hw : Cond.fieldLink own index "LeastWants$Reader" "at" "I" ∈ gWs) (k : G M ad 60 (cfC ad K) (pc + 3) lv (.int (iI (σ 3 3)) :: st) σ) : G M ad 60 (cfC ad K) pc lv (.ref (ad 3) :: st) σ := g_get C hd ⟨by omega, by omega⟩ cfC_X4 rfl inX4 (j := 3) (by decide) hw rfl k
theorem gc_p_X4_at (C : Good l K D ad 60 E d cc own M) {index : Nat} {x : Int} (hd : decode cc pc = .ok (.putfield index, 3)) (hw : Cond.fieldLink own index "LeastWants$Reader" "at" "I" ∈ gWs) (k : G M ad 60 (cfC ad K) (pc + 3) lv st (mu σ 3 3 x)) : G M ad 60 (cfC ad K) pc lv (.int (iI x) :: .ref (ad 3) :: st) σ := g_put C (ru (σ 3) 3 x) hd ⟨by omega, by omega⟩ cfC_X4 (cfC_X4.trans rfl) rfl inX4 tyX4_ok nmX4 (j := 3) (ty := .int) (by decide) hw rfl (by decide +kernel) rfl rfl (Nat.le_of_ble_eq_true rfl) k
theorem gc_g_X4_behind (C : Good l K D ad 60 E d cc own M) {index : Nat} (hd : decode cc pc = .ok (.getfield index, 3)) (hw : Cond.fieldLink own index "LeastWants$Reader" "behind" "I" ∈ gWs) (k : G M ad 60 (cfC ad K) (pc + 3) lv (.int (iI (σ 3 4)) :: st) σ) : G M ad 60 (cfC ad K) pc lv (.ref (ad 3) :: st) σ := g_get C hd ⟨by omega, by omega⟩ cfC_X4 rfl inX4 (j := 4) (by decide) hw rfl k
theorem gc_p_X4_behind (C : Good l K D ad 60 E d cc own M) {index : Nat} {x : Int} (hd : decode cc pc = .ok (.putfield index, 3)) (hw : Cond.fieldLink own index "LeastWants$Reader" "behind" "I" ∈ gWs) (k : G M ad 60 (cfC ad K) (pc + 3) lv st (mu σ 3 4 x)) : G M ad 60 (cfC ad K) pc lv (.int (iI x) :: .ref (ad 3) :: st) σ := g_put C (ru (σ 3) 4 x) hd ⟨by omega, by omega⟩ cfC_X4 (cfC_X4.trans rfl) rfl inX4 tyX4_ok nmX4 (j := 4) (ty := .int) (by decide) hw rfl (by decide +kernel) rfl rfl (Nat.le_of_ble_eq_true rfl) k
theorem gc_g_X4_token (C : Good l K D ad 60 E d cc own M) {index : Nat} (hd : decode cc pc = .ok (.getfield index, 3)) (hw : Cond.fieldLink own index "LeastWants$Reader" "token" "I" ∈ gWs) (k : G M ad 60 (cfC ad K) (pc + 3) lv (.int (iI (σ 3 5)) :: st) σ) : G M ad 60 (cfC ad K) pc lv (.ref (ad 3) :: st) σ := g_get C hd ⟨by omega, by omega⟩ cfC_X4 rfl inX4 (j := 5) (by decide) hw rfl k
theorem gc_p_X4_token (C : Good l K D ad 60 E d cc own M) {index : Nat} {x : Int} (hd : decode cc pc = .ok (.putfield index, 3)) (hw : Cond.fieldLink own index "LeastWants$Reader" "token" "I" ∈ gWs) (k : G M ad 60 (cfC ad K) (pc + 3) lv st (mu σ 3 5 x)) : G M ad 60 (cfC ad K) pc lv (.int (iI x) :: .ref (ad 3) :: st) σ := g_put C (ru (σ 3) 5 x) hd ⟨by omega, by omega⟩ cfC_X4 (cfC_X4.trans rfl) rfl inX4 tyX4_ok nmX4 (j := 5) (ty := .int) (by decide) hw rfl (by decide +kernel) rfl rfl (Nat.le_of_ble_eq_true rfl) k
theorem gc_g_X4_number (C : Good l K D ad 60 E d cc own M) {index : Nat} (hd : decode cc pc = .ok (.getfield index, 3)) (hw : Cond.fieldLink own index "LeastWants$Reader" "number" "I" ∈ gWs) (k : G M ad 60 (cfC ad K) (pc + 3) lv (.int (iI (σ 3 6)) :: st) σ) : G M ad 60 (cfC ad K) pc lv (.ref (ad 3) :: st) σ := g_get C hd ⟨by omega, by omega⟩ cfC_X4 rfl inX4 (j := 6) (by decide) hw rfl k
theorem gc_p_X4_number (C : Good l K D ad 60 E d cc own M) {index : Nat} {x : Int} (hd : decode cc pc = .ok (.putfield index, 3)) (hw : Cond.fieldLink own index "LeastWants$Reader" "number" "I" ∈ gWs) (k : G M ad 60 (cfC ad K) (pc + 3) lv st (mu σ 3 6 x)) : G M ad 60 (cfC ad K) pc lv (.int (iI x) :: .ref (ad 3) :: st) σ := g_put C (ru (σ 3) 6 x) hd ⟨by omega, by omega⟩ cfC_X4 (cfC_X4.trans rfl) rfl inX4 tyX4_ok nmX4 (j := 6) (ty := .int) (by decide) hw rfl (by decide +kernel) rfl rfl (Nat.le_of_ble_eq_true rfl) k
theorem gc_call_X4 (C : Good l K D ad 60 E d cc own M) {y : MethodName} {bytes : ByteArray} {maxL n index d0 : Nat} {ret : Option FieldType} {As : List Value} {st0 : List Value} {σ' : Mem} {r : Int} (hd : decode cc pc = .ok (.invokevirtual index, 3)) (hct : CtI l K D ad 60 (cfC ad K) E y bytes maxL ret d0 (.ref (ad 3) :: As) σ r σ') (hm : MWv y bytes maxL ret RX4 n) (hl : Cond.methodLink own index y ∈ gWs) (hd1 : d0 + 1 ≤ d) (hml : maxL ≤ 21) (hn : As.length = n) (hst : st0 = As.reverse ++ .ref (ad 3) :: st) (hcat : (st.map fun v => v.category).sum ≤ 8) (k : G M ad 60 (cfC ad K) (pc + 3) lv (.int (iI r) :: st) σ') : G M ad 60 (cfC ad K) pc lv st0 σ := g_callV C hd hct hm hl hd1 hml ⟨by omega, by omega⟩ cfC_X4 rfl hn hst hcat k
theorem gc_callv_X4 (C : Good l K D ad 60 E d cc own M) {y : MethodName} {bytes : ByteArray} {maxL n index d0 : Nat} {ret : Option FieldType} {As : List Value} {st0 : List Value} {σ' : Mem} (hd : decode cc pc = .ok (.invokevirtual index, 3)) (hct : CtV l K D ad 60 (cfC ad K) E y bytes maxL ret d0 (.ref (ad 3) :: As) σ σ') (hm : MWv y bytes maxL ret RX4 n) (hl : Cond.methodLink own index y ∈ gWs) (hd1 : d0 + 1 ≤ d) (hml : maxL ≤ 21) (hn : As.length = n) (hst : st0 = As.reverse ++ .ref (ad 3) :: st) (hcat : (st.map fun v => v.category).sum ≤ 8) (k : G M ad 60 (cfC ad K) (pc + 3) lv st σ') : G M ad 60 (cfC ad K) pc lv st0 σ := g_callVv C hd hct hm hl hd1 hml ⟨by omega, by omega⟩ cfC_X4 rfl hn hst hcat k
theorem gc_g_X0_many (C : Good l K D ad 60 E d cc own M) {index : Nat} (hd : decode cc pc = .ok (.getfield index, 3)) (hw : Cond.fieldLink own index "LeastWants$Acts" "many" "I" ∈ gWs) (k : G M ad 60 (cfC ad K) (pc + 3) lv (.int (iI (σ 5 0)) :: st) σ) : G M ad 60 (cfC ad K) pc lv (.ref (ad 5) :: st) σ := g_get C hd ⟨by omega, by omega⟩ cfC_X0 rfl inX0 (j := 0) (by decide) hw rfl k
theorem gc_p_X0_many (C : Good l K D ad 60 E d cc own M) {index : Nat} {x : Int} (hd : decode cc pc = .ok (.putfield index, 3)) (hw : Cond.fieldLink own index "LeastWants$Acts" "many" "I" ∈ gWs) (k : G M ad 60 (cfC ad K) (pc + 3) lv st (mu σ 5 0 x)) : G M ad 60 (cfC ad K) pc lv (.int (iI x) :: .ref (ad 5) :: st) σ := g_put C (ru (σ 5) 0 x) hd ⟨by omega, by omega⟩ cfC_X0 (cfC_X0.trans rfl) rfl inX0 tyX0_ok nmX0 (j := 0) (ty := .int) (by decide) hw rfl (by decide +kernel) rfl rfl (Nat.le_of_ble_eq_true rfl) k
theorem gc_g_X0_latest (C : Good l K D ad 60 E d cc own M) {index : Nat} (hd : decode cc pc = .ok (.getfield index, 3)) (hw : Cond.fieldLink own index "LeastWants$Acts" "latest" "I" ∈ gWs) (k : G M ad 60 (cfC ad K) (pc + 3) lv (.int (iI (σ 5 1)) :: st) σ) : G M ad 60 (cfC ad K) pc lv (.ref (ad 5) :: st) σ := g_get C hd ⟨by omega, by omega⟩ cfC_X0 rfl inX0 (j := 1) (by decide) hw rfl k
theorem gc_p_X0_latest (C : Good l K D ad 60 E d cc own M) {index : Nat} {x : Int} (hd : decode cc pc = .ok (.putfield index, 3)) (hw : Cond.fieldLink own index "LeastWants$Acts" "latest" "I" ∈ gWs) (k : G M ad 60 (cfC ad K) (pc + 3) lv st (mu σ 5 1 x)) : G M ad 60 (cfC ad K) pc lv (.int (iI x) :: .ref (ad 5) :: st) σ := g_put C (ru (σ 5) 1 x) hd ⟨by omega, by omega⟩ cfC_X0 (cfC_X0.trans rfl) rfl inX0 tyX0_ok nmX0 (j := 1) (ty := .int) (by decide) hw rfl (by decide +kernel) rfl rfl (Nat.le_of_ble_eq_true rfl) k
theorem gc_g_X0_things (C : Good l K D ad 60 E d cc own M) {index : Nat} (hd : decode cc pc = .ok (.getfield index, 3)) (hw : Cond.fieldLink own index "LeastWants$Acts" "things" "[I" ∈ gWs) (k : G M ad 60 (cfC ad K) (pc + 3) lv (.ref (ad 6) :: st) σ) : G M ad 60 (cfC ad K) pc lv (.ref (ad 5) :: st) σ := g_get C hd ⟨by omega, by omega⟩ cfC_X0 rfl inX0 (j := 2) (by decide) hw rfl k
theorem gc_g_X0_holders (C : Good l K D ad 60 E d cc own M) {index : Nat} (hd : decode cc pc = .ok (.getfield index, 3)) (hw : Cond.fieldLink own index "LeastWants$Acts" "holders" "[I" ∈ gWs) (k : G M ad 60 (cfC ad K) (pc + 3) lv (.ref (ad 7) :: st) σ) : G M ad 60 (cfC ad K) pc lv (.ref (ad 5) :: st) σ := g_get C hd ⟨by omega, by omega⟩ cfC_X0 rfl inX0 (j := 3) (by decide) hw rfl k
theorem gc_g_X0_worn (C : Good l K D ad 60 E d cc own M) {index : Nat} (hd : decode cc pc = .ok (.getfield index, 3)) (hw : Cond.fieldLink own index "LeastWants$Acts" "worn" "[I" ∈ gWs) (k : G M ad 60 (cfC ad K) (pc + 3) lv (.ref (ad 8) :: st) σ) : G M ad 60 (cfC ad K) pc lv (.ref (ad 5) :: st) σ := g_get C hd ⟨by omega, by omega⟩ cfC_X0 rfl inX0 (j := 4) (by decide) hw rfl k
theorem gc_g_X0_coins (C : Good l K D ad 60 E d cc own M) {index : Nat} (hd : decode cc pc = .ok (.getfield index, 3)) (hw : Cond.fieldLink own index "LeastWants$Acts" "coins" "[I" ∈ gWs) (k : G M ad 60 (cfC ad K) (pc + 3) lv (.ref (ad 9) :: st) σ) : G M ad 60 (cfC ad K) pc lv (.ref (ad 5) :: st) σ := g_get C hd ⟨by omega, by omega⟩ cfC_X0 rfl inX0 (j := 5) (by decide) hw rfl k
theorem gc_call_X0 (C : Good l K D ad 60 E d cc own M) {y : MethodName} {bytes : ByteArray} {maxL n index d0 : Nat} {ret : Option FieldType} {As : List Value} {st0 : List Value} {σ' : Mem} {r : Int} (hd : decode cc pc = .ok (.invokevirtual index, 3)) (hct : CtI l K D ad 60 (cfC ad K) E y bytes maxL ret d0 (.ref (ad 5) :: As) σ r σ') (hm : MWv y bytes maxL ret RX0 n) (hl : Cond.methodLink own index y ∈ gWs) (hd1 : d0 + 1 ≤ d) (hml : maxL ≤ 21) (hn : As.length = n) (hst : st0 = As.reverse ++ .ref (ad 5) :: st) (hcat : (st.map fun v => v.category).sum ≤ 8) (k : G M ad 60 (cfC ad K) (pc + 3) lv (.int (iI r) :: st) σ') : G M ad 60 (cfC ad K) pc lv st0 σ := g_callV C hd hct hm hl hd1 hml ⟨by omega, by omega⟩ cfC_X0 rfl hn hst hcat k
theorem gc_callv_X0 (C : Good l K D ad 60 E d cc own M) {y : MethodName} {bytes : ByteArray} {maxL n index d0 : Nat} {ret : Option FieldType} {As : List Value} {st0 : List Value} {σ' : Mem} (hd : decode cc pc = .ok (.invokevirtual index, 3)) (hct : CtV l K D ad 60 (cfC ad K) E y bytes maxL ret d0 (.ref (ad 5) :: As) σ σ') (hm : MWv y bytes maxL ret RX0 n) (hl : Cond.methodLink own index y ∈ gWs) (hd1 : d0 + 1 ≤ d) (hml : maxL ≤ 21) (hn : As.length = n) (hst : st0 = As.reverse ++ .ref (ad 5) :: st) (hcat : (st.map fun v => v.category).sum ≤ 8) (k : G M ad 60 (cfC ad K) (pc + 3) lv st σ') : G M ad 60 (cfC ad K) pc lv st0 σ := g_callVv C hd hct hm hl hd1 hml ⟨by omega, by omega⟩ cfC_X0 rfl hn hst hcat k
theorem gc_g_X6_people (C : Good l K D ad 60 E d cc own M) {q : Int} (hq : q = 10 ∨ q = 15) {index : Nat} (hd : decode cc pc = .ok (.getfield index, 3)) (hw : Cond.fieldLink own index "LeastWants$Sayings" "people" "I" ∈ gWs) (k : G M ad 60 (cfC ad K) (pc + 3) lv (.int (iI (σ q 0)) :: st) σ) : G M ad 60 (cfC ad K) pc lv (.ref (ad q) :: st) σ := g_get C hd ⟨by omega, by omega⟩ (cfC_X6 hq) rfl inX6 (j := 0) (by decide) hw rfl k
theorem gc_p_X6_people (C : Good l K D ad 60 E d cc own M) {q : Int} (hq : q = 10 ∨ q = 15) {index : Nat} {x : Int} (hd : decode cc pc = .ok (.putfield index, 3)) (hw : Cond.fieldLink own index "LeastWants$Sayings" "people" "I" ∈ gWs) (k : G M ad 60 (cfC ad K) (pc + 3) lv st (mu σ q 0 x)) : G M ad 60 (cfC ad K) pc lv (.int (iI x) :: .ref (ad q) :: st) σ := g_put C (ru (σ q) 0 x) hd ⟨by omega, by omega⟩ (cfC_X6 hq) ((cfC_X6 hq).trans rfl) rfl inX6 tyX6_ok nmX6 (j := 0) (ty := .int) (by decide) hw rfl (by decide +kernel) rfl rfl (Nat.le_of_ble_eq_true rfl) k
theorem gc_g_X6_said (C : Good l K D ad 60 E d cc own M) {q : Int} (hq : q = 10 ∨ q = 15) {index : Nat} (hd : decode cc pc = .ok (.getfield index, 3)) (hw : Cond.fieldLink own index "LeastWants$Sayings" "said" "[I" ∈ gWs) (k : G M ad 60 (cfC ad K) (pc + 3) lv (.ref (ad (q + 1)) :: st) σ) : G M ad 60 (cfC ad K) pc lv (.ref (ad q) :: st) σ := g_get C hd ⟨by omega, by omega⟩ (cfC_X6 hq) rfl inX6 (j := 1) (by decide) hw rfl k
theorem gc_call_X6 (C : Good l K D ad 60 E d cc own M) {q : Int} {y : MethodName} {bytes : ByteArray} {maxL n index d0 : Nat} {ret : Option FieldType} {As : List Value} {st0 : List Value} {σ' : Mem} {r : Int} (hd : decode cc pc = .ok (.invokevirtual index, 3)) (hct : CtI l K D ad 60 (cfC ad K) E y bytes maxL ret d0 (.ref (ad q) :: As) σ r σ') (hm : MWv y bytes maxL ret RX6 n) (hl : Cond.methodLink own index y ∈ gWs) (hd1 : d0 + 1 ≤ d) (hml : maxL ≤ 21) (hq : q = 10 ∨ q = 15) (hn : As.length = n) (hst : st0 = As.reverse ++ .ref (ad q) :: st) (hcat : (st.map fun v => v.category).sum ≤ 8) (k : G M ad 60 (cfC ad K) (pc + 3) lv (.int (iI r) :: st) σ') : G M ad 60 (cfC ad K) pc lv st0 σ := g_callV C hd hct hm hl hd1 hml ⟨by omega, by omega⟩ (cfC_X6 hq) rfl hn hst hcat k
theorem gc_callv_X6 (C : Good l K D ad 60 E d cc own M) {q : Int} {y : MethodName} {bytes : ByteArray} {maxL n index d0 : Nat} {ret : Option FieldType} {As : List Value} {st0 : List Value} {σ' : Mem} (hd : decode cc pc = .ok (.invokevirtual index, 3)) (hct : CtV l K D ad 60 (cfC ad K) E y bytes maxL ret d0 (.ref (ad q) :: As) σ σ') (hm : MWv y bytes maxL ret RX6 n) (hl : Cond.methodLink own index y ∈ gWs) (hd1 : d0 + 1 ≤ d) (hml : maxL ≤ 21) (hq : q = 10 ∨ q = 15) (hn : As.length = n) (hst : st0 = As.reverse ++ .ref (ad q) :: st) (hcat : (st.map fun v => v.category).sum ≤ 8) (k : G M ad 60 (cfC ad K) (pc + 3) lv st σ') : G M ad 60 (cfC ad K) pc lv st0 σ := g_callVv C hd hct hm hl hd1 hml ⟨by omega, by omega⟩ (cfC_X6 hq) rfl hn hst hcat k
theorem gc_g_X3_odds (C : Good l K D ad 60 E d cc own M) {q : Int} (hq : q = 12 ∨ q = 17) {index : Nat} (hd : decode cc pc = .ok (.getfield index, 3)) (hw : Cond.fieldLink own index "LeastWants$Prospect" "odds" "I" ∈ gWs) (k : G M ad 60 (cfC ad K) (pc + 3) lv (.int (iI (σ q 0)) :: st) σ) : G M ad 60 (cfC ad K) pc lv (.ref (ad q) :: st) σ := g_get C hd ⟨by omega, by omega⟩ (cfC_X3 hq) rfl inX3 (j := 0) (by decide) hw rfl k
theorem gc_p_X3_odds (C : Good l K D ad 60 E d cc own M) {q : Int} (hq : q = 12 ∨ q = 17) {index : Nat} {x : Int} (hd : decode cc pc = .ok (.putfield index, 3)) (hw : Cond.fieldLink own index "LeastWants$Prospect" "odds" "I" ∈ gWs) (k : G M ad 60 (cfC ad K) (pc + 3) lv st (mu σ q 0 x)) : G M ad 60 (cfC ad K) pc lv (.int (iI x) :: .ref (ad q) :: st) σ := g_put C (ru (σ q) 0 x) hd ⟨by omega, by omega⟩ (cfC_X3 hq) ((cfC_X3 hq).trans rfl) rfl inX3 tyX3_ok nmX3 (j := 0) (ty := .int) (by decide) hw rfl (by decide +kernel) rfl rfl (Nat.le_of_ble_eq_true rfl) k
theorem gc_g_X3_lowest (C : Good l K D ad 60 E d cc own M) {q : Int} (hq : q = 12 ∨ q = 17) {index : Nat} (hd : decode cc pc = .ok (.getfield index, 3)) (hw : Cond.fieldLink own index "LeastWants$Prospect" "lowest" "I" ∈ gWs) (k : G M ad 60 (cfC ad K) (pc + 3) lv (.int (iI (σ q 1)) :: st) σ) : G M ad 60 (cfC ad K) pc lv (.ref (ad q) :: st) σ := g_get C hd ⟨by omega, by omega⟩ (cfC_X3 hq) rfl inX3 (j := 1) (by decide) hw rfl k
theorem gc_p_X3_lowest (C : Good l K D ad 60 E d cc own M) {q : Int} (hq : q = 12 ∨ q = 17) {index : Nat} {x : Int} (hd : decode cc pc = .ok (.putfield index, 3)) (hw : Cond.fieldLink own index "LeastWants$Prospect" "lowest" "I" ∈ gWs) (k : G M ad 60 (cfC ad K) (pc + 3) lv st (mu σ q 1 x)) : G M ad 60 (cfC ad K) pc lv (.int (iI x) :: .ref (ad q) :: st) σ := g_put C (ru (σ q) 1 x) hd ⟨by omega, by omega⟩ (cfC_X3 hq) ((cfC_X3 hq).trans rfl) rfl inX3 tyX3_ok nmX3 (j := 1) (ty := .int) (by decide) hw rfl (by decide +kernel) rfl rfl (Nat.le_of_ble_eq_true rfl) k
theorem gc_g_X3_below (C : Good l K D ad 60 E d cc own M) {q : Int} (hq : q = 12 ∨ q = 17) {index : Nat} (hd : decode cc pc = .ok (.getfield index, 3)) (hw : Cond.fieldLink own index "LeastWants$Prospect" "below" "I" ∈ gWs) (k : G M ad 60 (cfC ad K) (pc + 3) lv (.int (iI (σ q 2)) :: st) σ) : G M ad 60 (cfC ad K) pc lv (.ref (ad q) :: st) σ := g_get C hd ⟨by omega, by omega⟩ (cfC_X3 hq) rfl inX3 (j := 2) (by decide) hw rfl k
theorem gc_p_X3_below (C : Good l K D ad 60 E d cc own M) {q : Int} (hq : q = 12 ∨ q = 17) {index : Nat} {x : Int} (hd : decode cc pc = .ok (.putfield index, 3)) (hw : Cond.fieldLink own index "LeastWants$Prospect" "below" "I" ∈ gWs) (k : G M ad 60 (cfC ad K) (pc + 3) lv st (mu σ q 2 x)) : G M ad 60 (cfC ad K) pc lv (.int (iI x) :: .ref (ad q) :: st) σ := g_put C (ru (σ q) 2 x) hd ⟨by omega, by omega⟩ (cfC_X3 hq) ((cfC_X3 hq).trans rfl) rfl inX3 tyX3_ok nmX3 (j := 2) (ty := .int) (by decide) hw rfl (by decide +kernel) rfl rfl (Nat.le_of_ble_eq_true rfl) k
theorem gc_g_X3_shared (C : Good l K D ad 60 E d cc own M) {q : Int} (hq : q = 12 ∨ q = 17) {index : Nat} (hd : decode cc pc = .ok (.getfield index, 3)) (hw : Cond.fieldLink own index "LeastWants$Prospect" "shared" "I" ∈ gWs) (k : G M ad 60 (cfC ad K) (pc + 3) lv (.int (iI (σ q 3)) :: st) σ) : G M ad 60 (cfC ad K) pc lv (.ref (ad q) :: st) σ := g_get C hd ⟨by omega, by omega⟩ (cfC_X3 hq) rfl inX3 (j := 3) (by decide) hw rfl k
theorem gc_p_X3_shared (C : Good l K D ad 60 E d cc own M) {q : Int} (hq : q = 12 ∨ q = 17) {index : Nat} {x : Int} (hd : decode cc pc = .ok (.putfield index, 3)) (hw : Cond.fieldLink own index "LeastWants$Prospect" "shared" "I" ∈ gWs) (k : G M ad 60 (cfC ad K) (pc + 3) lv st (mu σ q 3 x)) : G M ad 60 (cfC ad K) pc lv (.int (iI x) :: .ref (ad q) :: st) σ := g_put C (ru (σ q) 3 x) hd ⟨by omega, by omega⟩ (cfC_X3 hq) ((cfC_X3 hq).trans rfl) rfl inX3 tyX3_ok nmX3 (j := 3) (ty := .int) (by decide) hw rfl (by decide +kernel) rfl rfl (Nat.le_of_ble_eq_true rfl) k
theorem gc_g_X3_above (C : Good l K D ad 60 E d cc own M) {q : Int} (hq : q = 12 ∨ q = 17) {index : Nat} (hd : decode cc pc = .ok (.getfield index, 3)) (hw : Cond.fieldLink own index "LeastWants$Prospect" "above" "I" ∈ gWs) (k : G M ad 60 (cfC ad K) (pc + 3) lv (.int (iI (σ q 4)) :: st) σ) : G M ad 60 (cfC ad K) pc lv (.ref (ad q) :: st) σ := g_get C hd ⟨by omega, by omega⟩ (cfC_X3 hq) rfl inX3 (j := 4) (by decide) hw rfl k
theorem gc_p_X3_above (C : Good l K D ad 60 E d cc own M) {q : Int} (hq : q = 12 ∨ q = 17) {index : Nat} {x : Int} (hd : decode cc pc = .ok (.putfield index, 3)) (hw : Cond.fieldLink own index "LeastWants$Prospect" "above" "I" ∈ gWs) (k : G M ad 60 (cfC ad K) (pc + 3) lv st (mu σ q 4 x)) : G M ad 60 (cfC ad K) pc lv (.int (iI x) :: .ref (ad q) :: st) σ := g_put C (ru (σ q) 4 x) hd ⟨by omega, by omega⟩ (cfC_X3 hq) ((cfC_X3 hq).trans rfl) rfl inX3 tyX3_ok nmX3 (j := 4) (ty := .int) (by decide) hw rfl (by decide +kernel) rfl rfl (Nat.le_of_ble_eq_true rfl) k
theorem gc_call_X3 (C : Good l K D ad 60 E d cc own M) {q : Int} {y : MethodName} {bytes : ByteArray} {maxL n index d0 : Nat} {ret : Option FieldType} {As : List Value} {st0 : List Value} {σ' : Mem} {r : Int} (hd : decode cc pc = .ok (.invokevirtual index, 3)) (hct : CtI l K D ad 60 (cfC ad K) E y bytes maxL ret d0 (.ref (ad q) :: As) σ r σ') (hm : MWv y bytes maxL ret RX3 n) (hl : Cond.methodLink own index y ∈ gWs) (hd1 : d0 + 1 ≤ d) (hml : maxL ≤ 21) (hq : q = 12 ∨ q = 17) (hn : As.length = n) (hst : st0 = As.reverse ++ .ref (ad q) :: st) (hcat : (st.map fun v => v.category).sum ≤ 8) (k : G M ad 60 (cfC ad K) (pc + 3) lv (.int (iI r) :: st) σ') : G M ad 60 (cfC ad K) pc lv st0 σ := g_callV C hd hct hm hl hd1 hml ⟨by omega, by omega⟩ (cfC_X3 hq) rfl hn hst hcat k
theorem gc_callv_X3 (C : Good l K D ad 60 E d cc own M) {q : Int} {y : MethodName} {bytes : ByteArray} {maxL n index d0 : Nat} {ret : Option FieldType} {As : List Value} {st0 : List Value} {σ' : Mem} (hd : decode cc pc = .ok (.invokevirtual index, 3)) (hct : CtV l K D ad 60 (cfC ad K) E y bytes maxL ret d0 (.ref (ad q) :: As) σ σ') (hm : MWv y bytes maxL ret RX3 n) (hl : Cond.methodLink own index y ∈ gWs) (hd1 : d0 + 1 ≤ d) (hml : maxL ≤ 21) (hq : q = 12 ∨ q = 17) (hn : As.length = n) (hst : st0 = As.reverse ++ .ref (ad q) :: st) (hcat : (st.map fun v => v.category).sum ≤ 8) (k : G M ad 60 (cfC ad K) (pc + 3) lv st σ') : G M ad 60 (cfC ad K) pc lv st0 σ := g_callVv C hd hct hm hl hd1 hml ⟨by omega, by omega⟩ (cfC_X3 hq) rfl hn hst hcat k
theorem gc_g_X2_manyRests (C : Good l K D ad 60 E d cc own M) {index : Nat} (hd : decode cc pc = .ok (.getfield index, 3)) (hw : Cond.fieldLink own index "LeastWants$Foretold" "manyRests" "I" ∈ gWs) (k : G M ad 60 (cfC ad K) (pc + 3) lv (.int (iI (σ 13 0)) :: st) σ) : G M ad 60 (cfC ad K) pc lv (.ref (ad 13) :: st) σ := g_get C hd ⟨by omega, by omega⟩ cfC_X2 rfl inX2 (j := 0) (by decide) hw rfl k
theorem gc_p_X2_manyRests (C : Good l K D ad 60 E d cc own M) {index : Nat} {x : Int} (hd : decode cc pc = .ok (.putfield index, 3)) (hw : Cond.fieldLink own index "LeastWants$Foretold" "manyRests" "I" ∈ gWs) (k : G M ad 60 (cfC ad K) (pc + 3) lv st (mu σ 13 0 x)) : G M ad 60 (cfC ad K) pc lv (.int (iI x) :: .ref (ad 13) :: st) σ := g_put C (ru (σ 13) 0 x) hd ⟨by omega, by omega⟩ cfC_X2 (cfC_X2.trans rfl) rfl inX2 tyX2_ok nmX2 (j := 0) (ty := .int) (by decide) hw rfl (by decide +kernel) rfl rfl (Nat.le_of_ble_eq_true rfl) k
theorem gc_g_X2_firstRest (C : Good l K D ad 60 E d cc own M) {index : Nat} (hd : decode cc pc = .ok (.getfield index, 3)) (hw : Cond.fieldLink own index "LeastWants$Foretold" "firstRest" "[I" ∈ gWs) (k : G M ad 60 (cfC ad K) (pc + 3) lv (.ref (ad 14) :: st) σ) : G M ad 60 (cfC ad K) pc lv (.ref (ad 13) :: st) σ := g_get C hd ⟨by omega, by omega⟩ cfC_X2 rfl inX2 (j := 1) (by decide) hw rfl k
theorem gc_g_X2_trial (C : Good l K D ad 60 E d cc own M) {index : Nat} (hd : decode cc pc = .ok (.getfield index, 3)) (hw : Cond.fieldLink own index "LeastWants$Foretold" "trial" "LLeastWants$Sayings;" ∈ gWs) (k : G M ad 60 (cfC ad K) (pc + 3) lv (.ref (ad 15) :: st) σ) : G M ad 60 (cfC ad K) pc lv (.ref (ad 13) :: st) σ := g_get C hd ⟨by omega, by omega⟩ cfC_X2 rfl inX2 (j := 2) (by decide) hw rfl k
theorem gc_g_X2_prospect (C : Good l K D ad 60 E d cc own M) {index : Nat} (hd : decode cc pc = .ok (.getfield index, 3)) (hw : Cond.fieldLink own index "LeastWants$Foretold" "prospect" "LLeastWants$Prospect;" ∈ gWs) (k : G M ad 60 (cfC ad K) (pc + 3) lv (.ref (ad 17) :: st) σ) : G M ad 60 (cfC ad K) pc lv (.ref (ad 13) :: st) σ := g_get C hd ⟨by omega, by omega⟩ cfC_X2 rfl inX2 (j := 3) (by decide) hw rfl k
theorem gc_call_X2 (C : Good l K D ad 60 E d cc own M) {y : MethodName} {bytes : ByteArray} {maxL n index d0 : Nat} {ret : Option FieldType} {As : List Value} {st0 : List Value} {σ' : Mem} {r : Int} (hd : decode cc pc = .ok (.invokevirtual index, 3)) (hct : CtI l K D ad 60 (cfC ad K) E y bytes maxL ret d0 (.ref (ad 13) :: As) σ r σ') (hm : MWv y bytes maxL ret RX2 n) (hl : Cond.methodLink own index y ∈ gWs) (hd1 : d0 + 1 ≤ d) (hml : maxL ≤ 21) (hn : As.length = n) (hst : st0 = As.reverse ++ .ref (ad 13) :: st) (hcat : (st.map fun v => v.category).sum ≤ 8) (k : G M ad 60 (cfC ad K) (pc + 3) lv (.int (iI r) :: st) σ') : G M ad 60 (cfC ad K) pc lv st0 σ := g_callV C hd hct hm hl hd1 hml ⟨by omega, by omega⟩ cfC_X2 rfl hn hst hcat k
theorem gc_callv_X2 (C : Good l K D ad 60 E d cc own M) {y : MethodName} {bytes : ByteArray} {maxL n index d0 : Nat} {ret : Option FieldType} {As : List Value} {st0 : List Value} {σ' : Mem} (hd : decode cc pc = .ok (.invokevirtual index, 3)) (hct : CtV l K D ad 60 (cfC ad K) E y bytes maxL ret d0 (.ref (ad 13) :: As) σ σ') (hm : MWv y bytes maxL ret RX2 n) (hl : Cond.methodLink own index y ∈ gWs) (hd1 : d0 + 1 ≤ d) (hml : maxL ≤ 21) (hn : As.length = n) (hst : st0 = As.reverse ++ .ref (ad 13) :: st) (hcat : (st.map fun v => v.category).sum ≤ 8) (k : G M ad 60 (cfC ad K) (pc + 3) lv st σ') : G M ad 60 (cfC ad K) pc lv st0 σ := g_callVv C hd hct hm hl hd1 hml ⟨by omega, by omega⟩ cfC_X2 rfl hn hst hcat k
theorem gc_g_X1_traced (C : Good l K D ad 60 E d cc own M) {index : Nat} (hd : decode cc pc = .ok (.getfield index, 3)) (hw : Cond.fieldLink own index "LeastWants$Asking" "traced" "I" ∈ gWs) (k : G M ad 60 (cfC ad K) (pc + 3) lv (.int (iI (σ 18 0)) :: st) σ) : G M ad 60 (cfC ad K) pc lv (.ref (ad 18) :: st) σ := g_get C hd ⟨by omega, by omega⟩ cfC_X1 rfl inX1 (j := 0) (by decide) hw rfl k
theorem gc_p_X1_traced (C : Good l K D ad 60 E d cc own M) {index : Nat} {x : Int} (hd : decode cc pc = .ok (.putfield index, 3)) (hw : Cond.fieldLink own index "LeastWants$Asking" "traced" "I" ∈ gWs) (k : G M ad 60 (cfC ad K) (pc + 3) lv st (mu σ 18 0 x)) : G M ad 60 (cfC ad K) pc lv (.int (iI x) :: .ref (ad 18) :: st) σ := g_put C (ru (σ 18) 0 x) hd ⟨by omega, by omega⟩ cfC_X1 (cfC_X1.trans rfl) rfl inX1 tyX1_ok nmX1 (j := 0) (ty := .int) (by decide) hw rfl (by decide +kernel) rfl rfl (Nat.le_of_ble_eq_true rfl) k
theorem gc_g_X1_trail (C : Good l K D ad 60 E d cc own M) {index : Nat} (hd : decode cc pc = .ok (.getfield index, 3)) (hw : Cond.fieldLink own index "LeastWants$Asking" "trail" "[I" ∈ gWs) (k : G M ad 60 (cfC ad K) (pc + 3) lv (.ref (ad 19) :: st) σ) : G M ad 60 (cfC ad K) pc lv (.ref (ad 18) :: st) σ := g_get C hd ⟨by omega, by omega⟩ cfC_X1 rfl inX1 (j := 1) (by decide) hw rfl k
theorem gc_g_X1_asked (C : Good l K D ad 60 E d cc own M) {index : Nat} (hd : decode cc pc = .ok (.getfield index, 3)) (hw : Cond.fieldLink own index "LeastWants$Asking" "asked" "I" ∈ gWs) (k : G M ad 60 (cfC ad K) (pc + 3) lv (.int (iI (σ 18 2)) :: st) σ) : G M ad 60 (cfC ad K) pc lv (.ref (ad 18) :: st) σ := g_get C hd ⟨by omega, by omega⟩ cfC_X1 rfl inX1 (j := 2) (by decide) hw rfl k
theorem gc_p_X1_asked (C : Good l K D ad 60 E d cc own M) {index : Nat} {x : Int} (hd : decode cc pc = .ok (.putfield index, 3)) (hw : Cond.fieldLink own index "LeastWants$Asking" "asked" "I" ∈ gWs) (k : G M ad 60 (cfC ad K) (pc + 3) lv st (mu σ 18 2 x)) : G M ad 60 (cfC ad K) pc lv (.int (iI x) :: .ref (ad 18) :: st) σ := g_put C (ru (σ 18) 2 x) hd ⟨by omega, by omega⟩ cfC_X1 (cfC_X1.trans rfl) rfl inX1 tyX1_ok nmX1 (j := 2) (ty := .int) (by decide) hw rfl (by decide +kernel) rfl rfl (Nat.le_of_ble_eq_true rfl) k
theorem gc_g_X1_askedKind (C : Good l K D ad 60 E d cc own M) {index : Nat} (hd : decode cc pc = .ok (.getfield index, 3)) (hw : Cond.fieldLink own index "LeastWants$Asking" "askedKind" "I" ∈ gWs) (k : G M ad 60 (cfC ad K) (pc + 3) lv (.int (iI (σ 18 3)) :: st) σ) : G M ad 60 (cfC ad K) pc lv (.ref (ad 18) :: st) σ := g_get C hd ⟨by omega, by omega⟩ cfC_X1 rfl inX1 (j := 3) (by decide) hw rfl k
theorem gc_p_X1_askedKind (C : Good l K D ad 60 E d cc own M) {index : Nat} {x : Int} (hd : decode cc pc = .ok (.putfield index, 3)) (hw : Cond.fieldLink own index "LeastWants$Asking" "askedKind" "I" ∈ gWs) (k : G M ad 60 (cfC ad K) (pc + 3) lv st (mu σ 18 3 x)) : G M ad 60 (cfC ad K) pc lv (.int (iI x) :: .ref (ad 18) :: st) σ := g_put C (ru (σ 18) 3 x) hd ⟨by omega, by omega⟩ cfC_X1 (cfC_X1.trans rfl) rfl inX1 tyX1_ok nmX1 (j := 3) (ty := .int) (by decide) hw rfl (by decide +kernel) rfl rfl (Nat.le_of_ble_eq_true rfl) k
theorem gc_g_X1_askedCoin (C : Good l K D ad 60 E d cc own M) {index : Nat} (hd : decode cc pc = .ok (.getfield index, 3)) (hw : Cond.fieldLink own index "LeastWants$Asking" "askedCoin" "I" ∈ gWs) (k : G M ad 60 (cfC ad K) (pc + 3) lv (.int (iI (σ 18 4)) :: st) σ) : G M ad 60 (cfC ad K) pc lv (.ref (ad 18) :: st) σ := g_get C hd ⟨by omega, by omega⟩ cfC_X1 rfl inX1 (j := 4) (by decide) hw rfl k
theorem gc_p_X1_askedCoin (C : Good l K D ad 60 E d cc own M) {index : Nat} {x : Int} (hd : decode cc pc = .ok (.putfield index, 3)) (hw : Cond.fieldLink own index "LeastWants$Asking" "askedCoin" "I" ∈ gWs) (k : G M ad 60 (cfC ad K) (pc + 3) lv st (mu σ 18 4 x)) : G M ad 60 (cfC ad K) pc lv (.int (iI x) :: .ref (ad 18) :: st) σ := g_put C (ru (σ 18) 4 x) hd ⟨by omega, by omega⟩ cfC_X1 (cfC_X1.trans rfl) rfl inX1 tyX1_ok nmX1 (j := 4) (ty := .int) (by decide) hw rfl (by decide +kernel) rfl rfl (Nat.le_of_ble_eq_true rfl) k
theorem gc_g_X1_askedThings (C : Good l K D ad 60 E d cc own M) {index : Nat} (hd : decode cc pc = .ok (.getfield index, 3)) (hw : Cond.fieldLink own index "LeastWants$Asking" "askedThings" "I" ∈ gWs) (k : G M ad 60 (cfC ad K) (pc + 3) lv (.int (iI (σ 18 5)) :: st) σ) : G M ad 60 (cfC ad K) pc lv (.ref (ad 18) :: st) σ := g_get C hd ⟨by omega, by omega⟩ cfC_X1 rfl inX1 (j := 5) (by decide) hw rfl k
theorem gc_p_X1_askedThings (C : Good l K D ad 60 E d cc own M) {index : Nat} {x : Int} (hd : decode cc pc = .ok (.putfield index, 3)) (hw : Cond.fieldLink own index "LeastWants$Asking" "askedThings" "I" ∈ gWs) (k : G M ad 60 (cfC ad K) (pc + 3) lv st (mu σ 18 5 x)) : G M ad 60 (cfC ad K) pc lv (.int (iI x) :: .ref (ad 18) :: st) σ := g_put C (ru (σ 18) 5 x) hd ⟨by omega, by omega⟩ cfC_X1 (cfC_X1.trans rfl) rfl inX1 tyX1_ok nmX1 (j := 5) (ty := .int) (by decide) hw rfl (by decide +kernel) rfl rfl (Nat.le_of_ble_eq_true rfl) k
theorem gc_call_X1 (C : Good l K D ad 60 E d cc own M) {y : MethodName} {bytes : ByteArray} {maxL n index d0 : Nat} {ret : Option FieldType} {As : List Value} {st0 : List Value} {σ' : Mem} {r : Int} (hd : decode cc pc = .ok (.invokevirtual index, 3)) (hct : CtI l K D ad 60 (cfC ad K) E y bytes maxL ret d0 (.ref (ad 18) :: As) σ r σ') (hm : MWv y bytes maxL ret RX1 n) (hl : Cond.methodLink own index y ∈ gWs) (hd1 : d0 + 1 ≤ d) (hml : maxL ≤ 21) (hn : As.length = n) (hst : st0 = As.reverse ++ .ref (ad 18) :: st) (hcat : (st.map fun v => v.category).sum ≤ 8) (k : G M ad 60 (cfC ad K) (pc + 3) lv (.int (iI r) :: st) σ') : G M ad 60 (cfC ad K) pc lv st0 σ := g_callV C hd hct hm hl hd1 hml ⟨by omega, by omega⟩ cfC_X1 rfl hn hst hcat k
theorem gc_callv_X1 (C : Good l K D ad 60 E d cc own M) {y : MethodName} {bytes : ByteArray} {maxL n index d0 : Nat} {ret : Option FieldType} {As : List Value} {st0 : List Value} {σ' : Mem} (hd : decode cc pc = .ok (.invokevirtual index, 3)) (hct : CtV l K D ad 60 (cfC ad K) E y bytes maxL ret d0 (.ref (ad 18) :: As) σ σ') (hm : MWv y bytes maxL ret RX1 n) (hl : Cond.methodLink own index y ∈ gWs) (hd1 : d0 + 1 ≤ d) (hml : maxL ≤ 21) (hn : As.length = n) (hst : st0 = As.reverse ++ .ref (ad 18) :: st) (hcat : (st.map fun v => v.category).sum ≤ 8) (k : G M ad 60 (cfC ad K) (pc + 3) lv st σ') : G M ad 60 (cfC ad K) pc lv st0 σ := g_callVv C hd hct hm hl hd1 hml ⟨by omega, by omega⟩ cfC_X1 rfl hn hst hcat k
theorem gc_g_X7_pays (C : Good l K D ad 60 E d cc own M) {q : Int} (hq : 20 ≤ q ∧ q < 24) {index : Nat} (hd : decode cc pc = .ok (.getfield index, 3)) (hw : Cond.fieldLink own index "LeastWants$Town" "pays" "I" ∈ gWs) (k : G M ad 60 (cfC ad K) (pc + 3) lv (.int (iI (σ q 0)) :: st) σ) : G M ad 60 (cfC ad K) pc lv (.ref (ad q) :: st) σ := g_get C hd ⟨by omega, by omega⟩ (cfC_X7 hq) rfl inX7 (j := 0) (by decide) hw rfl k
theorem gc_p_X7_pays (C : Good l K D ad 60 E d cc own M) {q : Int} (hq : 20 ≤ q ∧ q < 24) {index : Nat} {x : Int} (hd : decode cc pc = .ok (.putfield index, 3)) (hw : Cond.fieldLink own index "LeastWants$Town" "pays" "I" ∈ gWs) (k : G M ad 60 (cfC ad K) (pc + 3) lv st (mu σ q 0 x)) : G M ad 60 (cfC ad K) pc lv (.int (iI x) :: .ref (ad q) :: st) σ := g_put C (ru (σ q) 0 x) hd ⟨by omega, by omega⟩ (cfC_X7 hq) ((cfC_X7 hq).trans rfl) rfl inX7 tyX7_ok nmX7 (j := 0) (ty := .int) (by decide) hw rfl (by decide +kernel) rfl rfl (Nat.le_of_ble_eq_true rfl) k
theorem gc_g_X7_fee (C : Good l K D ad 60 E d cc own M) {q : Int} (hq : 20 ≤ q ∧ q < 24) {index : Nat} (hd : decode cc pc = .ok (.getfield index, 3)) (hw : Cond.fieldLink own index "LeastWants$Town" "fee" "I" ∈ gWs) (k : G M ad 60 (cfC ad K) (pc + 3) lv (.int (iI (σ q 1)) :: st) σ) : G M ad 60 (cfC ad K) pc lv (.ref (ad q) :: st) σ := g_get C hd ⟨by omega, by omega⟩ (cfC_X7 hq) rfl inX7 (j := 1) (by decide) hw rfl k
theorem gc_p_X7_fee (C : Good l K D ad 60 E d cc own M) {q : Int} (hq : 20 ≤ q ∧ q < 24) {index : Nat} {x : Int} (hd : decode cc pc = .ok (.putfield index, 3)) (hw : Cond.fieldLink own index "LeastWants$Town" "fee" "I" ∈ gWs) (k : G M ad 60 (cfC ad K) (pc + 3) lv st (mu σ q 1 x)) : G M ad 60 (cfC ad K) pc lv (.int (iI x) :: .ref (ad q) :: st) σ := g_put C (ru (σ q) 1 x) hd ⟨by omega, by omega⟩ (cfC_X7 hq) ((cfC_X7 hq).trans rfl) rfl inX7 tyX7_ok nmX7 (j := 1) (ty := .int) (by decide) hw rfl (by decide +kernel) rfl rfl (Nat.le_of_ble_eq_true rfl) k
theorem gc_g_X7_people (C : Good l K D ad 60 E d cc own M) {q : Int} (hq : 20 ≤ q ∧ q < 24) {index : Nat} (hd : decode cc pc = .ok (.getfield index, 3)) (hw : Cond.fieldLink own index "LeastWants$Town" "people" "I" ∈ gWs) (k : G M ad 60 (cfC ad K) (pc + 3) lv (.int (iI (σ q 2)) :: st) σ) : G M ad 60 (cfC ad K) pc lv (.ref (ad q) :: st) σ := g_get C hd ⟨by omega, by omega⟩ (cfC_X7 hq) rfl inX7 (j := 2) (by decide) hw rfl k
theorem gc_p_X7_people (C : Good l K D ad 60 E d cc own M) {q : Int} (hq : 20 ≤ q ∧ q < 24) {index : Nat} {x : Int} (hd : decode cc pc = .ok (.putfield index, 3)) (hw : Cond.fieldLink own index "LeastWants$Town" "people" "I" ∈ gWs) (k : G M ad 60 (cfC ad K) (pc + 3) lv st (mu σ q 2 x)) : G M ad 60 (cfC ad K) pc lv (.int (iI x) :: .ref (ad q) :: st) σ := g_put C (ru (σ q) 2 x) hd ⟨by omega, by omega⟩ (cfC_X7 hq) ((cfC_X7 hq).trans rfl) rfl inX7 tyX7_ok nmX7 (j := 2) (ty := .int) (by decide) hw rfl (by decide +kernel) rfl rfl (Nat.le_of_ble_eq_true rfl) k
theorem gc_g_X7_things (C : Good l K D ad 60 E d cc own M) {q : Int} (hq : 20 ≤ q ∧ q < 24) {index : Nat} (hd : decode cc pc = .ok (.getfield index, 3)) (hw : Cond.fieldLink own index "LeastWants$Town" "things" "I" ∈ gWs) (k : G M ad 60 (cfC ad K) (pc + 3) lv (.int (iI (σ q 3)) :: st) σ) : G M ad 60 (cfC ad K) pc lv (.ref (ad q) :: st) σ := g_get C hd ⟨by omega, by omega⟩ (cfC_X7 hq) rfl inX7 (j := 3) (by decide) hw rfl k
theorem gc_p_X7_things (C : Good l K D ad 60 E d cc own M) {q : Int} (hq : 20 ≤ q ∧ q < 24) {index : Nat} {x : Int} (hd : decode cc pc = .ok (.putfield index, 3)) (hw : Cond.fieldLink own index "LeastWants$Town" "things" "I" ∈ gWs) (k : G M ad 60 (cfC ad K) (pc + 3) lv st (mu σ q 3 x)) : G M ad 60 (cfC ad K) pc lv (.int (iI x) :: .ref (ad q) :: st) σ := g_put C (ru (σ q) 3 x) hd ⟨by omega, by omega⟩ (cfC_X7 hq) ((cfC_X7 hq).trans rfl) rfl inX7 tyX7_ok nmX7 (j := 3) (ty := .int) (by decide) hw rfl (by decide +kernel) rfl rfl (Nat.le_of_ble_eq_true rfl) k
theorem gc_g_X7_kinds (C : Good l K D ad 60 E d cc own M) {q : Int} (hq : 20 ≤ q ∧ q < 24) {index : Nat} (hd : decode cc pc = .ok (.getfield index, 3)) (hw : Cond.fieldLink own index "LeastWants$Town" "kinds" "[I" ∈ gWs) (k : G M ad 60 (cfC ad K) (pc + 3) lv (.ref (ad (q + 4)) :: st) σ) : G M ad 60 (cfC ad K) pc lv (.ref (ad q) :: st) σ := g_get C hd ⟨by omega, by omega⟩ (cfC_X7 hq) rfl inX7 (j := 4) (by decide) hw rfl k
theorem gc_g_X7_coins (C : Good l K D ad 60 E d cc own M) {q : Int} (hq : 20 ≤ q ∧ q < 24) {index : Nat} (hd : decode cc pc = .ok (.getfield index, 3)) (hw : Cond.fieldLink own index "LeastWants$Town" "coins" "[I" ∈ gWs) (k : G M ad 60 (cfC ad K) (pc + 3) lv (.ref (ad (q + 8)) :: st) σ) : G M ad 60 (cfC ad K) pc lv (.ref (ad q) :: st) σ := g_get C hd ⟨by omega, by omega⟩ (cfC_X7 hq) rfl inX7 (j := 5) (by decide) hw rfl k
theorem gc_g_X7_told (C : Good l K D ad 60 E d cc own M) {q : Int} (hq : 20 ≤ q ∧ q < 24) {index : Nat} (hd : decode cc pc = .ok (.getfield index, 3)) (hw : Cond.fieldLink own index "LeastWants$Town" "told" "[I" ∈ gWs) (k : G M ad 60 (cfC ad K) (pc + 3) lv (.ref (ad (q + 12)) :: st) σ) : G M ad 60 (cfC ad K) pc lv (.ref (ad q) :: st) σ := g_get C hd ⟨by omega, by omega⟩ (cfC_X7 hq) rfl inX7 (j := 6) (by decide) hw rfl k
theorem gc_g_X7_holders (C : Good l K D ad 60 E d cc own M) {q : Int} (hq : 20 ≤ q ∧ q < 24) {index : Nat} (hd : decode cc pc = .ok (.getfield index, 3)) (hw : Cond.fieldLink own index "LeastWants$Town" "holders" "[I" ∈ gWs) (k : G M ad 60 (cfC ad K) (pc + 3) lv (.ref (ad (q + 16)) :: st) σ) : G M ad 60 (cfC ad K) pc lv (.ref (ad q) :: st) σ := g_get C hd ⟨by omega, by omega⟩ (cfC_X7 hq) rfl inX7 (j := 7) (by decide) hw rfl k
theorem gc_g_X7_worn (C : Good l K D ad 60 E d cc own M) {q : Int} (hq : 20 ≤ q ∧ q < 24) {index : Nat} (hd : decode cc pc = .ok (.getfield index, 3)) (hw : Cond.fieldLink own index "LeastWants$Town" "worn" "[I" ∈ gWs) (k : G M ad 60 (cfC ad K) (pc + 3) lv (.ref (ad (q + 20)) :: st) σ) : G M ad 60 (cfC ad K) pc lv (.ref (ad q) :: st) σ := g_get C hd ⟨by omega, by omega⟩ (cfC_X7 hq) rfl inX7 (j := 8) (by decide) hw rfl k
theorem gc_call_X7 (C : Good l K D ad 60 E d cc own M) {q : Int} {y : MethodName} {bytes : ByteArray} {maxL n index d0 : Nat} {ret : Option FieldType} {As : List Value} {st0 : List Value} {σ' : Mem} {r : Int} (hd : decode cc pc = .ok (.invokevirtual index, 3)) (hct : CtI l K D ad 60 (cfC ad K) E y bytes maxL ret d0 (.ref (ad q) :: As) σ r σ') (hm : MWv y bytes maxL ret RX7 n) (hl : Cond.methodLink own index y ∈ gWs) (hd1 : d0 + 1 ≤ d) (hml : maxL ≤ 21) (hq : 20 ≤ q ∧ q < 24) (hn : As.length = n) (hst : st0 = As.reverse ++ .ref (ad q) :: st) (hcat : (st.map fun v => v.category).sum ≤ 8) (k : G M ad 60 (cfC ad K) (pc + 3) lv (.int (iI r) :: st) σ') : G M ad 60 (cfC ad K) pc lv st0 σ := g_callV C hd hct hm hl hd1 hml ⟨by omega, by omega⟩ (cfC_X7 hq) rfl hn hst hcat k
theorem gc_callv_X7 (C : Good l K D ad 60 E d cc own M) {q : Int} {y : MethodName} {bytes : ByteArray} {maxL n index d0 : Nat} {ret : Option FieldType} {As : List Value} {st0 : List Value} {σ' : Mem} (hd : decode cc pc = .ok (.invokevirtual index, 3)) (hct : CtV l K D ad 60 (cfC ad K) E y bytes maxL ret d0 (.ref (ad q) :: As) σ σ') (hm : MWv y bytes maxL ret RX7 n) (hl : Cond.methodLink own index y ∈ gWs) (hd1 : d0 + 1 ≤ d) (hml : maxL ≤ 21) (hq : 20 ≤ q ∧ q < 24) (hn : As.length = n) (hst : st0 = As.reverse ++ .ref (ad q) :: st) (hcat : (st.map fun v => v.category).sum ≤ 8) (k : G M ad 60 (cfC ad K) (pc + 3) lv st σ') : G M ad 60 (cfC ad K) pc lv st0 σ := g_callVv C hd hct hm hl hd1 hml ⟨by omega, by omega⟩ (cfC_X7 hq) rfl hn hst hcat k
theorem gc_g_X5_items (C : Good l K D ad 60 E d cc own M) {q : Int} (hq : 44 ≤ q ∧ q < 52) {index : Nat} (hd : decode cc pc = .ok (.getfield index, 3)) (hw : Cond.fieldLink own index "LeastWants$Row" "items" "[I" ∈ gWs) (k : G M ad 60 (cfC ad K) (pc + 3) lv (.ref (ad (q + 8)) :: st) σ) : G M ad 60 (cfC ad K) pc lv (.ref (ad q) :: st) σ := g_get C hd ⟨by omega, by omega⟩ (cfC_X5 hq) rfl inX5 (j := 0) (by decide) hw rfl k
theorem gc_g_X5_missing (C : Good l K D ad 60 E d cc own M) {q : Int} (hq : 44 ≤ q ∧ q < 52) {index : Nat} (hd : decode cc pc = .ok (.getfield index, 3)) (hw : Cond.fieldLink own index "LeastWants$Row" "missing" "Z" ∈ gWs) (k : G M ad 60 (cfC ad K) (pc + 3) lv (.int (iI (σ q 1)) :: st) σ) : G M ad 60 (cfC ad K) pc lv (.ref (ad q) :: st) σ := g_get C hd ⟨by omega, by omega⟩ (cfC_X5 hq) rfl inX5 (j := 1) (by decide) hw rfl k
theorem gc_p_X5_missing (C : Good l K D ad 60 E d cc own M) {q : Int} (hq : 44 ≤ q ∧ q < 52) {index : Nat} {x : Int} (hx : x = 0 ∨ x = 1) (hd : decode cc pc = .ok (.putfield index, 3)) (hw : Cond.fieldLink own index "LeastWants$Row" "missing" "Z" ∈ gWs) (k : G M ad 60 (cfC ad K) (pc + 3) lv st (mu σ q 1 x)) : G M ad 60 (cfC ad K) pc lv (.int (iI x) :: .ref (ad q) :: st) σ := g_put C (ru (σ q) 1 x) hd ⟨by omega, by omega⟩ (cfC_X5 hq) ((cfC_X5 hq).trans rfl) rfl inX5 tyX5_ok nmX5 (j := 1) (ty := .boolean) (by decide) hw rfl (by decide +kernel) (by rcases hx with rfl | rfl <;> rfl) (by rcases hx with rfl | rfl <;> rfl) (Nat.le_of_ble_eq_true rfl) k
theorem gc_g_X5_lane (C : Good l K D ad 60 E d cc own M) {q : Int} (hq : 44 ≤ q ∧ q < 52) {index : Nat} (hd : decode cc pc = .ok (.getfield index, 3)) (hw : Cond.fieldLink own index "LeastWants$Row" "lane" "I" ∈ gWs) (k : G M ad 60 (cfC ad K) (pc + 3) lv (.int (iI (σ q 2)) :: st) σ) : G M ad 60 (cfC ad K) pc lv (.ref (ad q) :: st) σ := g_get C hd ⟨by omega, by omega⟩ (cfC_X5 hq) rfl inX5 (j := 2) (by decide) hw rfl k
theorem gc_p_X5_lane (C : Good l K D ad 60 E d cc own M) {q : Int} (hq : 44 ≤ q ∧ q < 52) {index : Nat} {x : Int} (hd : decode cc pc = .ok (.putfield index, 3)) (hw : Cond.fieldLink own index "LeastWants$Row" "lane" "I" ∈ gWs) (k : G M ad 60 (cfC ad K) (pc + 3) lv st (mu σ q 2 x)) : G M ad 60 (cfC ad K) pc lv (.int (iI x) :: .ref (ad q) :: st) σ := g_put C (ru (σ q) 2 x) hd ⟨by omega, by omega⟩ (cfC_X5 hq) ((cfC_X5 hq).trans rfl) rfl inX5 tyX5_ok nmX5 (j := 2) (ty := .int) (by decide) hw rfl (by decide +kernel) rfl rfl (Nat.le_of_ble_eq_true rfl) k
theorem gc_g_X5_length (C : Good l K D ad 60 E d cc own M) {q : Int} (hq : 44 ≤ q ∧ q < 52) {index : Nat} (hd : decode cc pc = .ok (.getfield index, 3)) (hw : Cond.fieldLink own index "LeastWants$Row" "length" "I" ∈ gWs) (k : G M ad 60 (cfC ad K) (pc + 3) lv (.int (iI (σ q 3)) :: st) σ) : G M ad 60 (cfC ad K) pc lv (.ref (ad q) :: st) σ := g_get C hd ⟨by omega, by omega⟩ (cfC_X5 hq) rfl inX5 (j := 3) (by decide) hw rfl k
theorem gc_p_X5_length (C : Good l K D ad 60 E d cc own M) {q : Int} (hq : 44 ≤ q ∧ q < 52) {index : Nat} {x : Int} (hd : decode cc pc = .ok (.putfield index, 3)) (hw : Cond.fieldLink own index "LeastWants$Row" "length" "I" ∈ gWs) (k : G M ad 60 (cfC ad K) (pc + 3) lv st (mu σ q 3 x)) : G M ad 60 (cfC ad K) pc lv (.int (iI x) :: .ref (ad q) :: st) σ := g_put C (ru (σ q) 3 x) hd ⟨by omega, by omega⟩ (cfC_X5 hq) ((cfC_X5 hq).trans rfl) rfl inX5 tyX5_ok nmX5 (j := 3) (ty := .int) (by decide) hw rfl (by decide +kernel) rfl rfl (Nat.le_of_ble_eq_true rfl) k
theorem gc_call_X5 (C : Good l K D ad 60 E d cc own M) {q : Int} {y : MethodName} {bytes : ByteArray} {maxL n index d0 : Nat} {ret : Option FieldType} {As : List Value} {st0 : List Value} {σ' : Mem} {r : Int} (hd : decode cc pc = .ok (.invokevirtual index, 3)) (hct : CtI l K D ad 60 (cfC ad K) E y bytes maxL ret d0 (.ref (ad q) :: As) σ r σ') (hm : MWv y bytes maxL ret RX5 n) (hl : Cond.methodLink own index y ∈ gWs) (hd1 : d0 + 1 ≤ d) (hml : maxL ≤ 21) (hq : 44 ≤ q ∧ q < 52) (hn : As.length = n) (hst : st0 = As.reverse ++ .ref (ad q) :: st) (hcat : (st.map fun v => v.category).sum ≤ 8) (k : G M ad 60 (cfC ad K) (pc + 3) lv (.int (iI r) :: st) σ') : G M ad 60 (cfC ad K) pc lv st0 σ := g_callV C hd hct hm hl hd1 hml ⟨by omega, by omega⟩ (cfC_X5 hq) rfl hn hst hcat k
theorem gc_callv_X5 (C : Good l K D ad 60 E d cc own M) {q : Int} {y : MethodName} {bytes : ByteArray} {maxL n index d0 : Nat} {ret : Option FieldType} {As : List Value} {st0 : List Value} {σ' : Mem} (hd : decode cc pc = .ok (.invokevirtual index, 3)) (hct : CtV l K D ad 60 (cfC ad K) E y bytes maxL ret d0 (.ref (ad q) :: As) σ σ') (hm : MWv y bytes maxL ret RX5 n) (hl : Cond.methodLink own index y ∈ gWs) (hd1 : d0 + 1 ≤ d) (hml : maxL ≤ 21) (hq : 44 ≤ q ∧ q < 52) (hn : As.length = n) (hst : st0 = As.reverse ++ .ref (ad q) :: st) (hcat : (st.map fun v => v.category).sum ≤ 8) (k : G M ad 60 (cfC ad K) (pc + 3) lv st σ') : G M ad 60 (cfC ad K) pc lv st0 σ := g_callVv C hd hct hm hl hd1 hml ⟨by omega, by omega⟩ (cfC_X5 hq) rfl hn hst hcat k
theorem gc_l_tape (C : Good l K D ad 60 E d cc own M) {a : Int} (hd : decode cc pc = .ok (.iaload, 1)) (h0 : 0 ≤ a) (h1 : a < 400) (k : G M ad 60 (cfC ad K) (pc + 1) lv (.int (iI (σ 4 a)) :: st) σ) : G M ad 60 (cfC ad K) pc lv (.int (iI a) :: .ref (ad 4) :: st) σ := g_iald C hd ⟨by omega, by omega⟩ (fun _ => cfC_tape) h0 h1 ⟨by omega, by omega⟩ k
theorem gc_s_tape (C : Good l K D ad 60 E d cc own M) {a x : Int} (hd : decode cc pc = .ok (.iastore, 1)) (h0 : 0 ≤ a) (h1 : a < 400) (k : G M ad 60 (cfC ad K) (pc + 1) lv st (mu σ 4 a x)) : G M ad 60 (cfC ad K) pc lv (.int (iI x) :: .int (iI a) :: .ref (ad 4) :: st) σ := g_iast C hd ⟨by omega, by omega⟩ (fun _ => cfC_tape) h0 h1 ⟨by omega, by omega⟩ k
theorem gc_l_athings (C : Good l K D ad 60 E d cc own M) {a : Int} (hd : decode cc pc = .ok (.iaload, 1)) (h0 : 0 ≤ a) (h1 : a < 24) (k : G M ad 60 (cfC ad K) (pc + 1) lv (.int (iI (σ 6 a)) :: st) σ) : G M ad 60 (cfC ad K) pc lv (.int (iI a) :: .ref (ad 6) :: st) σ := g_iald C hd ⟨by omega, by omega⟩ (fun _ => cfC_athings) h0 h1 ⟨by omega, by omega⟩ k
theorem gc_s_athings (C : Good l K D ad 60 E d cc own M) {a x : Int} (hd : decode cc pc = .ok (.iastore, 1)) (h0 : 0 ≤ a) (h1 : a < 24) (k : G M ad 60 (cfC ad K) (pc + 1) lv st (mu σ 6 a x)) : G M ad 60 (cfC ad K) pc lv (.int (iI x) :: .int (iI a) :: .ref (ad 6) :: st) σ := g_iast C hd ⟨by omega, by omega⟩ (fun _ => cfC_athings) h0 h1 ⟨by omega, by omega⟩ k
theorem gc_l_aholders (C : Good l K D ad 60 E d cc own M) {a : Int} (hd : decode cc pc = .ok (.iaload, 1)) (h0 : 0 ≤ a) (h1 : a < 24) (k : G M ad 60 (cfC ad K) (pc + 1) lv (.int (iI (σ 7 a)) :: st) σ) : G M ad 60 (cfC ad K) pc lv (.int (iI a) :: .ref (ad 7) :: st) σ := g_iald C hd ⟨by omega, by omega⟩ (fun _ => cfC_aholders) h0 h1 ⟨by omega, by omega⟩ k
theorem gc_s_aholders (C : Good l K D ad 60 E d cc own M) {a x : Int} (hd : decode cc pc = .ok (.iastore, 1)) (h0 : 0 ≤ a) (h1 : a < 24) (k : G M ad 60 (cfC ad K) (pc + 1) lv st (mu σ 7 a x)) : G M ad 60 (cfC ad K) pc lv (.int (iI x) :: .int (iI a) :: .ref (ad 7) :: st) σ := g_iast C hd ⟨by omega, by omega⟩ (fun _ => cfC_aholders) h0 h1 ⟨by omega, by omega⟩ k
theorem gc_l_aworn (C : Good l K D ad 60 E d cc own M) {a : Int} (hd : decode cc pc = .ok (.iaload, 1)) (h0 : 0 ≤ a) (h1 : a < 24) (k : G M ad 60 (cfC ad K) (pc + 1) lv (.int (iI (σ 8 a)) :: st) σ) : G M ad 60 (cfC ad K) pc lv (.int (iI a) :: .ref (ad 8) :: st) σ := g_iald C hd ⟨by omega, by omega⟩ (fun _ => cfC_aworn) h0 h1 ⟨by omega, by omega⟩ k
theorem gc_s_aworn (C : Good l K D ad 60 E d cc own M) {a x : Int} (hd : decode cc pc = .ok (.iastore, 1)) (h0 : 0 ≤ a) (h1 : a < 24) (k : G M ad 60 (cfC ad K) (pc + 1) lv st (mu σ 8 a x)) : G M ad 60 (cfC ad K) pc lv (.int (iI x) :: .int (iI a) :: .ref (ad 8) :: st) σ := g_iast C hd ⟨by omega, by omega⟩ (fun _ => cfC_aworn) h0 h1 ⟨by omega, by omega⟩ k
theorem gc_l_acoins (C : Good l K D ad 60 E d cc own M) {a : Int} (hd : decode cc pc = .ok (.iaload, 1)) (h0 : 0 ≤ a) (h1 : a < 96) (k : G M ad 60 (cfC ad K) (pc + 1) lv (.int (iI (σ 9 a)) :: st) σ) : G M ad 60 (cfC ad K) pc lv (.int (iI a) :: .ref (ad 9) :: st) σ := g_iald C hd ⟨by omega, by omega⟩ (fun _ => cfC_acoins) h0 h1 ⟨by omega, by omega⟩ k
theorem gc_s_acoins (C : Good l K D ad 60 E d cc own M) {a x : Int} (hd : decode cc pc = .ok (.iastore, 1)) (h0 : 0 ≤ a) (h1 : a < 96) (k : G M ad 60 (cfC ad K) (pc + 1) lv st (mu σ 9 a x)) : G M ad 60 (cfC ad K) pc lv (.int (iI x) :: .int (iI a) :: .ref (ad 9) :: st) σ := g_iast C hd ⟨by omega, by omega⟩ (fun _ => cfC_acoins) h0 h1 ⟨by omega, by omega⟩ k
theorem gc_l_said (C : Good l K D ad 60 E d cc own M) {q : Int} (hq : q = 11 ∨ q = 16) {a : Int} (hd : decode cc pc = .ok (.iaload, 1)) (h0 : 0 ≤ a) (h1 : a < 4) (k : G M ad 60 (cfC ad K) (pc + 1) lv (.int (iI (σ q a)) :: st) σ) : G M ad 60 (cfC ad K) pc lv (.int (iI a) :: .ref (ad q) :: st) σ := g_iald C hd ⟨by omega, by omega⟩ (fun _ => cfC_said hq) h0 h1 ⟨by omega, by omega⟩ k
theorem gc_s_said (C : Good l K D ad 60 E d cc own M) {q : Int} (hq : q = 11 ∨ q = 16) {a x : Int} (hd : decode cc pc = .ok (.iastore, 1)) (h0 : 0 ≤ a) (h1 : a < 4) (k : G M ad 60 (cfC ad K) (pc + 1) lv st (mu σ q a x)) : G M ad 60 (cfC ad K) pc lv (.int (iI x) :: .int (iI a) :: .ref (ad q) :: st) σ := g_iast C hd ⟨by omega, by omega⟩ (fun _ => cfC_said hq) h0 h1 ⟨by omega, by omega⟩ k
theorem gc_l_firstRest (C : Good l K D ad 60 E d cc own M) {a : Int} (hd : decode cc pc = .ok (.iaload, 1)) (h0 : 0 ≤ a) (h1 : a < 4) (k : G M ad 60 (cfC ad K) (pc + 1) lv (.int (iI (σ 14 a)) :: st) σ) : G M ad 60 (cfC ad K) pc lv (.int (iI a) :: .ref (ad 14) :: st) σ := g_iald C hd ⟨by omega, by omega⟩ (fun _ => cfC_firstRest) h0 h1 ⟨by omega, by omega⟩ k
theorem gc_s_firstRest (C : Good l K D ad 60 E d cc own M) {a x : Int} (hd : decode cc pc = .ok (.iastore, 1)) (h0 : 0 ≤ a) (h1 : a < 4) (k : G M ad 60 (cfC ad K) (pc + 1) lv st (mu σ 14 a x)) : G M ad 60 (cfC ad K) pc lv (.int (iI x) :: .int (iI a) :: .ref (ad 14) :: st) σ := g_iast C hd ⟨by omega, by omega⟩ (fun _ => cfC_firstRest) h0 h1 ⟨by omega, by omega⟩ k
theorem gc_l_trail (C : Good l K D ad 60 E d cc own M) {a : Int} (hd : decode cc pc = .ok (.iaload, 1)) (h0 : 0 ≤ a) (h1 : a < 16) (k : G M ad 60 (cfC ad K) (pc + 1) lv (.int (iI (σ 19 a)) :: st) σ) : G M ad 60 (cfC ad K) pc lv (.int (iI a) :: .ref (ad 19) :: st) σ := g_iald C hd ⟨by omega, by omega⟩ (fun _ => cfC_trail) h0 h1 ⟨by omega, by omega⟩ k
theorem gc_s_trail (C : Good l K D ad 60 E d cc own M) {a x : Int} (hd : decode cc pc = .ok (.iastore, 1)) (h0 : 0 ≤ a) (h1 : a < 16) (k : G M ad 60 (cfC ad K) (pc + 1) lv st (mu σ 19 a x)) : G M ad 60 (cfC ad K) pc lv (.int (iI x) :: .int (iI a) :: .ref (ad 19) :: st) σ := g_iast C hd ⟨by omega, by omega⟩ (fun _ => cfC_trail) h0 h1 ⟨by omega, by omega⟩ k
theorem gc_l_kinds (C : Good l K D ad 60 E d cc own M) {q : Int} (hq : 24 ≤ q ∧ q < 28) {a : Int} (hd : decode cc pc = .ok (.iaload, 1)) (h0 : 0 ≤ a) (h1 : a < 4) (k : G M ad 60 (cfC ad K) (pc + 1) lv (.int (iI (σ q a)) :: st) σ) : G M ad 60 (cfC ad K) pc lv (.int (iI a) :: .ref (ad q) :: st) σ := g_iald C hd ⟨by omega, by omega⟩ (fun _ => cfC_kinds hq) h0 h1 ⟨by omega, by omega⟩ k
theorem gc_s_kinds (C : Good l K D ad 60 E d cc own M) {q : Int} (hq : 24 ≤ q ∧ q < 28) {a x : Int} (hd : decode cc pc = .ok (.iastore, 1)) (h0 : 0 ≤ a) (h1 : a < 4) (k : G M ad 60 (cfC ad K) (pc + 1) lv st (mu σ q a x)) : G M ad 60 (cfC ad K) pc lv (.int (iI x) :: .int (iI a) :: .ref (ad q) :: st) σ := g_iast C hd ⟨by omega, by omega⟩ (fun _ => cfC_kinds hq) h0 h1 ⟨by omega, by omega⟩ k
theorem gc_l_coins (C : Good l K D ad 60 E d cc own M) {q : Int} (hq : 28 ≤ q ∧ q < 32) {a : Int} (hd : decode cc pc = .ok (.iaload, 1)) (h0 : 0 ≤ a) (h1 : a < 4) (k : G M ad 60 (cfC ad K) (pc + 1) lv (.int (iI (σ q a)) :: st) σ) : G M ad 60 (cfC ad K) pc lv (.int (iI a) :: .ref (ad q) :: st) σ := g_iald C hd ⟨by omega, by omega⟩ (fun _ => cfC_coins hq) h0 h1 ⟨by omega, by omega⟩ k
theorem gc_s_coins (C : Good l K D ad 60 E d cc own M) {q : Int} (hq : 28 ≤ q ∧ q < 32) {a x : Int} (hd : decode cc pc = .ok (.iastore, 1)) (h0 : 0 ≤ a) (h1 : a < 4) (k : G M ad 60 (cfC ad K) (pc + 1) lv st (mu σ q a x)) : G M ad 60 (cfC ad K) pc lv (.int (iI x) :: .int (iI a) :: .ref (ad q) :: st) σ := g_iast C hd ⟨by omega, by omega⟩ (fun _ => cfC_coins hq) h0 h1 ⟨by omega, by omega⟩ k
theorem gc_l_told (C : Good l K D ad 60 E d cc own M) {q : Int} (hq : 32 ≤ q ∧ q < 36) {a : Int} (hd : decode cc pc = .ok (.iaload, 1)) (h0 : 0 ≤ a) (h1 : a < 20) (k : G M ad 60 (cfC ad K) (pc + 1) lv (.int (iI (σ q a)) :: st) σ) : G M ad 60 (cfC ad K) pc lv (.int (iI a) :: .ref (ad q) :: st) σ := g_iald C hd ⟨by omega, by omega⟩ (fun _ => cfC_told hq) h0 h1 ⟨by omega, by omega⟩ k
theorem gc_s_told (C : Good l K D ad 60 E d cc own M) {q : Int} (hq : 32 ≤ q ∧ q < 36) {a x : Int} (hd : decode cc pc = .ok (.iastore, 1)) (h0 : 0 ≤ a) (h1 : a < 20) (k : G M ad 60 (cfC ad K) (pc + 1) lv st (mu σ q a x)) : G M ad 60 (cfC ad K) pc lv (.int (iI x) :: .int (iI a) :: .ref (ad q) :: st) σ := g_iast C hd ⟨by omega, by omega⟩ (fun _ => cfC_told hq) h0 h1 ⟨by omega, by omega⟩ k
theorem gc_l_holders (C : Good l K D ad 60 E d cc own M) {q : Int} (hq : 36 ≤ q ∧ q < 40) {a : Int} (hd : decode cc pc = .ok (.iaload, 1)) (h0 : 0 ≤ a) (h1 : a < 5) (k : G M ad 60 (cfC ad K) (pc + 1) lv (.int (iI (σ q a)) :: st) σ) : G M ad 60 (cfC ad K) pc lv (.int (iI a) :: .ref (ad q) :: st) σ := g_iald C hd ⟨by omega, by omega⟩ (fun _ => cfC_holders hq) h0 h1 ⟨by omega, by omega⟩ k
theorem gc_s_holders (C : Good l K D ad 60 E d cc own M) {q : Int} (hq : 36 ≤ q ∧ q < 40) {a x : Int} (hd : decode cc pc = .ok (.iastore, 1)) (h0 : 0 ≤ a) (h1 : a < 5) (k : G M ad 60 (cfC ad K) (pc + 1) lv st (mu σ q a x)) : G M ad 60 (cfC ad K) pc lv (.int (iI x) :: .int (iI a) :: .ref (ad q) :: st) σ := g_iast C hd ⟨by omega, by omega⟩ (fun _ => cfC_holders hq) h0 h1 ⟨by omega, by omega⟩ k
theorem gc_l_worn (C : Good l K D ad 60 E d cc own M) {q : Int} (hq : 40 ≤ q ∧ q < 44) {a : Int} (hd : decode cc pc = .ok (.iaload, 1)) (h0 : 0 ≤ a) (h1 : a < 5) (k : G M ad 60 (cfC ad K) (pc + 1) lv (.int (iI (σ q a)) :: st) σ) : G M ad 60 (cfC ad K) pc lv (.int (iI a) :: .ref (ad q) :: st) σ := g_iald C hd ⟨by omega, by omega⟩ (fun _ => cfC_worn hq) h0 h1 ⟨by omega, by omega⟩ k
theorem gc_s_worn (C : Good l K D ad 60 E d cc own M) {q : Int} (hq : 40 ≤ q ∧ q < 44) {a x : Int} (hd : decode cc pc = .ok (.iastore, 1)) (h0 : 0 ≤ a) (h1 : a < 5) (k : G M ad 60 (cfC ad K) (pc + 1) lv st (mu σ q a x)) : G M ad 60 (cfC ad K) pc lv (.int (iI x) :: .int (iI a) :: .ref (ad q) :: st) σ := g_iast C hd ⟨by omega, by omega⟩ (fun _ => cfC_worn hq) h0 h1 ⟨by omega, by omega⟩ k
theorem gc_l_items (C : Good l K D ad 60 E d cc own M) {q : Int} (hq : 52 ≤ q ∧ q < 60) {a : Int} (hd : decode cc pc = .ok (.iaload, 1)) (h0 : 0 ≤ a) (h1 : a < 40) (k : G M ad 60 (cfC ad K) (pc + 1) lv (.int (iI (σ q a)) :: st) σ) : G M ad 60 (cfC ad K) pc lv (.int (iI a) :: .ref (ad q) :: st) σ := g_iald C hd ⟨by omega, by omega⟩ (fun _ => cfC_items hq) h0 h1 ⟨by omega, by omega⟩ k
theorem gc_s_items (C : Good l K D ad 60 E d cc own M) {q : Int} (hq : 52 ≤ q ∧ q < 60) {a x : Int} (hd : decode cc pc = .ok (.iastore, 1)) (h0 : 0 ≤ a) (h1 : a < 40) (k : G M ad 60 (cfC ad K) (pc + 1) lv st (mu σ q a x)) : G M ad 60 (cfC ad K) pc lv (.int (iI x) :: .int (iI a) :: .ref (ad q) :: st) σ := g_iast C hd ⟨by omega, by omega⟩ (fun _ => cfC_items hq) h0 h1 ⟨by omega, by omega⟩ k
theorem gc_a_rows (C : Good l K D ad 60 E d cc own M) {a : Int} (hd : decode cc pc = .ok (.aaload, 1)) (h0 : 0 ≤ a) (h1 : a < 8) (k : G M ad 60 (cfC ad K) (pc + 1) lv (.ref (ad (44 + a)) :: st) σ) : G M ad 60 (cfC ad K) pc lv (.int (iI a) :: .ref (ad 1) :: st) σ := g_aald C (ad (44 + a)) hd ⟨by omega, by omega⟩ cfC_rows (t := 2) rfl h0 h1 ⟨by omega, by omega⟩ (by rw [Int.toNat_of_nonneg h0]) k
theorem gc_a_images (C : Good l K D ad 60 E d cc own M) {a : Int} (hd : decode cc pc = .ok (.aaload, 1)) (h0 : 0 ≤ a) (h1 : a < 2) (k : G M ad 60 (cfC ad K) (pc + 1) lv (.ref (ad (20 + a)) :: st) σ) : G M ad 60 (cfC ad K) pc lv (.int (iI a) :: .ref (ad 2) :: st) σ := g_aald C (ad (20 + a)) hd ⟨by omega, by omega⟩ cfC_images (t := 3) rfl h0 h1 ⟨by omega, by omega⟩ (by rw [Int.toNat_of_nonneg h0]) k
theorem gc_n_rows (C : Good l K D ad 60 E d cc own M) (hd : decode cc pc = .ok (.arraylength, 1)) (k : G M ad 60 (cfC ad K) (pc + 1) lv (.int (iI 8) :: st) σ) : G M ad 60 (cfC ad K) pc lv (.ref (ad 1) :: st) σ := g_alen C hd ⟨by omega, by omega⟩ cfC_rows (t := 2) rfl rfl k
theorem g_cR {M : GM} {ad : Int → Nat} {NC : Nat} {cf : Int → (Int → Int) → va_E} {pc : Nat} {lv : List (Nat × Value)} {st : List Value} {σ : Mem} {a b : Int} (h : a = b) (k : G M ad NC cf pc lv (.ref (ad b) :: st) σ) : G M ad NC cf pc lv (.ref (ad a) :: st) σ := by rw [h]; exact k
theorem gc_g_X6_said_10 (C : Good l K D ad 60 E d cc own M) {index : Nat} (hd : decode cc pc = .ok (.getfield index, 3)) (hw : Cond.fieldLink own index "LeastWants$Sayings" "said" "[I" ∈ gWs) (k : G M ad 60 (cfC ad K) (pc + 3) lv (.ref (ad 11) :: st) σ) : G M ad 60 (cfC ad K) pc lv (.ref (ad 10) :: st) σ := gc_g_X6_said C (by omega) hd hw k
theorem gc_g_X6_said_15 (C : Good l K D ad 60 E d cc own M) {index : Nat} (hd : decode cc pc = .ok (.getfield index, 3)) (hw : Cond.fieldLink own index "LeastWants$Sayings" "said" "[I" ∈ gWs) (k : G M ad 60 (cfC ad K) (pc + 3) lv (.ref (ad 16) :: st) σ) : G M ad 60 (cfC ad K) pc lv (.ref (ad 15) :: st) σ := gc_g_X6_said C (by omega) hd hw k
end WC
end
section
/-! THE REFERENCE'S METHODS, AS FUNCTIONS: T the town's row, f the sayings -/
def leaF (f : Int → Int) (but : Int) : Nat → Int
  | 0 => -1000000
  | i + 1 => if ¬ (i : Int) = but ∧ (leaF f but i = -1000000 ∨ f i < leaF f but i) then f i else leaF f but i
def leaB (f : Int → Int) (n : Int) (but : Int) : Int := if leaF f but n.toNat = -1000000 then 0 else leaF f but n.toNat
def likF (f : Int → Int) (v : Int) : Nat → Int
  | 0 => 0
  | i + 1 => likF f v i + (if f i = v then 1 else 0)
def likO (f : Int → Int) (n : Int) : Int := likF f (leaB f n (-1000000)) n.toNat
def coiB (fee n : Int) (f : Int → Int) (pays p to : Int) : Int :=
  if pays = 3 then (if p = to then fee * (n - 1) else -fee) else if ¬ p = to ∨ pays = 0 then 0 else if pays = 1 then -(fee * leaB f n to) else fee * leaB f n to
def woF (T : Int → Int) (t p : Int) : Int := T (12 + 6 * t + p) - 30 - 2 * T (12 + 6 * t + 5)
def clF (x : Int) : Int := if x < 0 then 0 else if 5 < x then 5 else x
def owF (T : Int → Int) (t p : Int) : Int :=
  if T (4 + p) = 2 then 5 - clF ((30 + woF T t p).tdiv 10) else if T (4 + p) = 3 then (if clF ((30 + woF T t p).tdiv 10) = 0 then 0 else clF ((30 + woF T t p).tdiv 10) - 1) else if T (4 + p) = 4 then (if clF ((30 + woF T t p).tdiv 10) < 3 then 3 else clF ((30 + woF T t p).tdiv 10)) else if T (4 + p) = 5 then 0 else clF ((30 + woF T t p).tdiv 10)
def gaiF (fee n : Int) (f : Int → Int) (w : Int) (pays p : Int) : Nat → Int
  | 0 => 0
  | i + 1 => gaiF fee n f w pays p i + (if f i = leaB f n (-1000000) then coiB fee n f pays p i + (if p = (i : Int) then w else 0) else 0)
def gaiB (fee n : Int) (f : Int → Int) (w : Int) (pays p : Int) : Int := gaiF fee n f w pays p n.toNat * (12 : Int).tdiv (likO f n)
def mosF (g : Int → Int) : Nat → Int
  | 0 => -1000000
  | i + 1 => if mosF g i < g i then g i else mosF g i
def besF (g : Int → Int) : Nat → Int
  | 0 => 0
  | i + 1 => if mosF g i < g i then i else besF g i
def besB (fee n : Int) (f : Int → Int) (w : Int) (pays p : Int) : Int := besF (fun v => gaiB fee n (ru f p v) w pays p) 6
def resF (T f : Int → Int) (pays t : Int) : Nat → Int
  | 0 => 1
  | i + 1 => if resF T f pays t i = 1 ∧ gaiB (T 1) (T 2) (ru f i (besB (T 1) (T 2) f (woF T t i) pays i)) (woF T t i) pays i ≤ gaiB (T 1) (T 2) f (woF T t i) pays i then 1 else 0
def lefF (f : Int → Int) (v l0 : Int) : Nat → Int
  | 0 => l0
  | i + 1 => if f i = v then lefF f v l0 i - 1 else lefF f v l0 i
def toF (f : Int → Int) (v l0 : Int) : Nat → Int
  | 0 => -1000000
  | i + 1 => if f i = v ∧ lefF f v l0 i = 0 then i else toF f v l0 i
def fbF (g : Int → Int) : Nat → Int
  | 0 => 0
  | i + 1 => if fbF g i = i then (if 0 ≤ g i ∧ g i ≤ 5 then (i : Int) + 1 else i) else fbF g i
def extF (T : Int → Int) (t s : Int) : Nat → Int
  | 0 => 0
  | i + 1 => if s * woF T t ((i : Int) + 1) < s * woF T t (extF T t s i) then (i : Int) + 1 else extF T t s i
def thoF (T : Int → Int) (p : Int) : Nat → Int
  | 0 => 0
  | i + 1 => thoF T p i + (if T (12 + 6 * (i : Int) + 4) = p then 1 else 0)
/-! facts -/
def SW (n : Int) (f : Int → Int) : Prop := ∀ p : Int, 0 ≤ p → p < n → 0 ≤ f p ∧ f p ≤ 5
theorem leaF_in {f : Int → Int} {n but : Int} (h : SW n f) : ∀ i : Nat, (i : Int) ≤ n → leaF f but i = -1000000 ∨ (0 ≤ leaF f but i ∧ leaF f but i ≤ 5)
  | 0, _ => Or.inl rfl
  | i + 1, hi => by
    have ih := leaF_in h (but := but) i (by omega)
    have hf := h i (by omega) (by omega)
    simp only [leaF]
    split
    · exact Or.inr hf
    · exact ih
theorem leaB_in {f : Int → Int} {n but : Int} (h : SW n f) (hn : 0 ≤ n ∧ n ≤ 4) : 0 ≤ leaB f n but ∧ leaB f n but ≤ 5 := by
  have := leaF_in h (but := but) n.toNat (by omega)
  unfold leaB
  split <;> omega
theorem likF_in {f : Int → Int} {v : Int} : ∀ i : Nat, 0 ≤ likF f v i ∧ likF f v i ≤ i
  | 0 => ⟨by simp [likF], by simp [likF]⟩
  | i + 1 => by
    have ih := likF_in (f := f) (v := v) i
    simp only [likF]
    split <;> omega
theorem leaF_at {f : Int → Int} {n : Int} (h : SW n f) : ∀ i : Nat, 1 ≤ i → (i : Int) ≤ n → leaF f (-1000000) i ≠ -1000000 ∧ 1 ≤ likF f (leaF f (-1000000) i) i
  | 0, h0, _ => absurd h0 (by omega)
  | i + 1, _, hi => by
    have hf := h i (by omega) (by omega)
    by_cases h0 : i = 0
    · subst h0
      simp [leaF, likF]
      have := h 0 (by omega) (by omega)
      omega
    · have ih := leaF_at h i (by omega) (by omega)
      have hm := likF_in (f := f) (v := f i) i
      have e : leaF f (-1000000) (i + 1) = if ¬ (i : Int) = -1000000 ∧ (leaF f (-1000000) i = -1000000 ∨ f i < leaF f (-1000000) i) then f i else leaF f (-1000000) i := rfl
      rw [e]
      split
      · refine ⟨by omega, ?_⟩
        simp only [likF, if_true]
        omega
      · refine ⟨ih.1, ?_⟩
        simp only [likF]
        split <;> omega
theorem likO_in {f : Int → Int} {n : Int} (h : SW n f) (hn : 1 ≤ n ∧ n ≤ 4) : 1 ≤ likO f n ∧ likO f n ≤ n := by
  have h1 := leaF_at h n.toNat (by omega) (by omega)
  have h2 := likF_in (f := f) (v := leaB f n (-1000000)) n.toNat
  have e : leaB f n (-1000000) = leaF f (-1000000) n.toNat := by unfold leaB; rw [if_neg h1.1]
  unfold likO
  rw [e] at h2 ⊢
  omega
theorem mul_bd {a b A B : Int} (ha : -A ≤ a ∧ a ≤ A) (hb : -B ≤ b ∧ b ≤ B) : -(A * B) ≤ a * b ∧ a * b ≤ A * B := by
  have hA : 0 ≤ A := by omega
  have hB : 0 ≤ B := by omega
  have h1 : (a * b).natAbs ≤ (A * B).natAbs := by
    rw [Int.natAbs_mul, Int.natAbs_mul]
    exact Nat.mul_le_mul (by omega) (by omega)
  have h2 : 0 ≤ A * B := Int.mul_nonneg hA hB
  omega
theorem coiB_in {fee n pays p to : Int} {f : Int → Int} (h : SW n f) (hn : 0 ≤ n ∧ n ≤ 4) (hf : 0 ≤ fee ∧ fee ≤ 20) : -100 ≤ coiB fee n f pays p to ∧ coiB fee n f pays p to ≤ 100 := by
  have h1 := leaB_in h hn (but := to)
  have h2 := mul_bd (a := fee) (b := n - 1) (A := 20) (B := 3) (by omega) (by omega)
  have h3 := mul_bd (a := fee) (b := leaB f n to) (A := 20) (B := 5) (by omega) (by omega)
  unfold coiB
  (repeat' split) <;> omega
theorem gaiF_in {fee n pays p w B : Int} {f : Int → Int} (h : SW n f) (hn : 0 ≤ n ∧ n ≤ 4) (hf : 0 ≤ fee ∧ fee ≤ 20) (hw : -B ≤ w ∧ w ≤ B) : ∀ i : Nat, -((100 + B) * i) ≤ gaiF fee n f w pays p i ∧ gaiF fee n f w pays p i ≤ (100 + B) * i
  | 0 => by simp [gaiF]
  | i + 1 => by
    have ih := gaiF_in h hn hf hw (pays := pays) (p := p) i
    have h1 := coiB_in h hn hf (pays := pays) (p := p) (to := (i : Int))
    have e : (100 + B) * ((i + 1 : Nat) : Int) = (100 + B) * (i : Int) + (100 + B) := by
      rw [show ((i + 1 : Nat) : Int) = (i : Int) + 1 by omega, Int.mul_add, Int.mul_one]
    rw [e]
    simp only [gaiF]
    (repeat' split) <;> omega
theorem gaiB_in {fee n pays p w : Int} {f : Int → Int} (h : SW n f) (hn : 1 ≤ n ∧ n ≤ 4) (hf : 0 ≤ fee ∧ fee ≤ 20) (hw : -2000 ≤ w ∧ w ≤ 2000) : -100800 ≤ gaiB fee n f w pays p ∧ gaiB fee n f w pays p ≤ 100800 := by
  have h1 := gaiF_in h (by omega : 0 ≤ n ∧ n ≤ 4) hf hw (pays := pays) (p := p) n.toNat
  have h2 := likO_in h hn
  have h3 : 0 ≤ (12 : Int).tdiv (likO f n) ∧ (12 : Int).tdiv (likO f n) ≤ 12 := by
    rcases (show likO f n = 1 ∨ likO f n = 2 ∨ likO f n = 3 ∨ likO f n = 4 by omega) with e | e | e | e <;> rw [e] <;> decide
  have h4 : -8400 ≤ gaiF fee n f w pays p n.toNat ∧ gaiF fee n f w pays p n.toNat ≤ 8400 := by omega
  have h5 := mul_bd (a := gaiF fee n f w pays p n.toNat) (b := (12 : Int).tdiv (likO f n)) (A := 8400) (B := 12) h4 (by omega)
  unfold gaiB
  omega
theorem mosF_in {g : Int → Int} {B : Int} (hB : 0 ≤ B ∧ B ≤ 1000000) (h : ∀ v : Int, 0 ≤ v → v ≤ 5 → -B ≤ g v ∧ g v ≤ B) : ∀ i : Nat, i ≤ 6 → -1000000 ≤ mosF g i ∧ mosF g i ≤ B
  | 0, _ => ⟨by simp [mosF], by simp [mosF]; omega⟩
  | i + 1, hi => by
    have ih := mosF_in hB h i (by omega)
    have h1 := h i (by omega) (by omega)
    simp only [mosF]
    split <;> omega
theorem besF_in {g : Int → Int} : ∀ i : Nat, 0 ≤ besF g i ∧ besF g i ≤ i
  | 0 => ⟨by simp [besF], by simp [besF]⟩
  | i + 1 => by
    have ih := besF_in (g := g) i
    simp only [besF]
    split <;> omega
theorem besF_lt {g : Int → Int} : ∀ i : Nat, besF g (i + 1) ≤ i
  | 0 => by simp [besF]
  | i + 1 => by
    have ih := besF_lt (g := g) i
    have e : besF g (i + 1 + 1) = if mosF g (i + 1) < g ((i + 1 : Nat) : Int) then ((i + 1 : Nat) : Int) else besF g (i + 1) := rfl
    rw [e]
    split <;> omega
theorem besB_in {fee n pays p w : Int} {f : Int → Int} : 0 ≤ besB fee n f w pays p ∧ besB fee n f w pays p ≤ 5 := ⟨(besF_in 6).1, besF_lt 5⟩
theorem ru_in {f : Int → Int} {n p v : Int} (h : SW n f) (hv : 0 ≤ v ∧ v ≤ 5) : SW n (ru f p v) := by
  intro q h0 h1
  unfold ru
  split
  · exact hv
  · exact h q h0 h1
theorem resF_01 (T f : Int → Int) (pays t : Int) : ∀ i : Nat, resF T f pays t i = 0 ∨ resF T f pays t i = 1
  | 0 => Or.inr rfl
  | i + 1 => by
    simp only [resF]
    split
    · exact Or.inr rfl
    · exact Or.inl rfl
theorem resF_0 {T f : Int → Int} {pays t : Int} {i : Nat} (h : resF T f pays t i = 0) : ∀ j : Nat, i ≤ j → resF T f pays t j = 0 := by
  intro j hj
  induction j with
  | zero => rw [show (0 : Nat) = i by omega]; exact h
  | succ j ih =>
    by_cases e : j + 1 = i
    · rw [e]; exact h
    · have := ih (by omega)
      simp only [resF]
      rw [if_neg (fun z => by omega)]
theorem lefF_in {f : Int → Int} {v l0 : Int} : ∀ i : Nat, l0 - i ≤ lefF f v l0 i ∧ lefF f v l0 i ≤ l0
  | 0 => by simp [lefF]
  | i + 1 => by
    have ih := lefF_in (f := f) (v := v) (l0 := l0) i
    simp only [lefF]
    split <;> omega
theorem fbF_in {g : Int → Int} : ∀ i : Nat, 0 ≤ fbF g i ∧ fbF g i ≤ i
  | 0 => by simp [fbF]
  | i + 1 => by
    have ih := fbF_in (g := g) i
    simp only [fbF]
    (repeat' split) <;> omega
/-- the first place that is no saying stays -/
theorem fbF_stay {g : Int → Int} {i : Nat} (h : fbF g i ≠ i) : ∀ j : Nat, i ≤ j → fbF g j = fbF g i := by
  intro j hj
  induction j with
  | zero => rw [show (0 : Nat) = i by omega]
  | succ j ih =>
    by_cases e : j + 1 = i
    · rw [e]
    · have h1 := ih (by omega)
      have h2 := fbF_in (g := g) i
      simp only [fbF]
      rw [if_neg (by omega)]
      exact h1
theorem extF_in {T : Int → Int} {t s : Int} : ∀ i : Nat, 0 ≤ extF T t s i ∧ extF T t s i ≤ i
  | 0 => by simp [extF]
  | i + 1 => by
    have ih := extF_in (T := T) (t := t) (s := s) i
    simp only [extF]
    split <;> omega
theorem thoF_in {T : Int → Int} {p : Int} : ∀ i : Nat, 0 ≤ thoF T p i ∧ thoF T p i ≤ i
  | 0 => by simp [thoF]
  | i + 1 => by
    have ih := thoF_in (T := T) (p := p) i
    simp only [thoF]
    split <;> omega
/-- what always holds of a town's row: B bounds how often a thing was worn -/
def TW (T : Int → Int) : Prop := (0 ≤ T 0 ∧ T 0 ≤ 3) ∧ (0 ≤ T 1 ∧ T 1 ≤ 20) ∧ (0 ≤ T 2 ∧ T 2 ≤ 4) ∧ (0 ≤ T 3 ∧ T 3 ≤ 5) ∧ (∀ p : Int, 0 ≤ p → p < 4 → 0 ≤ T (4 + p) ∧ T (4 + p) ≤ 5) ∧ (∀ t p : Int, 0 ≤ t → t < 5 → 0 ≤ p → p < 4 → 0 ≤ T (12 + 6 * t + p) ∧ T (12 + 6 * t + p) ≤ 60) ∧ (∀ t : Int, 0 ≤ t → t < 5 → -1000000 ≤ T (12 + 6 * t + 4) ∧ T (12 + 6 * t + 4) ≤ 3) ∧ (∀ t : Int, 0 ≤ t → t < 5 → 0 ≤ T (12 + 6 * t + 5) ∧ T (12 + 6 * t + 5) ≤ 600)
theorem woF_in {T : Int → Int} (h : TW T) {t p : Int} (ht : 0 ≤ t ∧ t < 5) (hp : 0 ≤ p ∧ p < 4) : -1230 ≤ woF T t p ∧ woF T t p ≤ 30 := by
  have h1 := h.2.2.2.2.2.1 t p ht.1 ht.2 hp.1 hp.2
  have h2 := h.2.2.2.2.2.2.2 t ht.1 ht.2
  unfold woF
  omega
theorem clF_in (x : Int) : 0 ≤ clF x ∧ clF x ≤ 5 := by unfold clF; (repeat' split) <;> omega
theorem owF_in (T : Int → Int) (t p : Int) : 0 ≤ owF T t p ∧ owF T t p ≤ 5 := by
  have := clF_in ((30 + woF T t p).tdiv 10)
  unfold owF
  (repeat' split) <;> omega
theorem oL2I_s {a : Int} (h : R3 a) : oL2I a = a := by
  unfold oL2I
  rw [Int64.toInt_toInt32, lI_toInt ⟨by omega, by omega⟩]
  exact Int.bmod_eq_of_le (by omega) (by omega)

theorem ru_ru (f : Int → Int) (j v w : Int) : ru (ru f j v) j w = ru f j w := by
  funext x
  unfold ru
  split <;> rfl
def barR (σ : Mem) (r : Int) : Int := if σ 1 r < 0 then -1000011 else if σ 2 r < σ 4 2 then -1000012 else if fbF (fun p => σ 3 (40 * r + p)) (σ 4 2).toNat = σ 4 2 then 0 else -1000001
def barM (σ : Mem) (r : Int) : Mem := if σ 1 r < 0 then mu σ 0 1 1 else if σ 2 r < σ 4 2 then mu σ 0 1 2 else if fbF (fun p => σ 3 (40 * r + p)) (σ 4 2).toNat = σ 4 2 then mu (mr σ 8 (over (σ 8) (fun p => σ 3 (40 * r + p)) 0 (σ 4 2))) 0 1 0 else mr σ 8 (over (σ 8) (fun p => σ 3 (40 * r + p)) 0 (fbF (fun p => σ 3 (40 * r + p)) (σ 4 2).toNat))
abbrev okB (σ : Mem) (r : Int) : Prop := 0 ≤ σ 1 r ∧ σ 4 2 ≤ σ 2 r ∧ fbF (fun p => σ 3 (40 * r + p)) (σ 4 2).toNat = σ 4 2
theorem barR_ok {σ : Mem} {r : Int} (h : okB σ r) : barR σ r = 0 := by
  unfold barR
  rw [if_neg (by have := h.1; omega), if_neg (by have := h.2.1; omega), if_pos h.2.2]
theorem barM_ok {σ : Mem} {r : Int} (h : okB σ r) : barM σ r = mu (mr σ 8 (over (σ 8) (fun p => σ 3 (40 * r + p)) 0 (σ 4 2))) 0 1 0 := by
  unfold barM
  rw [if_neg (by have := h.1; omega), if_neg (by have := h.2.1; omega), if_pos h.2.2]
theorem barR_no {σ : Mem} {r : Int} (h : ¬ okB σ r) : barR σ r < 0 ∧ -1000020 ≤ barR σ r := by
  unfold barR
  (repeat' split) <;> first | omega | (exfalso; exact h ⟨by omega, by omega, by omega⟩)
theorem fbF_all {g : Int → Int} : ∀ i : Nat, fbF g i = i → ∀ p : Int, 0 ≤ p → p < i → 0 ≤ g p ∧ g p ≤ 5
  | 0, _, p, h0, h1 => by omega
  | i + 1, h, p, h0, h1 => by
    have hin := fbF_in (g := g) i
    have e : fbF g (i + 1) = if fbF g i = i then (if 0 ≤ g i ∧ g i ≤ 5 then (i : Int) + 1 else i) else fbF g i := rfl
    rw [e] at h
    by_cases h2 : fbF g i = i
    · rw [if_pos h2] at h
      by_cases h3 : 0 ≤ g i ∧ g i ≤ 5
      · by_cases h4 : p = i
        · rw [h4]; exact h3
        · exact fbF_all i h2 p h0 (by omega)
      · rw [if_neg h3] at h; omega
    · rw [if_neg h2] at h; omega
theorem barSW {σ : Mem} {r : Int} (hp : 0 ≤ σ 4 2) (h : okB σ r) : SW (σ 4 2) (over (σ 8) (fun p => σ 3 (40 * r + p)) 0 (σ 4 2)) := by
  intro p h0 h1
  rw [over_in h0 h1]
  exact fbF_all (σ 4 2).toNat (by rw [h.2.2]; omega) p h0 (by omega)
theorem fbF_bad {g : Int → Int} {i N : Nat} (h : fbF g i = i) (hb : ¬ (0 ≤ g i ∧ g i ≤ 5)) (hN : i < N) : fbF g N = i := by
  have e : fbF g (i + 1) = i := by
    simp only [fbF]
    rw [if_pos h, if_neg hb]
  rw [fbF_stay (i := i + 1) (by omega) N (by omega), e]

def kepF (σ : Mem) : Int → Int := if σ 0 8 = 24 then over (over (σ 6) (fun k => σ 6 (k + 42)) 0 966) (fun k => σ 4 (k - 42 * (σ 0 8 - 1))) (42 * (σ 0 8 - 1)) (42 * (σ 0 8 - 1) + 42) else over (σ 6) (fun k => σ 4 (k - 42 * σ 0 8)) (42 * σ 0 8) (42 * σ 0 8 + 42)
def kepN (σ : Mem) : Int := if σ 0 8 = 24 then σ 0 8 - 1 + 1 else σ 0 8 + 1
theorem mr_mu_c {σ : Mem} {k k' j v : Int} {f : Int → Int} (h : k ≠ k') : mr (mu σ k j v) k' f = mu (mr σ k' f) k j v := by
  funext a b
  simp only [mu_app, mr_app]
  by_cases h1 : a = k' <;> by_cases h2 : a = k ∧ b = j <;> simp [h1, h2] <;> (intro h3; omega)
def sedF (seed k : Int) : Int := ((seed * 16807).tmod 2147483647).tmod k
theorem sed_in {seed : Int} (h : 1 ≤ seed) : 0 ≤ (seed * 16807).tmod 2147483647 ∧ (seed * 16807).tmod 2147483647 < 2147483647 := ⟨Int.tmod_nonneg _ (by omega), Int.tmod_lt_of_pos _ (by omega)⟩
theorem sedF_in {seed k : Int} (h : 1 ≤ seed) (hk : 1 ≤ k) : 0 ≤ sedF seed k ∧ sedF seed k < k := ⟨Int.tmod_nonneg _ (sed_in h).1, Int.tmod_lt_of_pos _ (by omega)⟩
theorem toF_in {f : Int → Int} {v l0 : Int} : ∀ i : Nat, -1000000 ≤ toF f v l0 i ∧ toF f v l0 i ≤ i
  | 0 => by simp [toF]
  | i + 1 => by
    have ih := toF_in (f := f) (v := v) (l0 := l0) i
    simp only [toF]
    split <;> omega
def toR (f : Int → Int) (n seed : Int) : Int := toF f (leaB f n (-1000000)) (sedF seed (likO f n)) n.toNat
def rndM (σ : Mem) (t seed : Int) : Mem := mu (mr (mu (mr σ 6 (kepF σ)) 0 8 (kepN σ)) 4 (over (σ 4) (fun x => σ 4 x + coiB (σ 4 1) (σ 4 2) (σ 8) (σ 4 0) (x - 8) (toR (σ 8) (σ 4 2) seed)) 8 (8 + σ 4 2))) 4 (12 + 6 * t + 4) (toR (σ 8) (σ 4 2) seed)
def tolB (tw what : Int) : Int := (if what = 0 then tw else 12).tdiv (Int.gcd tw 12)
theorem gcd_step {x y : Int} (hx : 0 ≤ x) (hy : 0 < y) : Int.gcd y (x.tmod y) = Int.gcd x y := by
  rw [Int.tmod_eq_emod_of_nonneg hx]
  have e : (x % y).natAbs = x.natAbs % y.natAbs := by
    have h1 : ((x % y).natAbs : Int) = ((x.natAbs % y.natAbs : Nat) : Int) := by
      rw [Int.natAbs_of_nonneg (Int.emod_nonneg _ (by omega)), Int.natCast_emod, Int.natAbs_of_nonneg hx, Int.natAbs_of_nonneg (by omega)]
    exact Int.ofNat.inj h1
  unfold Int.gcd
  rw [e, Nat.gcd_comm y.natAbs, ← Nat.gcd_rec, Nat.gcd_comm]
theorem gcd_pos12 (a : Int) : 0 < Int.gcd a 12 ∧ Int.gcd a 12 ≤ 12 := ⟨Int.gcd_pos_of_ne_zero_right _ (by decide), Nat.le_of_dvd (by decide) (Int.gcd_dvd_natAbs_right a 12)⟩
def digF (row : Int) : Nat → Int
  | 0 => row
  | i + 1 => (digF row i).tdiv 6
theorem digF_in {row : Int} (h : 0 ≤ row ∧ row < 1296) : ∀ i : Nat, 0 ≤ digF row i ∧ digF row i < 1296
  | 0 => h
  | i + 1 => by
    have ih := digF_in h i
    simp only [digF]
    rw [Int.tdiv_eq_ediv_of_nonneg ih.1]
    omega
theorem over_stepD {σ : Mem} {k lo hi lo' a v : Int} {f g : Int → Int} (h : lo ≤ hi) (ha : a = lo - 1) (h' : lo' = lo - 1) (hv : v = g a) : mu (mr σ k (over f g lo hi)) k a v = mr σ k (over f g lo' hi) := by
  rw [mu_mr]
  congr 1
  funext x
  unfold ru over
  subst h' hv ha
  by_cases e : x = lo - 1
  · subst e; rw [if_pos rfl, if_pos ⟨by omega, by omega⟩]
  · rw [if_neg e]
    by_cases e2 : lo ≤ x ∧ x < hi
    · rw [if_pos e2, if_pos ⟨by omega, e2.2⟩]
    · rw [if_neg e2, if_neg (fun z => e2 ⟨by omega, z.2⟩)]
def digG (row n : Int) : Int → Int := fun p => (digF row (n - 1 - p).toNat).tmod 6
theorem digG_in {row n : Int} (h : 0 ≤ row ∧ row < 1296) (p : Int) : 0 ≤ digG row n p ∧ digG row n p ≤ 5 := by
  have h1 := digF_in h (n - 1 - p).toNat
  unfold digG
  rw [Int.tmod_eq_emod_of_nonneg h1.1]
  omega
/-- bits: those places where b is 1 -/
def orcF (b : Int → Int) : Nat → Int
  | 0 => 0
  | i + 1 => oOr (orcF b i) (if b i = 1 then oShl 1 i else 0)
end
section
/-! more of the reference's methods -/
def losF (T f : Int → Int) (t v : Int) : Nat → Int
  | 0 => 0
  | i + 1 => losF T f t v i + (if f i = v then woF T t i else 0)
def losV (T f : Int → Int) (n t : Int) : Int := 12 * woF T t (extF T t (-1) (n - 1).toNat) - losF T f t (leaB f n (-1000000)) n.toNat * (12 : Int).tdiv (likO f n)
theorem losF_in {T f : Int → Int} {t v : Int} (hT : TW T) (ht : 0 ≤ t ∧ t < 5) : ∀ i : Nat, i ≤ 4 → -(1230 * i) ≤ losF T f t v i ∧ losF T f t v i ≤ 1230 * i
  | 0, _ => by simp [losF]
  | i + 1, hi => by
    have ih := losF_in hT ht (f := f) (v := v) i (by omega)
    have h1 := woF_in hT ht (p := (i : Int)) ⟨by omega, by omega⟩
    simp only [losF]
    split <;> omega
theorem losV_in {T f : Int → Int} {n t : Int} (hT : TW T) (ht : 0 ≤ t ∧ t < 5) (hn : 1 ≤ n ∧ n ≤ 4) (h : SW n f) : -1000000 ≤ losV T f n t ∧ losV T f n t ≤ 1000000 := by
  have h1 := losF_in hT ht (f := f) (v := leaB f n (-1000000)) n.toNat (by omega)
  have h2 := likO_in h hn
  have h3 : 0 ≤ (12 : Int).tdiv (likO f n) ∧ (12 : Int).tdiv (likO f n) ≤ 12 := by
    rcases (show likO f n = 1 ∨ likO f n = 2 ∨ likO f n = 3 ∨ likO f n = 4 by omega) with e | e | e | e <;> rw [e] <;> decide
  have h4 := extF_in (T := T) (t := t) (s := -1) (n - 1).toNat
  have h5 := woF_in hT ht (p := extF T t (-1) (n - 1).toNat) ⟨by omega, by omega⟩
  have h6 := mul_bd (a := losF T f t (leaB f n (-1000000)) n.toNat) (b := (12 : Int).tdiv (likO f n)) (A := 4920) (B := 12) (by omega) (by omega)
  unfold losV
  omega
def backM (σ : Mem) (t : Int) : Mem := mu (mu (mu (mr σ 6 (kepF σ)) 0 8 (kepN σ)) 4 (12 + 6 * t + 4) (-1000000)) 4 (12 + 6 * t + 5) (σ 4 (12 + 6 * t + 5) + 1)
def corF (f : Int → Int) : Nat → Int
  | 0 => 0
  | i + 1 => corF f i + (if 0 ≤ f i then 1 else 0)
def cohF (T : Int → Int) : Nat → Int
  | 0 => 0
  | i + 1 => cohF T i + (if ¬ T (12 + 6 * (i : Int) + 4) = -1000000 then 1 else 0)
def ownG (T : Int → Int) (t : Int) : Int → Int := fun p => owF T t p
theorem ownSW {T f : Int → Int} {t n : Int} : SW n (over f (fun p => owF T t p) 0 n) := by
  intro p h0 h1
  rw [over_in h0 h1]
  exact owF_in T t p
theorem over_over {f g g' : Int → Int} {lo hi : Int} : over (over f g lo hi) g' lo hi = over f g' lo hi := by
  funext x
  unfold over
  split <;> rfl
def powF : Nat → Int
  | 0 => 1
  | i + 1 => powF i * 6
theorem powF_in : ∀ i : Nat, i ≤ 4 → 1 ≤ powF i ∧ powF i ≤ 1296 := by
  intro i hi
  rcases (show i = 0 ∨ i = 1 ∨ i = 2 ∨ i = 3 ∨ i = 4 by omega) with rfl | rfl | rfl | rfl | rfl <;> decide
def laidF (s : Int → Int) (n : Int) (i : Nat) : Int → Int := if i = 0 then s else over s (digG ((i : Int) - 1) n) 0 n
theorem laid_over {s : Int → Int} {n : Int} {i : Nat} {g : Int → Int} : over (laidF s n i) g 0 n = over s g 0 n := by
  unfold laidF
  split
  · rfl
  · exact over_over
def cntF (b : Int → Int) : Nat → Int
  | 0 => 0
  | i + 1 => cntF b i + (if b i = 1 then 1 else 0)
def fstF (b : Int → Int) : Nat → Int
  | 0 => -1000000
  | i + 1 => if b i = 1 ∧ fstF b i = -1000000 then i else fstF b i
theorem cntF_in {b : Int → Int} : ∀ i : Nat, 0 ≤ cntF b i ∧ cntF b i ≤ i
  | 0 => by simp [cntF]
  | i + 1 => by
    have ih := cntF_in (b := b) i
    simp only [cntF]
    split <;> omega
theorem fstF_in {b : Int → Int} : ∀ i : Nat, fstF b i = -1000000 ∨ (0 ≤ fstF b i ∧ fstF b i < i)
  | 0 => Or.inl rfl
  | i + 1 => by
    have ih := fstF_in (b := b) i
    simp only [fstF]
    split <;> omega
theorem digSW {row n : Int} {s : Int → Int} (h : 0 ≤ row ∧ row < 1296) : SW n (over s (digG row n) 0 n) := by
  intro p h0 h1
  rw [over_in h0 h1]
  exact digG_in h p
/-- one round of turns: the sayings behind the first q people's -/
def turF (T : Int → Int) (t : Int) (f : Int → Int) : Nat → (Int → Int)
  | 0 => f
  | q + 1 => ru (turF T t f q) q (besB (T 1) (T 2) (turF T t f q) (woF T t q) (T 0) q)
def samF (T : Int → Int) (t : Int) (f : Int → Int) : Nat → Int
  | 0 => 1
  | q + 1 => if samF T t f q = 1 ∧ besB (T 1) (T 2) (turF T t f q) (woF T t q) (T 0) q = turF T t f q q then 1 else 0
theorem turF_in {T : Int → Int} {t n : Int} {f : Int → Int} (h : SW n f) : ∀ q : Nat, SW n (turF T t f q)
  | 0 => h
  | q + 1 => ru_in (turF_in h q) besB_in
theorem samF_01 {T : Int → Int} {t : Int} {f : Int → Int} : ∀ q : Nat, samF T t f q = 0 ∨ samF T t f q = 1
  | 0 => Or.inr rfl
  | q + 1 => by
    simp only [samF]
    split
    · exact Or.inr rfl
    · exact Or.inl rfl
/-- behind k rounds: the sayings, and how many rounds it took (NONE: more) -/
def turK (T : Int → Int) (t : Int) (f : Int → Int) : Nat → (Int → Int) × Int
  | 0 => (f, -1000000)
  | k + 1 => if (turK T t f k).2 = -1000000 then (turF T t (turK T t f k).1 (T 2).toNat, if samF T t (turK T t f k).1 (T 2).toNat = 1 then (k : Int) + 1 else -1000000) else turK T t f k
theorem turK_SW {T : Int → Int} {t n : Int} {f : Int → Int} (h : SW n f) : ∀ k : Nat, SW n (turK T t f k).1
  | 0 => h
  | k + 1 => by
    simp only [turK]
    split
    · exact turF_in (turK_SW h k) _
    · exact turK_SW h k
theorem turK_in {T : Int → Int} {t : Int} {f : Int → Int} : ∀ k : Nat, (turK T t f k).2 = -1000000 ∨ (1 ≤ (turK T t f k).2 ∧ (turK T t f k).2 ≤ k)
  | 0 => Or.inl rfl
  | k + 1 => by
    have ih := turK_in (T := T) (t := t) (f := f) k
    simp only [turK]
    split
    · dsimp only
      split <;> omega
    · omega
theorem turK_stay {T : Int → Int} {t : Int} {f : Int → Int} {k : Nat} (h : (turK T t f k).2 ≠ -1000000) : ∀ j : Nat, k ≤ j → turK T t f j = turK T t f k := by
  intro j hj
  induction j with
  | zero => rw [show k = 0 by omega]
  | succ j ih =>
    by_cases e : j + 1 = k
    · rw [e]
    · have h1 := ih (by omega)
      have e2 : turK T t f (j + 1) = if (turK T t f j).2 = -1000000 then (turF T t (turK T t f j).1 (T 2).toNat, if samF T t (turK T t f j).1 (T 2).toNat = 1 then (j : Int) + 1 else -1000000) else turK T t f j := rfl
      rw [e2, h1, if_neg h]
/-- bytes of a long, the highest first -/
def bytF (w k : Int) : Int := oL2I (oAndL (oShrL w (8 * k)) 255)
def trcM (σ : Mem) : List Int → Mem
  | [] => σ
  | b :: l => trcM (mu (mu σ 11 (σ 0 23) b) 0 23 (σ 0 23 + 1)) l
theorem mu_mu_c {σ : Mem} {k j v k' j' w : Int} (h : k ≠ k') : mu (mu σ k j v) k' j' w = mu (mu σ k' j' w) k j v := by
  funext a b
  simp only [mu_app]
  by_cases h1 : a = k' ∧ b = j' <;> by_cases h2 : a = k ∧ b = j <;> simp [h1, h2] <;> (intros; omega)
theorem mu_congr {σ σ' : Mem} {k j v v' : Int} (h : σ = σ') (h2 : v = v') : mu σ k j v = mu σ' k j v' := by rw [h, h2]
end
section
/-! the reference's reader -/
def byF (f : Int → Int) (n k : Int) : Int := if k < n then f k else -1000000
def blB (f : Int → Int) (n k : Int) : Int := if k < n ∧ (f k = 32 ∨ f k = 10) then 1 else 0
def leB (f : Int → Int) (n k : Int) : Int := if k < n ∧ (97 ≤ f k ∧ f k ≤ 122) then 1 else 0
def fiB (f : Int → Int) (n k : Int) : Int := if k < n ∧ (48 ≤ f k ∧ f k ≤ 57) then 1 else 0
def scF (b : Int → Int) : Nat → Int → Int
  | 0, c => c
  | m + 1, c => if b c = 1 then scF b m (c + 1) else c
def scan (b : Int → Int) (n c : Int) : Int := scF b (n - c).toNat c
theorem scan_stop {b : Int → Int} {n c : Int} (h : ¬ b c = 1) : scan b n c = c := by
  unfold scan
  cases (n - c).toNat with
  | zero => rfl
  | succ m => simp only [scF]; rw [if_neg h]
theorem scan_step {b : Int → Int} {n c : Int} (h : b c = 1) (hc : c < n) : scan b n c = scan b n (c + 1) := by
  unfold scan
  obtain ⟨m, hm⟩ : ∃ m : Nat, (n - c).toNat = m + 1 := ⟨(n - c).toNat - 1, by omega⟩
  rw [hm, show (n - (c + 1)).toNat = m by omega]
  simp only [scF]
  rw [if_pos h]
theorem scF_in {b : Int → Int} : ∀ (m : Nat) (c : Int), c ≤ scF b m c ∧ scF b m c ≤ c + m
  | 0, c => by simp [scF]
  | m + 1, c => by
    have ih := scF_in (b := b) m (c + 1)
    simp only [scF]
    split <;> omega
theorem scan_in {b : Int → Int} {n c : Int} (h : c ≤ n) : c ≤ scan b n c ∧ scan b n c ≤ n := by
  have := scF_in (b := b) (n - c).toNat c
  unfold scan
  omega
theorem byF_in {f : Int → Int} {n k : Int} (hf : ∀ k : Int, 0 ≤ f k ∧ f k ≤ 255) : -1000000 ≤ byF f n k ∧ byF f n k ≤ 255 := by
  have := hf k
  unfold byF
  split <;> omega
theorem byF_x {f : Int → Int} {n k : Int} (hf : ∀ k : Int, 0 ≤ f k ∧ f k ≤ 255) : (k < n ∧ byF f n k = f k ∧ 0 ≤ f k ∧ f k ≤ 255) ∨ (¬ k < n ∧ byF f n k = -1000000) := by
  have := hf k
  unfold byF
  split <;> omega
theorem blB_x {f : Int → Int} {n k : Int} : (blB f n k = 1 ∧ k < n ∧ (f k = 32 ∨ f k = 10)) ∨ (blB f n k = 0 ∧ ¬ (k < n ∧ (f k = 32 ∨ f k = 10))) := by
  unfold blB
  split
  · rename_i h; exact Or.inl ⟨rfl, h.1, h.2⟩
  · rename_i h; exact Or.inr ⟨rfl, h⟩
theorem leB_x {f : Int → Int} {n k : Int} : (leB f n k = 1 ∧ k < n ∧ 97 ≤ f k ∧ f k ≤ 122) ∨ (leB f n k = 0 ∧ ¬ (k < n ∧ (97 ≤ f k ∧ f k ≤ 122))) := by
  unfold leB
  split
  · rename_i h; exact Or.inl ⟨rfl, h.1, h.2.1, h.2.2⟩
  · rename_i h; exact Or.inr ⟨rfl, h⟩
theorem fiB_x {f : Int → Int} {n k : Int} : (fiB f n k = 1 ∧ k < n ∧ 48 ≤ f k ∧ f k ≤ 57) ∨ (fiB f n k = 0 ∧ ¬ (k < n ∧ (48 ≤ f k ∧ f k ≤ 57))) := by
  unfold fiB
  split
  · rename_i h; exact Or.inl ⟨rfl, h.1, h.2.1, h.2.2⟩
  · rename_i h; exact Or.inr ⟨rfl, h⟩
def tkS (f : Int → Int) (n c : Int) : Int := scan (blB f n) n c
def tkE (f : Int → Int) (n c : Int) : Int := if ¬ tkS f n c < n then tkS f n c else if 97 ≤ f (tkS f n c) ∧ f (tkS f n c) ≤ 122 then scan (leB f n) n (tkS f n c) else if 48 ≤ f (tkS f n c) ∧ f (tkS f n c) ≤ 57 then scan (fiB f n) n (tkS f n c) else tkS f n c + 1
def tkT (f : Int → Int) (n c : Int) : Int := if ¬ tkS f n c < n then 1 else if 97 ≤ f (tkS f n c) ∧ f (tkS f n c) ≤ 122 then 2 else if 48 ≤ f (tkS f n c) ∧ f (tkS f n c) ≤ 57 then (if 3 < tkE f n c - tkS f n c then 0 else 3) else if f (tkS f n c) = 59 then 4 else 0
def nxR (σ : Mem) (s e t : Int) : Int → Int := fun j => if j = 13 then e else if j = 14 then t else if j = 15 then s else if j = 16 then e else σ 0 j
def nxtM (σ : Mem) : Mem := mr σ 0 (nxR σ (tkS (σ 7) (σ 0 12) (σ 0 13)) (tkE (σ 7) (σ 0 12) (σ 0 13)) (tkT (σ 7) (σ 0 12) (σ 0 13)))
theorem nx_eq1 {σ : Mem} {s t : Int} : mu (mu (mu (mu σ 0 13 s) 0 15 s) 0 14 t) 0 16 s = mr σ 0 (nxR σ s s t) := by
  funext k x
  by_cases hk : k = 0
  · subst hk
    rcases (show x = 13 ∨ x = 14 ∨ x = 15 ∨ x = 16 ∨ (x ≠ 13 ∧ x ≠ 14 ∧ x ≠ 15 ∧ x ≠ 16) by omega) with rfl | rfl | rfl | rfl | ⟨a, b, c, e⟩
    · rfl
    · rfl
    · rfl
    · rfl
    · simp [mu_app, mr_app, nxR, a, b, c, e]
  · simp [mu_app, mr_app, hk]
theorem nx_eq2 {σ : Mem} {s e t : Int} : mu (mu (mu (mu (mu σ 0 13 s) 0 15 s) 0 13 e) 0 14 t) 0 16 e = mr σ 0 (nxR σ s e t) := by
  funext k x
  by_cases hk : k = 0
  · subst hk
    rcases (show x = 13 ∨ x = 14 ∨ x = 15 ∨ x = 16 ∨ (x ≠ 13 ∧ x ≠ 14 ∧ x ≠ 15 ∧ x ≠ 16) by omega) with rfl | rfl | rfl | rfl | ⟨a, b, c, e⟩
    · rfl
    · rfl
    · rfl
    · rfl
    · simp [mu_app, mr_app, nxR, a, b, c, e]
  · simp [mu_app, mr_app, hk]
/-- what the reader stands on: the tape's bytes, its length, the cursor -/
def TPW (σ : Mem) : Prop := (∀ k : Int, 0 ≤ σ 7 k ∧ σ 7 k ≤ 255) ∧ (0 ≤ σ 0 12 ∧ σ 0 12 ≤ 400) ∧ (0 ≤ σ 0 13 ∧ σ 0 13 ≤ σ 0 12)
def PW (σ : Mem) : Prop := TPW σ ∧ (0 ≤ σ 0 15 ∧ σ 0 15 ≤ σ 0 16 ∧ σ 0 16 ≤ σ 0 12) ∧ (0 ≤ σ 0 14 ∧ σ 0 14 ≤ 4) ∧ (0 ≤ σ 0 17 ∧ σ 0 17 ≤ 3) ∧ (σ 0 14 = 3 → σ 0 16 - σ 0 15 ≤ 3) ∧ (0 ≤ σ 5 2 ∧ σ 5 2 ≤ 4) ∧ (0 ≤ σ 5 3 ∧ σ 5 3 ≤ 5)
theorem tk_in {f : Int → Int} {n c : Int} (hc : 0 ≤ c ∧ c ≤ n) : c ≤ tkS f n c ∧ tkS f n c ≤ tkE f n c ∧ tkE f n c ≤ n ∧ 0 ≤ tkT f n c ∧ tkT f n c ≤ 4 ∧ (tkT f n c = 3 → tkE f n c - tkS f n c ≤ 3) := by
  have h1 := scan_in (b := blB f n) hc.2
  have h2 := scan_in (b := leB f n) (n := n) (c := tkS f n c) h1.2
  have h3 := scan_in (b := fiB f n) (n := n) (c := tkS f n c) h1.2
  have h4 : tkS f n c = scan (blB f n) n c := rfl
  have hE : tkS f n c ≤ tkE f n c ∧ tkE f n c ≤ n := by
    unfold tkE
    (repeat' split) <;> omega
  refine ⟨by omega, hE.1, hE.2, ?_, ?_, ?_⟩
  · unfold tkT; (repeat' split) <;> omega
  · unfold tkT; (repeat' split) <;> omega
  · intro h
    unfold tkT at h
    (repeat' split at h) <;> omega
def badM (σ : Mem) (k : Int) : Mem := if σ 0 17 = 0 then mu (mu σ 0 17 k) 0 18 (σ 0 15) else σ
def goM (σ : Mem) : Mem := if σ 0 17 = 0 then nxtM σ else σ
def mustM (σ : Mem) (so : Int) : Mem := goM (if so = 0 then badM σ 1 else σ)
theorem nxtM_PW {σ : Mem} (h : PW σ) : PW (nxtM σ) := by
  obtain ⟨⟨h1, h2, h3⟩, h4, h5, h6, h7, h8, h9⟩ := h
  have ht := tk_in (f := σ 7) (n := σ 0 12) (c := σ 0 13) h3
  refine ⟨⟨h1, h2, ?_⟩, ?_, ?_, h6, ?_, h8, h9⟩
  · show 0 ≤ tkE (σ 7) (σ 0 12) (σ 0 13) ∧ tkE (σ 7) (σ 0 12) (σ 0 13) ≤ σ 0 12
    omega
  · show 0 ≤ tkS (σ 7) (σ 0 12) (σ 0 13) ∧ tkS (σ 7) (σ 0 12) (σ 0 13) ≤ tkE (σ 7) (σ 0 12) (σ 0 13) ∧ tkE (σ 7) (σ 0 12) (σ 0 13) ≤ σ 0 12
    omega
  · exact ⟨ht.2.2.2.1, ht.2.2.2.2.1⟩
  · exact ht.2.2.2.2.2
theorem badM_PW {σ : Mem} {k : Int} (h : PW σ) (hk : 0 ≤ k ∧ k ≤ 3) : PW (badM σ k) := by
  obtain ⟨⟨h1, h2, h3⟩, h4, h5, h6, h7, h8, h9⟩ := h
  unfold badM
  split
  · exact ⟨⟨h1, h2, h3⟩, h4, h5, hk, h7, h8, h9⟩
  · exact ⟨⟨h1, h2, h3⟩, h4, h5, h6, h7, h8, h9⟩
theorem goM_PW {σ : Mem} (h : PW σ) : PW (goM σ) := by
  unfold goM
  split
  · exact nxtM_PW h
  · exact h
theorem mustM_PW {σ : Mem} {so : Int} (h : PW σ) : PW (mustM σ so) := by
  unfold mustM
  apply goM_PW
  split
  · exact badM_PW h (by omega)
  · exact h
def naF (f : Int → Int) (s : Int) : Nat → Int
  | 0 => 0
  | i + 1 => oOrL (oShlL (naF f s i) 8) (f (s + i))
def namR (σ : Mem) : Int := if σ 0 17 = 0 then (if σ 0 14 = 2 ∧ σ 0 16 - σ 0 15 < 8 then naF (σ 7) (σ 0 15) (σ 0 16 - σ 0 15).toNat else 0) else 0
theorem oOrL_R (a b : Int) : R6 (oOrL a b) := lI_rng _
theorem naF_R (f : Int → Int) (s : Int) : ∀ i : Nat, R6 (naF f s i)
  | 0 => ⟨by simp [naF], by simp [naF]⟩
  | i + 1 => oOrL_R _ _
theorem namR_R (σ : Mem) : R6 (namR σ) := by
  unfold namR
  (repeat' split) <;> first | exact naF_R _ _ _ | exact ⟨by omega, by omega⟩
def fgF (f : Int → Int) (s : Int) : Nat → Int
  | 0 => 0
  | i + 1 => 10 * fgF f s i + f (s + i) - 48
def figR (σ : Mem) : Int := if σ 0 14 = 3 then fgF (σ 7) (σ 0 15) (σ 0 16 - σ 0 15).toNat else 0
theorem figR_in {σ : Mem} (h : PW σ) : -10000 ≤ figR σ ∧ figR σ ≤ 100000 := by
  obtain ⟨⟨h1, -, -⟩, h4, -, -, h7, -, -⟩ := h
  unfold figR
  split
  · rename_i ht
    have h8 := h7 ht
    have a0 := h1 (σ 0 15)
    have a1 := h1 (σ 0 15 + 1)
    have a2 := h1 (σ 0 15 + 2)
    rcases (show (σ 0 16 - σ 0 15).toNat = 0 ∨ (σ 0 16 - σ 0 15).toNat = 1 ∨ (σ 0 16 - σ 0 15).toNat = 2 ∨ (σ 0 16 - σ 0 15).toNat = 3 by omega) with e | e | e | e <;> rw [e] <;> simp only [fgF] <;> simp <;> omega
  · omega
def numR (σ : Mem) : Int := if 0 < σ 0 17 then 0 else figR σ
def numX (σ : Mem) (lo hi : Int) : Mem := if σ 0 14 = 3 ∧ ¬ (lo ≤ figR σ ∧ figR σ ≤ hi) then badM σ 2 else σ
def numM (σ : Mem) (lo hi : Int) : Mem := if 0 < σ 0 17 then σ else mustM (numX σ lo hi) (if numX σ lo hi 0 14 = 3 then 1 else 0)
theorem numM_PW {σ : Mem} {lo hi : Int} (h : PW σ) : PW (numM σ lo hi) := by
  unfold numM
  split
  · exact h
  · apply mustM_PW
    unfold numX
    split
    · exact badM_PW h (by omega)
    · exact h
def kinB (w : Int) : Int := if w = 1953658213 then 1 else if w = 7564409 then 2 else if w = 7563385 then 3 else if w = 1919509352 then 4 else if w = 512869298039 then 5 else -1000000

theorem badM_c {σ : Mem} {k q j : Int} (h : q ≠ 0) : badM σ k q j = σ q j := by
  unfold badM
  split
  · simp [mu_app, h]
  · rfl
theorem goM_c {σ : Mem} {q j : Int} (h : q ≠ 0) : goM σ q j = σ q j := by
  unfold goM
  split
  · simp [nxtM, mr_app, h]
  · rfl
theorem mustM_c {σ : Mem} {so q j : Int} (h : q ≠ 0) : mustM σ so q j = σ q j := by
  unfold mustM
  rw [goM_c h]
  split
  · exact badM_c h
  · rfl
theorem numM_c {σ : Mem} {lo hi q j : Int} (h : q ≠ 0) : numM σ lo hi q j = σ q j := by
  unfold numM
  split
  · rfl
  · rw [mustM_c h]
    unfold numX
    split
    · exact badM_c h
    · rfl
/-- a fault stays -/
theorem goM_f {σ : Mem} : goM σ 0 17 = σ 0 17 := by
  unfold goM
  split <;> rfl
theorem badM_f {σ : Mem} {k : Int} : badM σ k 0 17 = if σ 0 17 = 0 then k else σ 0 17 := by
  unfold badM
  split
  · rfl
  · rfl
theorem mustM_f {σ : Mem} {so : Int} (h : mustM σ so 0 17 = 0) : σ 0 17 = 0 ∧ so ≠ 0 := by
  unfold mustM at h
  rw [goM_f] at h
  split at h
  · rw [badM_f] at h
    split at h <;> omega
  · exact ⟨h, by assumption⟩
theorem numM_f {σ : Mem} {lo hi : Int} (h : numM σ lo hi 0 17 = 0) (h0 : 0 ≤ σ 0 17) : σ 0 17 = 0 := by
  unfold numM at h
  split at h
  · exact h
  · omega
def bgnM (σ : Mem) : Mem := nxtM (mu (mu (mu (mu σ 0 12 (σ 0 10)) 0 10 0) 0 13 0) 0 17 0)
def endM (σ : Mem) : Mem := if σ 0 17 = 0 then mustM σ (if σ 0 14 = 4 then 1 else 0) else σ
theorem endM_PW {σ : Mem} (h : PW σ) : PW (endM σ) := by
  unfold endM
  split
  · exact mustM_PW h
  · exact h
theorem endM_c {σ : Mem} {q j : Int} (h : q ≠ 0) : endM σ q j = σ q j := by
  unfold endM
  split
  · exact mustM_c h
  · rfl
theorem endM_f {σ : Mem} (h : endM σ 0 17 = 0) : σ 0 17 = 0 := by
  unfold endM at h
  split at h
  · assumption
  · exact h
def begM (σ : Mem) (so room : Int) : Mem := mustM (if σ 5 so = room then badM σ 3 else σ) 1
theorem begM_PW {σ : Mem} {so room : Int} (h : PW σ) : PW (begM σ so room) := by
  unfold begM
  apply mustM_PW
  split
  · exact badM_PW h (by omega)
  · exact h
theorem begM_c {σ : Mem} {so room q j : Int} (h : q ≠ 0) : begM σ so room q j = σ q j := by
  unfold begM
  rw [mustM_c h]
  split
  · exact badM_c h
  · rfl
theorem begM_f {σ : Mem} {so room : Int} (h : begM σ so room 0 17 = 0) : σ 0 17 = 0 ∧ σ 5 so ≠ room := by
  have h1 := (mustM_f h).1
  split at h1
  · rw [badM_f] at h1
    split at h1 <;> omega
  · exact ⟨h1, by assumption⟩
def rpX (σ : Mem) : Mem := if begM σ 2 4 0 17 = 0 then mustM (begM σ 2 4) (if kinB (namR (begM σ 2 4)) = -1000000 then 0 else 1) else begM σ 2 4
def rpY (σ : Mem) : Mem := endM (rpX σ)
def rpM (σ : Mem) : Mem := if rpY σ 0 17 = 0 then mu (mu (rpY σ) 5 (4 + rpY σ 5 2) (kinB (namR (begM σ 2 4)))) 5 2 (mu (rpY σ) 5 (4 + rpY σ 5 2) (kinB (namR (begM σ 2 4))) 5 2 + 1) else rpY σ
theorem rpX_PW {σ : Mem} (h : PW σ) : PW (rpX σ) := by
  unfold rpX
  split
  · exact mustM_PW (begM_PW h)
  · exact begM_PW h
theorem rpY_PW {σ : Mem} (h : PW σ) : PW (rpY σ) := endM_PW (rpX_PW h)
theorem rpY_c {σ : Mem} {q j : Int} (h : q ≠ 0) : rpY σ q j = σ q j := by
  unfold rpY
  rw [endM_c h]
  unfold rpX
  split
  · rw [mustM_c h, begM_c h]
  · exact begM_c h
theorem rpY_f {σ : Mem} (h : rpY σ 0 17 = 0) : σ 0 17 = 0 ∧ σ 5 2 ≠ 4 := by
  have h1 := endM_f h
  unfold rpX at h1
  split at h1
  · exact begM_f (by assumption)
  · exact begM_f h1
theorem nx_fin {σ : Mem} {s e t : Int} (hS : tkS (σ 7) (σ 0 12) (σ 0 13) = s) (hE : tkE (σ 7) (σ 0 12) (σ 0 13) = e) (hT : tkT (σ 7) (σ 0 12) (σ 0 13) = t) : mr σ 0 (nxR σ s e t) = nxtM σ := by
  unfold nxtM
  rw [hS, hE, hT]
theorem PW_mu5 {τ : Mem} {j v : Int} (h : PW τ) (hj : 4 ≤ j) : PW (mu τ 5 j v) := by
  obtain ⟨h1, h4, h5, h6, h7, h8, h9⟩ := h
  refine ⟨h1, h4, h5, h6, h7, ?_, ?_⟩
  · rw [mu_j (by omega)]; exact h8
  · rw [mu_j (by omega)]; exact h9
theorem PW_mu5s {τ : Mem} {j v : Int} (h : PW τ) (hj : j = 0 ∨ j = 1) : PW (mu τ 5 j v) := by
  obtain ⟨h1, h4, h5, h6, h7, h8, h9⟩ := h
  refine ⟨h1, h4, h5, h6, h7, ?_, ?_⟩
  · rw [mu_j (by omega)]; exact h8
  · rw [mu_j (by omega)]; exact h9
def rtA (σ : Mem) : Int := if begM σ 3 5 0 17 = 0 then 12 + 6 * begM σ 3 5 5 3 else 12
def rtL (s : Mem) (a : Int) : Nat → Mem
  | 0 => s
  | i + 1 => mu (numM (rtL s a i) 0 60) 5 (a + i) (if numM (rtL s a i) 0 60 0 17 = 0 then numR (rtL s a i) else 0)
def rtX (σ : Mem) : Mem := rtL (begM σ 3 5) (rtA σ) (σ 5 2).toNat
def rtY (σ : Mem) : Mem := endM (rtX σ)
def rtM (σ : Mem) : Mem := if rtY σ 0 17 = 0 then mu (mu (mu (rtY σ) 5 (rtA σ + 4) (-1000000)) 5 (rtA σ + 5) 0) 5 3 (mu (mu (rtY σ) 5 (rtA σ + 4) (-1000000)) 5 (rtA σ + 5) 0 5 3 + 1) else rtY σ
theorem rtL_PW {s : Mem} {a : Int} (h : PW s) (ha : 12 ≤ a) : ∀ i : Nat, PW (rtL s a i)
  | 0 => h
  | i + 1 => PW_mu5 (numM_PW (rtL_PW h ha i)) (by omega)
theorem rtL_c {s : Mem} {a q j : Int} (ha : 12 ≤ a) (hq : q ≠ 0) (hj : q = 5 → j < 12) : ∀ i : Nat, rtL s a i q j = s q j
  | 0 => rfl
  | i + 1 => by
    show mu (numM (rtL s a i) 0 60) 5 (a + i) _ q j = _
    rw [mu_app, if_neg (by omega), numM_c hq, rtL_c ha hq hj i]
theorem rtL_f {s : Mem} {a : Int} (h : PW s) (ha : 12 ≤ a) : ∀ i : Nat, rtL s a i 0 17 = 0 → s 0 17 = 0
  | 0, e => e
  | i + 1, e => by
    have e1 : numM (rtL s a i) 0 60 0 17 = 0 := e
    exact rtL_f h ha i (numM_f e1 (rtL_PW h ha i).2.2.2.1.1)
theorem rtA_in {σ : Mem} (h : PW σ) : 12 ≤ rtA σ ∧ rtA σ ≤ 36 := by
  have h1 := begM_c (σ := σ) (so := 3) (room := 5) (q := 5) (j := 3) (by decide)
  have h2 := h.2.2.2.2.2.2
  unfold rtA
  split
  · have := begM_f (σ := σ) (by assumption)
    omega
  · omega
theorem rtY_PW {σ : Mem} (h : PW σ) : PW (rtY σ) := endM_PW (rtL_PW (begM_PW h) (rtA_in h).1 _)
theorem rtY_c {σ : Mem} (h : PW σ) {j : Int} (hj : j < 12) : rtY σ 5 j = σ 5 j := by
  unfold rtY rtX
  rw [endM_c (by decide), rtL_c (rtA_in h).1 (by decide) (fun _ => hj), begM_c (by decide)]
theorem rtY_f {σ : Mem} (h : PW σ) (e : rtY σ 0 17 = 0) : σ 0 17 = 0 ∧ σ 5 3 ≠ 5 := begM_f (rtL_f (begM_PW h) (rtA_in h).1 _ (endM_f e))
theorem rpM_PW {σ : Mem} (h : PW σ) : PW (rpM σ) := by
  have hy := rpY_PW h
  have hc := rpY_c (σ := σ) (q := 5) (j := 2) (by decide)
  unfold rpM
  split
  · have hz := rpY_f (σ := σ) (by assumption)
    obtain ⟨h1, h4, h5, h6, h7, h8, h9⟩ := PW_mu5 (v := kinB (namR (begM σ 2 4))) (j := 4 + rpY σ 5 2) hy (by have := hy.2.2.2.2.2.1; omega)
    refine ⟨h1, h4, h5, h6, h7, ?_, ?_⟩
    · rw [mu_s]
      rw [mu_j (by have := hy.2.2.2.2.2.1; omega)] at h8 ⊢
      have := h.2.2.2.2.2.1
      omega
    · rw [mu_j (by decide)]; exact h9
  · exact hy
theorem rtM_PW {σ : Mem} (h : PW σ) : PW (rtM σ) := by
  have hy := rtY_PW h
  have hA := rtA_in h
  have hc := rtY_c h (j := 3) (by decide)
  unfold rtM
  split
  · have hz := rtY_f h (by assumption)
    obtain ⟨h1, h4, h5, h6, h7, h8, h9⟩ := PW_mu5 (j := rtA σ + 5) (v := 0) (PW_mu5 (v := -1000000) (j := rtA σ + 4) hy (by omega)) (by omega)
    refine ⟨h1, h4, h5, h6, h7, ?_, ?_⟩
    · rw [mu_j (by decide)]; exact h8
    · rw [mu_s]
      rw [mu_j (by omega), mu_j (by omega)] at h9 ⊢
      have := h.2.2.2.2.2.2
      omega
  · exact hy
theorem rpM_n {σ : Mem} (h : PW σ) (e : rpM σ 0 17 = 0) : rpM σ 5 2 = σ 5 2 + 1 := by
  have hy := rpY_PW h
  have hc := rpY_c (σ := σ) (q := 5) (j := 2) (by decide)
  unfold rpM at e ⊢
  split at e
  · rw [if_pos (by assumption), mu_s, mu_j (by have := hy.2.2.2.2.2.1; omega)]
    omega
  · exact absurd e (by assumption)
theorem rtM_n {σ : Mem} (h : PW σ) (e : rtM σ 0 17 = 0) : rtM σ 5 3 = σ 5 3 + 1 := by
  have hA := rtA_in h
  have hc := rtY_c h (j := 3) (by decide)
  unfold rtM at e ⊢
  split at e
  · rw [if_pos (by assumption), mu_s, mu_j (by omega), mu_j (by omega)]
    omega
  · exact absurd e (by assumption)
def itM (step : Mem → Mem) (nm : Int) : Nat → Mem → Mem
  | 0, s => s
  | m + 1, s => if namR s = nm then itM step nm m (step s) else s
theorem itM_stop {step : Mem → Mem} {nm : Int} {k : Nat} {s : Mem} (h : ¬ namR s = nm) : itM step nm k s = s := by
  cases k with
  | zero => rfl
  | succ k => simp only [itM]; rw [if_neg h]
theorem namR_f {σ : Mem} {nm : Int} (h : namR σ = nm) (h0 : nm ≠ 0) : σ 0 17 = 0 := by
  unfold namR at h
  split at h
  · assumption
  · omega
def muP (s : Mem) : Nat := if namR s = 123581014175598 then (6 - s 5 2).toNat else 0
def muT (s : Mem) : Nat := if namR s = 499967946343 then (7 - s 5 3).toNat else 0
theorem muP_dec {s : Mem} (h : PW s) (e : namR s = 123581014175598) : muP (rpM s) < muP s := by
  have h1 := h.2.2.2.2.2.1
  unfold muP
  rw [if_pos e]
  split
  · have := rpM_n h (namR_f (by assumption) (by decide))
    omega
  · omega
theorem muT_dec {s : Mem} (h : PW s) (e : namR s = 499967946343) : muT (rtM s) < muT s := by
  have h1 := h.2.2.2.2.2.2
  unfold muT
  rw [if_pos e]
  split
  · have := rtM_n h (namR_f (by assumption) (by decide))
    omega
  · omega
theorem muP_6 {s : Mem} (h : PW s) : muP s ≤ 6 := by
  have h1 := h.2.2.2.2.2.1
  unfold muP
  split <;> omega
theorem muT_7 {s : Mem} (h : PW s) : muT s ≤ 7 := by
  have h1 := h.2.2.2.2.2.2
  unfold muT
  split <;> omega
theorem itM_go {step : Mem → Mem} {nm : Int} {k : Nat} {s : Mem} (h : namR s = nm) (hk : 0 < k) : itM step nm k s = itM step nm (k - 1) (step s) := by
  obtain ⟨m, rfl⟩ : ∃ m, k = m + 1 := ⟨k - 1, by omega⟩
  simp only [itM]
  rw [if_pos h]
  rfl
def tw1 (σ : Mem) : Mem := mr (bgnM (mu σ 0 0 0)) 5 (over (bgnM (mu σ 0 0 0) 5) (fun _ => 0) 0 42)
def tw2 (σ : Mem) : Mem := mustM (tw1 σ) (if namR (tw1 σ) = 7102839 then 1 else 0)
def tw3 (σ : Mem) : Mem := mu (numM (tw2 σ) 0 3) 5 0 (numR (tw2 σ))
def tw4 (σ : Mem) : Mem := mu (numM (tw3 σ) 0 20) 5 1 (numR (tw3 σ))
def tw5 (σ : Mem) : Mem := endM (tw4 σ)
def tw6 (σ : Mem) : Mem := if namR (tw5 σ) = 123581014175598 then tw5 σ else badM (tw5 σ) 1
def tw7 (σ : Mem) : Mem := itM rpM 123581014175598 6 (tw6 σ)
def tw8 (σ : Mem) : Mem := itM rtM 499967946343 7 (tw7 σ)
def tw9 (σ : Mem) : Mem := if tw8 σ 0 17 = 0 ∧ ¬ tw8 σ 0 14 = 1 then badM (tw8 σ) 1 else tw8 σ
def twR (σ : Mem) : Int := if 0 < tw9 σ 0 17 then -1000100 - tw9 σ 0 18 else tw9 σ 5 2
def twM (σ : Mem) : Mem := if 0 < tw9 σ 0 17 then mu (tw9 σ) 0 11 (tw9 σ 0 17) else mr (mu (tw9 σ) 0 8 0) 4 (over (tw9 σ 4) (fun k => tw9 σ 5 k) 0 42)
theorem tw1_PW {σ : Mem} (hb : ∀ k : Int, 0 ≤ σ 7 k ∧ σ 7 k ≤ 255) (ht : 0 ≤ σ 0 10 ∧ σ 0 10 ≤ 400) : PW (tw1 σ) := by
  have hk := tk_in (f := σ 7) (n := σ 0 10) (c := 0) ⟨by omega, ht.1⟩
  refine ⟨⟨hb, ht, ?_⟩, ?_, ⟨hk.2.2.2.1, hk.2.2.2.2.1⟩, ?_, hk.2.2.2.2.2, ?_, ?_⟩
  · show 0 ≤ tkE (σ 7) (σ 0 10) 0 ∧ tkE (σ 7) (σ 0 10) 0 ≤ σ 0 10
    omega
  · show 0 ≤ tkS (σ 7) (σ 0 10) 0 ∧ tkS (σ 7) (σ 0 10) 0 ≤ tkE (σ 7) (σ 0 10) 0 ∧ tkE (σ 7) (σ 0 10) 0 ≤ σ 0 10
    omega
  · show (0 : Int) ≤ 0 ∧ (0 : Int) ≤ 3
    omega
  · show (0 : Int) ≤ 0 ∧ (0 : Int) ≤ 4
    omega
  · show (0 : Int) ≤ 0 ∧ (0 : Int) ≤ 5
    omega
end
section
/-! THE CLASS'S METHODS, as functions -/
def woC (told worn : Int → Int) (t p : Int) : Int := told (t * 4 + p) - 2 * worn t
def frC (w : Int) : Int := clF ((30 + w).tdiv 10)
def owC (k w : Int) : Int := if k = 2 then 5 - frC w else if k = 3 then (if frC w - 1 < 0 then 0 else frC w - 1) else if k = 4 then (if frC w < 3 then 3 else frC w) else if k = 5 then 0 else frC w
def wgC (law fee people next : Int) : Int := if law = 1 then -fee * next else if law = 2 then fee * next else if law = 3 then fee * (people - 1) else 0
def ogC (law fee : Int) : Int := if law = 3 then -fee else 0
def loC (f : Int → Int) (but : Int) : Nat → Int
  | 0 => 6
  | i + 1 => if (i : Int) = but then loC f but i else if f i < loC f but i then f i else loC f but i
def maC (f : Int → Int) (s but : Int) : Nat → Int
  | 0 => 0
  | i + 1 => if (i : Int) = but then maC f s but i else if f i = s then maC f s but i + 1 else maC f s but i
/-- the town at cell q is well formed -/
def TC (σ : Mem) (q : Int) : Prop := (0 ≤ σ q 0 ∧ σ q 0 ≤ 3) ∧ (0 ≤ σ q 1 ∧ σ q 1 ≤ 20) ∧ (0 ≤ σ q 2 ∧ σ q 2 ≤ 4) ∧ (0 ≤ σ q 3 ∧ σ q 3 ≤ 5) ∧ (∀ p, 0 ≤ p → p < 4 → 0 ≤ σ (q + 4) p ∧ σ (q + 4) p ≤ 5) ∧ (∀ j, 0 ≤ j → j < 20 → -30 ≤ σ (q + 12) j ∧ σ (q + 12) j ≤ 30) ∧ (∀ t, 0 ≤ t → t < 5 → 0 ≤ σ (q + 20) t ∧ σ (q + 20) t ≤ 1000000)
theorem woC_in {σ : Mem} {q t p : Int} (h : TC σ q) (ht : 0 ≤ t ∧ t < 5) (hp : 0 ≤ p ∧ p < 4) : -2000030 ≤ woC (σ (q + 12)) (σ (q + 20)) t p ∧ woC (σ (q + 12)) (σ (q + 20)) t p ≤ 30 := by
  have h1 := h.2.2.2.2.2.1 (t * 4 + p) (by omega) (by omega)
  have h2 := h.2.2.2.2.2.2 t ht.1 ht.2
  unfold woC; omega
theorem loC_in {f : Int → Int} {but : Int} : ∀ i : Nat, (∀ j : Int, 0 ≤ j → j < i → 0 ≤ f j ∧ f j ≤ 5) → 0 ≤ loC f but i ∧ loC f but i ≤ 6 := by
  intro i
  induction i with
  | zero => intro _; unfold loC; omega
  | succ i ih =>
    intro h
    have h1 := ih (fun j a b => h j a (by omega))
    have h2 := h i (by omega) (by omega)
    unfold loC; (repeat' split) <;> omega
theorem maC_in {f : Int → Int} {s but : Int} : ∀ i : Nat, 0 ≤ maC f s but i ∧ maC f s but i ≤ i := by
  intro i
  induction i with
  | zero => unfold maC; omega
  | succ i ih => unfold maC; (repeat' split) <;> omega
theorem TC_of {σ τ : Mem} {q : Int} (h : TC σ q) (h0 : τ q = σ q) (h4 : τ (q + 4) = σ (q + 4)) (h12 : τ (q + 12) = σ (q + 12)) (h20 : τ (q + 20) = σ (q + 20)) : TC τ q := by
  unfold TC at *
  rw [h0, h4, h12, h20]
  exact h
def wlC (told worn : Int → Int) (t : Int) : Nat → Int
  | 0 => 0
  | i + 1 => if woC told worn t i < woC told worn t (wlC told worn t i) then i else wlC told worn t i
def wmC (told worn : Int → Int) (t : Int) : Nat → Int
  | 0 => 0
  | i + 1 => if woC told worn t (wmC told worn t i) < woC told worn t i then i else wmC told worn t i
theorem wlC_in {told worn : Int → Int} {t : Int} : ∀ i : Nat, 0 ≤ wlC told worn t i ∧ (wlC told worn t i < i ∨ wlC told worn t i = 0) := by
  intro i
  induction i with
  | zero => unfold wlC; omega
  | succ i ih => unfold wlC; (repeat' split) <;> omega
theorem wmC_in {told worn : Int → Int} {t : Int} : ∀ i : Nat, 0 ≤ wmC told worn t i ∧ (wmC told worn t i < i ∨ wmC told worn t i = 0) := by
  intro i
  induction i with
  | zero => unfold wmC; omega
  | succ i ih => unfold wmC; (repeat' split) <;> omega
def chC (h : Int → Int) : Nat → Int
  | 0 => 0
  | i + 1 => if h i = -1000000 then chC h i else chC h i + 1
def cbC (h : Int → Int) (p : Int) : Nat → Int
  | 0 => 0
  | i + 1 => if h i = p then cbC h p i + 1 else cbC h p i
def gbC (lowest below shared above s : Int) : Int := if s < lowest then below else if lowest < s then above else shared
def cutC (lane v : Int) : Int := if lane = 0 then oI2B v else if lane = 1 then oI2S v else v
theorem mu_mr_ne {σ : Mem} {k1 k2 j v : Int} {f : Int → Int} (h : k1 ≠ k2) : mu (mr σ k2 f) k1 j v = mr (mu σ k1 j v) k2 f := by
  funext k j'
  simp only [mu_app, mr_app]
  by_cases h1 : k = k1 <;> by_cases h2 : k = k2
  · omega
  · simp [h1, h]
  · simp [h2, Ne.symm h]
  · simp [h1, h2]
theorem over_step2 {σ : Mem} {k1 k2 lo hi hi' v w : Int} {f1 g1 f2 g2 : Int → Int} (hk : k1 ≠ k2) (h : lo ≤ hi) (h' : hi' = hi + 1) (hv : v = g1 hi) (hw : w = g2 hi) : mu (mu (mr (mr σ k1 (over f1 g1 lo hi)) k2 (over f2 g2 lo hi)) k1 hi v) k2 hi w = mr (mr σ k1 (over f1 g1 lo hi')) k2 (over f2 g2 lo hi') := by
  rw [mu_mr_ne hk, over_step h h' hv, over_step h h' hw]
theorem over_init2 {σ : Mem} {k1 k2 lo hi : Int} {f1 f2 g1 g2 : Int → Int} (h : hi ≤ lo) (h1 : f1 = σ k1) (h2 : f2 = σ k2) : σ = mr (mr σ k1 (over f1 g1 lo hi)) k2 (over f2 g2 lo hi) := by
  rw [over_0 h, over_0 h, mr_self h1, mr_self h2]
def nxC (f : Int → Int) (n p : Int) : Int := if 1 < n then loC f p n.toNat else 0
def odC (f : Int → Int) (n p : Int) : Int := 1 + maC f (loC f p n.toNat) p n.toNat
def haC (w fee people nx law : Int) : Int := w + wgC law fee people nx
def bsC (lo be sh ab : Int) : Nat → Int
  | 0 => 0
  | i + 1 => if gbC lo be sh ab (bsC lo be sh ab i) < gbC lo be sh ab i then i else bsC lo be sh ab i
theorem bsC_in {lo be sh ab : Int} : ∀ i : Nat, 0 ≤ bsC lo be sh ab i ∧ (bsC lo be sh ab i < i ∨ bsC lo be sh ab i = 0) := by
  intro i
  induction i with
  | zero => unfold bsC; omega
  | succ i ih => unfold bsC; (repeat' split) <;> omega
def syC (f : Int → Int) (v pl : Int) : Nat → Int
  | 0 => -1
  | i + 1 => if 0 ≤ syC f v pl i then syC f v pl i else if f i = v ∧ maC f v (-1000000) i = pl then i else -1
theorem syC_in {f : Int → Int} {v pl : Int} : ∀ i : Nat, -1 ≤ syC f v pl i ∧ syC f v pl i < i := by
  intro i
  induction i with
  | zero => unfold syC; omega
  | succ i ih => unfold syC; (repeat' split) <;> omega
theorem syC_stay {f : Int → Int} {v pl : Int} {k n : Nat} (h : 0 ≤ syC f v pl k) (hk : k ≤ n) : syC f v pl n = syC f v pl k := by
  induction n with
  | zero => have : k = 0 := by omega
            subst this; rfl
  | succ n ih =>
    by_cases e : k = n + 1
    · subst e; rfl
    · have h1 := ih (by omega)
      show (if 0 ≤ syC f v pl n then syC f v pl n else _) = _
      rw [if_pos (by omega), h1]
def syR (f : Int → Int) (v pl n : Int) : Int := if 0 ≤ syC f v pl n.toNat then syC f v pl n.toNat else 0
end
section
/-! what a Prospect's look leaves, and what is a rest -/
def prLo (said : Int → Int) (n p : Int) : Int := loC said p n.toNat
def prHa (T told worn said : Int → Int) (n t p w : Int) : Int := haC (woC told worn t p) (T 1) (T 2) (nxC said n p) w
def prBe (T told worn said : Int → Int) (n t p w : Int) : Int := prHa T told worn said n t p w * odC said n p
def prSh (T told worn said : Int → Int) (n t p w : Int) : Int := prHa T told worn said n t p w + ogC w (T 1) * (odC said n p - 1)
def prAb (T said : Int → Int) (n p w : Int) : Int := ogC w (T 1) * odC said n p
def lkR (T told worn said : Int → Int) (n t p w : Int) (f : Int → Int) : Int → Int := ru (ru (ru (ru (ru f 1 (prLo said n p)) 0 (odC said n p)) 2 (prBe T told worn said n t p w)) 3 (prSh T told worn said n t p w)) 4 (prAb T said n p w)
def prG (T told worn said : Int → Int) (n t p w s : Int) : Int := gbC (prLo said n p) (prBe T told worn said n t p w) (prSh T told worn said n t p w) (prAb T said n p w) s
def prB (T told worn said : Int → Int) (n t p w : Int) : Int := bsC (prLo said n p) (prBe T told worn said n t p w) (prSh T told worn said n t p w) (prAb T said n p w) 6
theorem prLo_in {said : Int → Int} {n p : Int} (hs : ∀ j, 0 ≤ j → j < n → 0 ≤ said j ∧ said j ≤ 5) : 0 ≤ prLo said n p ∧ prLo said n p ≤ 6 := loC_in _ (fun j a b => hs j a (by omega))
theorem nxC_in {said : Int → Int} {n p : Int} (hs : ∀ j, 0 ≤ j → j < n → 0 ≤ said j ∧ said j ≤ 5) : 0 ≤ nxC said n p ∧ nxC said n p ≤ 6 := by
  have h := loC_in (f := said) (but := p) n.toNat (fun j a b => hs j a (by omega))
  unfold nxC; split <;> omega
theorem odC_in {said : Int → Int} {n p : Int} (hn : 0 ≤ n ∧ n ≤ 4) : 1 ≤ odC said n p ∧ odC said n p ≤ 5 := by
  have h := maC_in (f := said) (s := loC said p n.toNat) (but := p) n.toNat
  unfold odC; omega
theorem wgC_in {law fee people next : Int} (hf : 0 ≤ fee ∧ fee ≤ 20) (hp : 0 ≤ people ∧ people ≤ 4) (hn : 0 ≤ next ∧ next ≤ 6) : -120 ≤ wgC law fee people next ∧ wgC law fee people next ≤ 120 := by
  have e : next = 0 ∨ next = 1 ∨ next = 2 ∨ next = 3 ∨ next = 4 ∨ next = 5 ∨ next = 6 := by omega
  have e2 : people = 0 ∨ people = 1 ∨ people = 2 ∨ people = 3 ∨ people = 4 := by omega
  unfold wgC
  split
  · rcases e with h | h | h | h | h | h | h <;> subst h <;> omega
  · split
    · rcases e with h | h | h | h | h | h | h <;> subst h <;> omega
    · split
      · rcases e2 with h | h | h | h | h <;> subst h <;> omega
      · omega
theorem ogC_in {law fee : Int} (hf : 0 ≤ fee ∧ fee ≤ 20) : -20 ≤ ogC law fee ∧ ogC law fee ≤ 0 := by
  unfold ogC; split <;> omega
theorem pr_in {σ : Mem} {a n t p w : Int} {said : Int → Int} (hT : TC σ a) (ht : 0 ≤ t ∧ t < 5) (hp : 0 ≤ p ∧ p < 4) (hn : 0 ≤ n ∧ n ≤ 4) (hs : ∀ j, 0 ≤ j → j < n → 0 ≤ said j ∧ said j ≤ 5) :
    (-12000000 ≤ prBe (σ a) (σ (a + 12)) (σ (a + 20)) said n t p w ∧ prBe (σ a) (σ (a + 12)) (σ (a + 20)) said n t p w ≤ 12000000) ∧ (-12000000 ≤ prSh (σ a) (σ (a + 12)) (σ (a + 20)) said n t p w ∧ prSh (σ a) (σ (a + 12)) (σ (a + 20)) said n t p w ≤ 12000000) ∧ (-120 ≤ prAb (σ a) said n p w ∧ prAb (σ a) said n p w ≤ 120) := by
  have h1 := woC_in hT ht hp
  have h2 := wgC_in (law := w) hT.2.1 hT.2.2.1 (nxC_in (p := p) hs)
  have h3 := odC_in (said := said) (p := p) hn
  have h4 := ogC_in (law := w) hT.2.1
  have h5 : prHa (σ a) (σ (a + 12)) (σ (a + 20)) said n t p w = woC (σ (a + 12)) (σ (a + 20)) t p + wgC w (σ a 1) (σ a 2) (nxC said n p) := rfl
  unfold prBe prSh prAb
  generalize prHa (σ a) (σ (a + 12)) (σ (a + 20)) said n t p w = x at *
  generalize odC said n p = o at *
  generalize ogC w (σ a 1) = g at *
  have e : o = 1 ∨ o = 2 ∨ o = 3 ∨ o = 4 ∨ o = 5 := by omega
  rcases e with h | h | h | h | h <;> subst h <;> refine ⟨⟨?_, ?_⟩, ⟨?_, ?_⟩, ?_, ?_⟩ <;> omega
/-- whether one of the first i has a better saying, and the prospect's row then -/
def rsS (T told worn said : Int → Int) (n t w : Int) (f : Int → Int) : Nat → Int × (Int → Int)
  | 0 => (1, f)
  | i + 1 => let q := rsS T told worn said n t w f i; if q.1 = 0 then q else (if prG T told worn said n t i w (said i) < prG T told worn said n t i w (prB T told worn said n t i w) then 0 else 1, lkR T told worn said n t i w q.2)
theorem rsS_stay {T told worn said : Int → Int} {n t w : Int} {f : Int → Int} {k m : Nat} (h : (rsS T told worn said n t w f k).1 = 0) (hk : k ≤ m) : rsS T told worn said n t w f m = rsS T told worn said n t w f k := by
  induction m with
  | zero => have : k = 0 := by omega
            subst this; rfl
  | succ m ih =>
    by_cases e : k = m + 1
    · subst e; rfl
    · have h1 := ih (by omega)
      show (let q := rsS T told worn said n t w f m; if q.1 = 0 then q else _) = _
      simp only [h1, h, if_true]
theorem rsS_01 {T told worn said : Int → Int} {n t w : Int} {f : Int → Int} : ∀ i : Nat, (rsS T told worn said n t w f i).1 = 0 ∨ (rsS T told worn said n t w f i).1 = 1 := by
  intro i
  induction i with
  | zero => exact .inr rfl
  | succ i ih =>
    simp only [rsS]
    split
    · exact .inl (by assumption)
    · dsimp only; split <;> simp
/-- the row of a Prospect after a look, at its places -/
theorem mu5 {σ : Mem} {k : Int} {f : Int → Int} {a b c d e : Int} : mu (mu (mu (mu (mu (mr σ k f) k 1 a) k 0 b) k 2 c) k 3 d) k 4 e = mr σ k (ru (ru (ru (ru (ru f 1 a) 0 b) 2 c) 3 d) 4 e) := by
  rw [mu_mr, mu_mr, mu_mr, mu_mr, mu_mr]
end
section
theorem zz_tail : True := trivial
end
