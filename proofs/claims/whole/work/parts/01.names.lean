-- ===== PART A: goes FIRST, ahead of the names: the tables' words, and 'selects' of the private methods out of them =====
/-- a private method of a class that the tables say can be made, by its rows of tables_1 -/
def lw_okq (q : MethodName × Nat) : Prop := (q.1.cls ≠ "java/lang/invoke/MethodHandle" ∧ q.1.cls ≠ "java/lang/invoke/VarHandle") ∧ Cond.instantiable q.1.cls q.2 ∈ tables_1 ∧ Cond.privateMethod q.1 ∈ tables_1 ∧ Cond.instanceMethod q.1 ∈ tables_1
theorem lw_p0 : lw_okq (⟨"EvenTally$Reader", "readHead", "()Z"⟩, 5) := ⟨⟨by decide +kernel, by decide +kernel⟩, List.mem_of_getElem? (i := 125) (by decide +kernel), List.mem_of_getElem? (i := 292) (by decide +kernel), List.mem_of_getElem? (i := 293) (by decide +kernel)⟩
theorem lw_p1 : lw_okq (⟨"EvenTally$Reader", "take", "(I)Z"⟩, 5) := ⟨⟨by decide +kernel, by decide +kernel⟩, List.mem_of_getElem? (i := 125) (by decide +kernel), List.mem_of_getElem? (i := 296) (by decide +kernel), List.mem_of_getElem? (i := 297) (by decide +kernel)⟩
theorem lw_p2 : lw_okq (⟨"EvenTally$Reader", "readRest", "(Ljava/lang/String;I)Z"⟩, 5) := ⟨⟨by decide +kernel, by decide +kernel⟩, List.mem_of_getElem? (i := 125) (by decide +kernel), List.mem_of_getElem? (i := 301) (by decide +kernel), List.mem_of_getElem? (i := 302) (by decide +kernel)⟩
theorem lw_p3 : lw_okq (⟨"EvenTally$Reader", "readNumber", "()Z"⟩, 5) := ⟨⟨by decide +kernel, by decide +kernel⟩, List.mem_of_getElem? (i := 125) (by decide +kernel), List.mem_of_getElem? (i := 353) (by decide +kernel), List.mem_of_getElem? (i := 354) (by decide +kernel)⟩
theorem lw_p4 : lw_okq (⟨"EvenTally$Reader", "digit", "()I"⟩, 5) := ⟨⟨by decide +kernel, by decide +kernel⟩, List.mem_of_getElem? (i := 125) (by decide +kernel), List.mem_of_getElem? (i := 357) (by decide +kernel), List.mem_of_getElem? (i := 358) (by decide +kernel)⟩
theorem lw_p5 : lw_okq (⟨"EvenTally$Reader", "readEither", "(I)Z"⟩, 5) := ⟨⟨by decide +kernel, by decide +kernel⟩, List.mem_of_getElem? (i := 125) (by decide +kernel), List.mem_of_getElem? (i := 371) (by decide +kernel), List.mem_of_getElem? (i := 372) (by decide +kernel)⟩
theorem lw_p6 : lw_okq (⟨"EvenTally$Reader", "readBoth", "(I)Z"⟩, 5) := ⟨⟨by decide +kernel, by decide +kernel⟩, List.mem_of_getElem? (i := 125) (by decide +kernel), List.mem_of_getElem? (i := 375) (by decide +kernel), List.mem_of_getElem? (i := 376) (by decide +kernel)⟩
theorem lw_p7 : lw_okq (⟨"EvenTally$Reader", "readPart", "(I)Z"⟩, 5) := ⟨⟨by decide +kernel, by decide +kernel⟩, List.mem_of_getElem? (i := 125) (by decide +kernel), List.mem_of_getElem? (i := 379) (by decide +kernel), List.mem_of_getElem? (i := 380) (by decide +kernel)⟩
theorem lw_p8 : lw_okq (⟨"EvenTally$Reader", "readTest", "()Z"⟩, 5) := ⟨⟨by decide +kernel, by decide +kernel⟩, List.mem_of_getElem? (i := 125) (by decide +kernel), List.mem_of_getElem? (i := 383) (by decide +kernel), List.mem_of_getElem? (i := 384) (by decide +kernel)⟩
theorem lw_p9 : lw_okq (⟨"EvenTally$Reader", "takeOneOf", "(Ljava/lang/String;)I"⟩, 5) := ⟨⟨by decide +kernel, by decide +kernel⟩, List.mem_of_getElem? (i := 125) (by decide +kernel), List.mem_of_getElem? (i := 388) (by decide +kernel), List.mem_of_getElem? (i := 389) (by decide +kernel)⟩
theorem lw_p10 : lw_okq (⟨"EvenTally", "refusalOfTwo", "(II)I"⟩, 7) := ⟨⟨by decide +kernel, by decide +kernel⟩, List.mem_of_getElem? (i := 18) (by decide +kernel), List.mem_of_getElem? (i := 425) (by decide +kernel), List.mem_of_getElem? (i := 426) (by decide +kernel)⟩
theorem lw_p11 : lw_okq (⟨"EvenTally$Town", "holds", "(II)Z"⟩, 7) := ⟨⟨by decide +kernel, by decide +kernel⟩, List.mem_of_getElem? (i := 32) (by decide +kernel), List.mem_of_getElem? (i := 465) (by decide +kernel), List.mem_of_getElem? (i := 466) (by decide +kernel)⟩
theorem lw_p12 : lw_okq (⟨"EvenTally$Town", "passes", "(I)Z"⟩, 7) := ⟨⟨by decide +kernel, by decide +kernel⟩, List.mem_of_getElem? (i := 32) (by decide +kernel), List.mem_of_getElem? (i := 469) (by decide +kernel), List.mem_of_getElem? (i := 470) (by decide +kernel)⟩
theorem lw_p13 : lw_okq (⟨"EvenTally$State", "isShut", "(I)Z"⟩, 14) := ⟨⟨by decide +kernel, by decide +kernel⟩, List.mem_of_getElem? (i := 26) (by decide +kernel), List.mem_of_getElem? (i := 502) (by decide +kernel), List.mem_of_getElem? (i := 503) (by decide +kernel)⟩
theorem lw_p14 : lw_okq (⟨"EvenTally$Balance", "build", "(Z)V"⟩, 14) := ⟨⟨by decide +kernel, by decide +kernel⟩, List.mem_of_getElem? (i := 150) (by decide +kernel), List.mem_of_getElem? (i := 551) (by decide +kernel), List.mem_of_getElem? (i := 552) (by decide +kernel)⟩
theorem lw_p15 : lw_okq (⟨"EvenTally$Balance", "join", "(IIII)V"⟩, 14) := ⟨⟨by decide +kernel, by decide +kernel⟩, List.mem_of_getElem? (i := 150) (by decide +kernel), List.mem_of_getElem? (i := 558) (by decide +kernel), List.mem_of_getElem? (i := 559) (by decide +kernel)⟩
def lw_privs_1 : List (MethodName × Nat) := [(⟨"EvenTally$Reader", "readHead", "()Z"⟩, 5), (⟨"EvenTally$Reader", "take", "(I)Z"⟩, 5), (⟨"EvenTally$Reader", "readRest", "(Ljava/lang/String;I)Z"⟩, 5), (⟨"EvenTally$Reader", "readNumber", "()Z"⟩, 5), (⟨"EvenTally$Reader", "digit", "()I"⟩, 5), (⟨"EvenTally$Reader", "readEither", "(I)Z"⟩, 5), (⟨"EvenTally$Reader", "readBoth", "(I)Z"⟩, 5), (⟨"EvenTally$Reader", "readPart", "(I)Z"⟩, 5), (⟨"EvenTally$Reader", "readTest", "()Z"⟩, 5), (⟨"EvenTally$Reader", "takeOneOf", "(Ljava/lang/String;)I"⟩, 5), (⟨"EvenTally", "refusalOfTwo", "(II)I"⟩, 7), (⟨"EvenTally$Town", "holds", "(II)Z"⟩, 7), (⟨"EvenTally$Town", "passes", "(I)Z"⟩, 7), (⟨"EvenTally$State", "isShut", "(I)Z"⟩, 14), (⟨"EvenTally$Balance", "build", "(Z)V"⟩, 14), (⟨"EvenTally$Balance", "join", "(IIII)V"⟩, 14)]
theorem lw_r1 : ∀ q ∈ lw_privs_1, lw_okq q := List.forall_mem_cons.mpr ⟨lw_p0, List.forall_mem_cons.mpr ⟨lw_p1, List.forall_mem_cons.mpr ⟨lw_p2, List.forall_mem_cons.mpr ⟨lw_p3, List.forall_mem_cons.mpr ⟨lw_p4, List.forall_mem_cons.mpr ⟨lw_p5, List.forall_mem_cons.mpr ⟨lw_p6, List.forall_mem_cons.mpr ⟨lw_p7, List.forall_mem_cons.mpr ⟨lw_p8, List.forall_mem_cons.mpr ⟨lw_p9, List.forall_mem_cons.mpr ⟨lw_p10, List.forall_mem_cons.mpr ⟨lw_p11, List.forall_mem_cons.mpr ⟨lw_p12, List.forall_mem_cons.mpr ⟨lw_p13, List.forall_mem_cons.mpr ⟨lw_p14, List.forall_mem_cons.mpr ⟨lw_p15, fun _ h => absurd h List.not_mem_nil⟩⟩⟩⟩⟩⟩⟩⟩⟩⟩⟩⟩⟩⟩⟩⟩
theorem lw_p16 : lw_okq (⟨"EvenTally$Balance", "putEdge", "(IIII)V"⟩, 14) := ⟨⟨by decide +kernel, by decide +kernel⟩, List.mem_of_getElem? (i := 150) (by decide +kernel), List.mem_of_getElem? (i := 562) (by decide +kernel), List.mem_of_getElem? (i := 563) (by decide +kernel)⟩
theorem lw_p17 : lw_okq (⟨"EvenTally$Balance", "isUnsettled", "()Z"⟩, 14) := ⟨⟨by decide +kernel, by decide +kernel⟩, List.mem_of_getElem? (i := 150) (by decide +kernel), List.mem_of_getElem? (i := 567) (by decide +kernel), List.mem_of_getElem? (i := 568) (by decide +kernel)⟩
theorem lw_p18 : lw_okq (⟨"EvenTally$Balance", "search", "()V"⟩, 14) := ⟨⟨by decide +kernel, by decide +kernel⟩, List.mem_of_getElem? (i := 150) (by decide +kernel), List.mem_of_getElem? (i := 571) (by decide +kernel), List.mem_of_getElem? (i := 572) (by decide +kernel)⟩
theorem lw_p19 : lw_okq (⟨"EvenTally$Balance", "nearest", "()I"⟩, 14) := ⟨⟨by decide +kernel, by decide +kernel⟩, List.mem_of_getElem? (i := 150) (by decide +kernel), List.mem_of_getElem? (i := 576) (by decide +kernel), List.mem_of_getElem? (i := 577) (by decide +kernel)⟩
theorem lw_p20 : lw_okq (⟨"EvenTally$Balance", "send", "(I)I"⟩, 14) := ⟨⟨by decide +kernel, by decide +kernel⟩, List.mem_of_getElem? (i := 150) (by decide +kernel), List.mem_of_getElem? (i := 580) (by decide +kernel), List.mem_of_getElem? (i := 581) (by decide +kernel)⟩
theorem lw_p21 : lw_okq (⟨"EvenTally$Routes", "price", "(II)I"⟩, 6) := ⟨⟨by decide +kernel, by decide +kernel⟩, List.mem_of_getElem? (i := 201) (by decide +kernel), List.mem_of_getElem? (i := 610) (by decide +kernel), List.mem_of_getElem? (i := 611) (by decide +kernel)⟩
theorem lw_p22 : lw_okq (⟨"EvenTally$Routes", "leastRest", "(II)I"⟩, 6) := ⟨⟨by decide +kernel, by decide +kernel⟩, List.mem_of_getElem? (i := 201) (by decide +kernel), List.mem_of_getElem? (i := 627) (by decide +kernel), List.mem_of_getElem? (i := 628) (by decide +kernel)⟩
theorem lw_p23 : lw_okq (⟨"EvenTally$Routes", "restBy", "(III)I"⟩, 6) := ⟨⟨by decide +kernel, by decide +kernel⟩, List.mem_of_getElem? (i := 201) (by decide +kernel), List.mem_of_getElem? (i := 631) (by decide +kernel), List.mem_of_getElem? (i := 632) (by decide +kernel)⟩
theorem lw_p24 : lw_okq (⟨"EvenTally$Routes", "firstOf", "(II)I"⟩, 6) := ⟨⟨by decide +kernel, by decide +kernel⟩, List.mem_of_getElem? (i := 201) (by decide +kernel), List.mem_of_getElem? (i := 644) (by decide +kernel), List.mem_of_getElem? (i := 645) (by decide +kernel)⟩
theorem lw_p25 : lw_okq (⟨"EvenTally$Routes", "begin", "(I)V"⟩, 6) := ⟨⟨by decide +kernel, by decide +kernel⟩, List.mem_of_getElem? (i := 201) (by decide +kernel), List.mem_of_getElem? (i := 665) (by decide +kernel), List.mem_of_getElem? (i := 666) (by decide +kernel)⟩
theorem lw_p26 : lw_okq (⟨"EvenTally$Routes", "give", "(IJ)V"⟩, 6) := ⟨⟨by decide +kernel, by decide +kernel⟩, List.mem_of_getElem? (i := 201) (by decide +kernel), List.mem_of_getElem? (i := 672) (by decide +kernel), List.mem_of_getElem? (i := 673) (by decide +kernel)⟩
theorem lw_p27 : lw_okq (⟨"EvenTally$Routes", "share", "(I)V"⟩, 6) := ⟨⟨by decide +kernel, by decide +kernel⟩, List.mem_of_getElem? (i := 201) (by decide +kernel), List.mem_of_getElem? (i := 686) (by decide +kernel), List.mem_of_getElem? (i := 687) (by decide +kernel)⟩
theorem lw_p28 : lw_okq (⟨"EvenTally$Actor", "run", "(IIII)I"⟩, 5) := ⟨⟨by decide +kernel, by decide +kernel⟩, List.mem_of_getElem? (i := 227) (by decide +kernel), List.mem_of_getElem? (i := 723) (by decide +kernel), List.mem_of_getElem? (i := 724) (by decide +kernel)⟩
theorem lw_p29 : lw_okq (⟨"EvenTally$Actor", "runBody", "(IIII)I"⟩, 5) := ⟨⟨by decide +kernel, by decide +kernel⟩, List.mem_of_getElem? (i := 227) (by decide +kernel), List.mem_of_getElem? (i := 730) (by decide +kernel), List.mem_of_getElem? (i := 731) (by decide +kernel)⟩
theorem lw_p30 : lw_okq (⟨"EvenTally$Actor", "note", "(I)V"⟩, 5) := ⟨⟨by decide +kernel, by decide +kernel⟩, List.mem_of_getElem? (i := 227) (by decide +kernel), List.mem_of_getElem? (i := 734) (by decide +kernel), List.mem_of_getElem? (i := 735) (by decide +kernel)⟩
theorem lw_p31 : lw_okq (⟨"EvenTallyModel", "clauseHere", "()V"⟩, 38) := ⟨⟨by decide +kernel, by decide +kernel⟩, List.mem_of_getElem? (i := 765) (by decide +kernel), List.mem_of_getElem? (i := 897) (by decide +kernel), List.mem_of_getElem? (i := 898) (by decide +kernel)⟩
def lw_privs_2 : List (MethodName × Nat) := [(⟨"EvenTally$Balance", "putEdge", "(IIII)V"⟩, 14), (⟨"EvenTally$Balance", "isUnsettled", "()Z"⟩, 14), (⟨"EvenTally$Balance", "search", "()V"⟩, 14), (⟨"EvenTally$Balance", "nearest", "()I"⟩, 14), (⟨"EvenTally$Balance", "send", "(I)I"⟩, 14), (⟨"EvenTally$Routes", "price", "(II)I"⟩, 6), (⟨"EvenTally$Routes", "leastRest", "(II)I"⟩, 6), (⟨"EvenTally$Routes", "restBy", "(III)I"⟩, 6), (⟨"EvenTally$Routes", "firstOf", "(II)I"⟩, 6), (⟨"EvenTally$Routes", "begin", "(I)V"⟩, 6), (⟨"EvenTally$Routes", "give", "(IJ)V"⟩, 6), (⟨"EvenTally$Routes", "share", "(I)V"⟩, 6), (⟨"EvenTally$Actor", "run", "(IIII)I"⟩, 5), (⟨"EvenTally$Actor", "runBody", "(IIII)I"⟩, 5), (⟨"EvenTally$Actor", "note", "(I)V"⟩, 5), (⟨"EvenTallyModel", "clauseHere", "()V"⟩, 38)]
theorem lw_r2 : ∀ q ∈ lw_privs_2, lw_okq q := List.forall_mem_cons.mpr ⟨lw_p16, List.forall_mem_cons.mpr ⟨lw_p17, List.forall_mem_cons.mpr ⟨lw_p18, List.forall_mem_cons.mpr ⟨lw_p19, List.forall_mem_cons.mpr ⟨lw_p20, List.forall_mem_cons.mpr ⟨lw_p21, List.forall_mem_cons.mpr ⟨lw_p22, List.forall_mem_cons.mpr ⟨lw_p23, List.forall_mem_cons.mpr ⟨lw_p24, List.forall_mem_cons.mpr ⟨lw_p25, List.forall_mem_cons.mpr ⟨lw_p26, List.forall_mem_cons.mpr ⟨lw_p27, List.forall_mem_cons.mpr ⟨lw_p28, List.forall_mem_cons.mpr ⟨lw_p29, List.forall_mem_cons.mpr ⟨lw_p30, List.forall_mem_cons.mpr ⟨lw_p31, fun _ h => absurd h List.not_mem_nil⟩⟩⟩⟩⟩⟩⟩⟩⟩⟩⟩⟩⟩⟩⟩⟩
theorem lw_p32 : lw_okq (⟨"EvenTallyModel", "here", "()I"⟩, 38) := ⟨⟨by decide +kernel, by decide +kernel⟩, List.mem_of_getElem? (i := 765) (by decide +kernel), List.mem_of_getElem? (i := 901) (by decide +kernel), List.mem_of_getElem? (i := 902) (by decide +kernel)⟩
theorem lw_p33 : lw_okq (⟨"EvenTallyModel", "much", "(ILjava/lang/String;)V"⟩, 38) := ⟨⟨by decide +kernel, by decide +kernel⟩, List.mem_of_getElem? (i := 765) (by decide +kernel), List.mem_of_getElem? (i := 906) (by decide +kernel), List.mem_of_getElem? (i := 907) (by decide +kernel)⟩
theorem lw_p34 : lw_okq (⟨"EvenTallyModel", "spells", "(Ljava/lang/String;)V"⟩, 38) := ⟨⟨by decide +kernel, by decide +kernel⟩, List.mem_of_getElem? (i := 765) (by decide +kernel), List.mem_of_getElem? (i := 910) (by decide +kernel), List.mem_of_getElem? (i := 911) (by decide +kernel)⟩
theorem lw_p35 : lw_okq (⟨"EvenTallyModel", "must", "(I)V"⟩, 38) := ⟨⟨by decide +kernel, by decide +kernel⟩, List.mem_of_getElem? (i := 765) (by decide +kernel), List.mem_of_getElem? (i := 916) (by decide +kernel), List.mem_of_getElem? (i := 917) (by decide +kernel)⟩
theorem lw_p36 : lw_okq (⟨"EvenTallyModel", "figures", "()I"⟩, 38) := ⟨⟨by decide +kernel, by decide +kernel⟩, List.mem_of_getElem? (i := 765) (by decide +kernel), List.mem_of_getElem? (i := 920) (by decide +kernel), List.mem_of_getElem? (i := 921) (by decide +kernel)⟩
theorem lw_p37 : lw_okq (⟨"EvenTallyModel", "some", "()V"⟩, 38) := ⟨⟨by decide +kernel, by decide +kernel⟩, List.mem_of_getElem? (i := 765) (by decide +kernel), List.mem_of_getElem? (i := 924) (by decide +kernel), List.mem_of_getElem? (i := 925) (by decide +kernel)⟩
theorem lw_p38 : lw_okq (⟨"EvenTallyModel", "every", "()V"⟩, 38) := ⟨⟨by decide +kernel, by decide +kernel⟩, List.mem_of_getElem? (i := 765) (by decide +kernel), List.mem_of_getElem? (i := 928) (by decide +kernel), List.mem_of_getElem? (i := 929) (by decide +kernel)⟩
theorem lw_p39 : lw_okq (⟨"EvenTallyModel", "factor", "()V"⟩, 38) := ⟨⟨by decide +kernel, by decide +kernel⟩, List.mem_of_getElem? (i := 765) (by decide +kernel), List.mem_of_getElem? (i := 932) (by decide +kernel), List.mem_of_getElem? (i := 933) (by decide +kernel)⟩
theorem lw_p40 : lw_okq (⟨"EvenTallyModel", "emits", "(I)V"⟩, 38) := ⟨⟨by decide +kernel, by decide +kernel⟩, List.mem_of_getElem? (i := 765) (by decide +kernel), List.mem_of_getElem? (i := 936) (by decide +kernel), List.mem_of_getElem? (i := 937) (by decide +kernel)⟩
theorem lw_p41 : lw_okq (⟨"EvenTallyModel", "among", "(Ljava/lang/String;)I"⟩, 38) := ⟨⟨by decide +kernel, by decide +kernel⟩, List.mem_of_getElem? (i := 765) (by decide +kernel), List.mem_of_getElem? (i := 941) (by decide +kernel), List.mem_of_getElem? (i := 942) (by decide +kernel)⟩
theorem lw_p42 : lw_okq (⟨"EvenTallyModel", "isStreet", "(I)Z"⟩, 38) := ⟨⟨by decide +kernel, by decide +kernel⟩, List.mem_of_getElem? (i := 765) (by decide +kernel), List.mem_of_getElem? (i := 960) (by decide +kernel), List.mem_of_getElem? (i := 961) (by decide +kernel)⟩
theorem lw_p43 : lw_okq (⟨"EvenTallyModel", "uneven", "(I)I"⟩, 38) := ⟨⟨by decide +kernel, by decide +kernel⟩, List.mem_of_getElem? (i := 765) (by decide +kernel), List.mem_of_getElem? (i := 969) (by decide +kernel), List.mem_of_getElem? (i := 970) (by decide +kernel)⟩
theorem lw_p44 : lw_okq (⟨"EvenTallyModel", "allowedOf", "(I)I"⟩, 38) := ⟨⟨by decide +kernel, by decide +kernel⟩, List.mem_of_getElem? (i := 765) (by decide +kernel), List.mem_of_getElem? (i := 973) (by decide +kernel), List.mem_of_getElem? (i := 974) (by decide +kernel)⟩
theorem lw_p45 : lw_okq (⟨"EvenTallyModel", "looks", "(I)V"⟩, 38) := ⟨⟨by decide +kernel, by decide +kernel⟩, List.mem_of_getElem? (i := 765) (by decide +kernel), List.mem_of_getElem? (i := 977) (by decide +kernel), List.mem_of_getElem? (i := 978) (by decide +kernel)⟩
theorem lw_p46 : lw_okq (⟨"EvenTallyModel", "leadsFrom", "(I)I"⟩, 38) := ⟨⟨by decide +kernel, by decide +kernel⟩, List.mem_of_getElem? (i := 765) (by decide +kernel), List.mem_of_getElem? (i := 984) (by decide +kernel), List.mem_of_getElem? (i := 985) (by decide +kernel)⟩
theorem lw_p47 : lw_okq (⟨"EvenTallyModel", "fineOf", "(I)I"⟩, 38) := ⟨⟨by decide +kernel, by decide +kernel⟩, List.mem_of_getElem? (i := 765) (by decide +kernel), List.mem_of_getElem? (i := 991) (by decide +kernel), List.mem_of_getElem? (i := 992) (by decide +kernel)⟩
def lw_privs_3 : List (MethodName × Nat) := [(⟨"EvenTallyModel", "here", "()I"⟩, 38), (⟨"EvenTallyModel", "much", "(ILjava/lang/String;)V"⟩, 38), (⟨"EvenTallyModel", "spells", "(Ljava/lang/String;)V"⟩, 38), (⟨"EvenTallyModel", "must", "(I)V"⟩, 38), (⟨"EvenTallyModel", "figures", "()I"⟩, 38), (⟨"EvenTallyModel", "some", "()V"⟩, 38), (⟨"EvenTallyModel", "every", "()V"⟩, 38), (⟨"EvenTallyModel", "factor", "()V"⟩, 38), (⟨"EvenTallyModel", "emits", "(I)V"⟩, 38), (⟨"EvenTallyModel", "among", "(Ljava/lang/String;)I"⟩, 38), (⟨"EvenTallyModel", "isStreet", "(I)Z"⟩, 38), (⟨"EvenTallyModel", "uneven", "(I)I"⟩, 38), (⟨"EvenTallyModel", "allowedOf", "(I)I"⟩, 38), (⟨"EvenTallyModel", "looks", "(I)V"⟩, 38), (⟨"EvenTallyModel", "leadsFrom", "(I)I"⟩, 38), (⟨"EvenTallyModel", "fineOf", "(I)I"⟩, 38)]
theorem lw_r3 : ∀ q ∈ lw_privs_3, lw_okq q := List.forall_mem_cons.mpr ⟨lw_p32, List.forall_mem_cons.mpr ⟨lw_p33, List.forall_mem_cons.mpr ⟨lw_p34, List.forall_mem_cons.mpr ⟨lw_p35, List.forall_mem_cons.mpr ⟨lw_p36, List.forall_mem_cons.mpr ⟨lw_p37, List.forall_mem_cons.mpr ⟨lw_p38, List.forall_mem_cons.mpr ⟨lw_p39, List.forall_mem_cons.mpr ⟨lw_p40, List.forall_mem_cons.mpr ⟨lw_p41, List.forall_mem_cons.mpr ⟨lw_p42, List.forall_mem_cons.mpr ⟨lw_p43, List.forall_mem_cons.mpr ⟨lw_p44, List.forall_mem_cons.mpr ⟨lw_p45, List.forall_mem_cons.mpr ⟨lw_p46, List.forall_mem_cons.mpr ⟨lw_p47, fun _ h => absurd h List.not_mem_nil⟩⟩⟩⟩⟩⟩⟩⟩⟩⟩⟩⟩⟩⟩⟩⟩
theorem lw_p48 : lw_okq (⟨"EvenTallyModel", "stepOf", "(I)I"⟩, 38) := ⟨⟨by decide +kernel, by decide +kernel⟩, List.mem_of_getElem? (i := 765) (by decide +kernel), List.mem_of_getElem? (i := 995) (by decide +kernel), List.mem_of_getElem? (i := 996) (by decide +kernel)⟩
theorem lw_p49 : lw_okq (⟨"EvenTallyModel", "paysOf", "(I)I"⟩, 38) := ⟨⟨by decide +kernel, by decide +kernel⟩, List.mem_of_getElem? (i := 765) (by decide +kernel), List.mem_of_getElem? (i := 999) (by decide +kernel), List.mem_of_getElem? (i := 1000) (by decide +kernel)⟩
theorem lw_p50 : lw_okq (⟨"EvenTallyModel", "openFrom", "(I)I"⟩, 38) := ⟨⟨by decide +kernel, by decide +kernel⟩, List.mem_of_getElem? (i := 765) (by decide +kernel), List.mem_of_getElem? (i := 1003) (by decide +kernel), List.mem_of_getElem? (i := 1004) (by decide +kernel)⟩
theorem lw_p51 : lw_okq (⟨"EvenTallyModel", "isOpen", "(II)Z"⟩, 38) := ⟨⟨by decide +kernel, by decide +kernel⟩, List.mem_of_getElem? (i := 765) (by decide +kernel), List.mem_of_getElem? (i := 1007) (by decide +kernel), List.mem_of_getElem? (i := 1008) (by decide +kernel)⟩
theorem lw_p52 : lw_okq (⟨"EvenTallyModel", "paying", "()I"⟩, 38) := ⟨⟨by decide +kernel, by decide +kernel⟩, List.mem_of_getElem? (i := 765) (by decide +kernel), List.mem_of_getElem? (i := 1015) (by decide +kernel), List.mem_of_getElem? (i := 1016) (by decide +kernel)⟩
theorem lw_p53 : lw_okq (⟨"EvenTallyModel", "looksForAll", "()V"⟩, 38) := ⟨⟨by decide +kernel, by decide +kernel⟩, List.mem_of_getElem? (i := 765) (by decide +kernel), List.mem_of_getElem? (i := 1033) (by decide +kernel), List.mem_of_getElem? (i := 1034) (by decide +kernel)⟩
theorem lw_p54 : lw_okq (⟨"EvenTallyModel", "costBy", "(Z)I"⟩, 38) := ⟨⟨by decide +kernel, by decide +kernel⟩, List.mem_of_getElem? (i := 765) (by decide +kernel), List.mem_of_getElem? (i := 1037) (by decide +kernel), List.mem_of_getElem? (i := 1038) (by decide +kernel)⟩
theorem lw_p55 : lw_okq (⟨"EvenTallyModel", "looksForRoads", "(Z)V"⟩, 38) := ⟨⟨by decide +kernel, by decide +kernel⟩, List.mem_of_getElem? (i := 765) (by decide +kernel), List.mem_of_getElem? (i := 1041) (by decide +kernel), List.mem_of_getElem? (i := 1042) (by decide +kernel)⟩
theorem lw_p56 : lw_okq (⟨"EvenTallyModel", "road", "(IIII)V"⟩, 38) := ⟨⟨by decide +kernel, by decide +kernel⟩, List.mem_of_getElem? (i := 765) (by decide +kernel), List.mem_of_getElem? (i := 1046) (by decide +kernel), List.mem_of_getElem? (i := 1047) (by decide +kernel)⟩
theorem lw_p57 : lw_okq (⟨"EvenTallyModel", "sends", "()Z"⟩, 38) := ⟨⟨by decide +kernel, by decide +kernel⟩, List.mem_of_getElem? (i := 765) (by decide +kernel), List.mem_of_getElem? (i := 1050) (by decide +kernel), List.mem_of_getElem? (i := 1051) (by decide +kernel)⟩
theorem lw_p58 : lw_okq (⟨"EvenTallyModel", "looksForFar", "()V"⟩, 38) := ⟨⟨by decide +kernel, by decide +kernel⟩, List.mem_of_getElem? (i := 765) (by decide +kernel), List.mem_of_getElem? (i := 1054) (by decide +kernel), List.mem_of_getElem? (i := 1055) (by decide +kernel)⟩
theorem lw_p59 : lw_okq (⟨"EvenTallyModel", "isPlace", "(I)Z"⟩, 38) := ⟨⟨by decide +kernel, by decide +kernel⟩, List.mem_of_getElem? (i := 765) (by decide +kernel), List.mem_of_getElem? (i := 1058) (by decide +kernel), List.mem_of_getElem? (i := 1059) (by decide +kernel)⟩
theorem lw_p60 : lw_okq (⟨"EvenTallyModel", "roomBehind", "(I)I"⟩, 38) := ⟨⟨by decide +kernel, by decide +kernel⟩, List.mem_of_getElem? (i := 765) (by decide +kernel), List.mem_of_getElem? (i := 1062) (by decide +kernel), List.mem_of_getElem? (i := 1063) (by decide +kernel)⟩
theorem lw_p61 : lw_okq (⟨"EvenTallyModel", "before", "(I)I"⟩, 38) := ⟨⟨by decide +kernel, by decide +kernel⟩, List.mem_of_getElem? (i := 765) (by decide +kernel), List.mem_of_getElem? (i := 1066) (by decide +kernel), List.mem_of_getElem? (i := 1067) (by decide +kernel)⟩
theorem lw_p62 : lw_okq (⟨"EvenTallyModel", "changes", "(IIZ)I"⟩, 38) := ⟨⟨by decide +kernel, by decide +kernel⟩, List.mem_of_getElem? (i := 765) (by decide +kernel), List.mem_of_getElem? (i := 1078) (by decide +kernel), List.mem_of_getElem? (i := 1079) (by decide +kernel)⟩
theorem lw_p63 : lw_okq (⟨"EvenTallyModel", "looksForWays", "()V"⟩, 38) := ⟨⟨by decide +kernel, by decide +kernel⟩, List.mem_of_getElem? (i := 765) (by decide +kernel), List.mem_of_getElem? (i := 1090) (by decide +kernel), List.mem_of_getElem? (i := 1091) (by decide +kernel)⟩
def lw_privs_4 : List (MethodName × Nat) := [(⟨"EvenTallyModel", "stepOf", "(I)I"⟩, 38), (⟨"EvenTallyModel", "paysOf", "(I)I"⟩, 38), (⟨"EvenTallyModel", "openFrom", "(I)I"⟩, 38), (⟨"EvenTallyModel", "isOpen", "(II)Z"⟩, 38), (⟨"EvenTallyModel", "paying", "()I"⟩, 38), (⟨"EvenTallyModel", "looksForAll", "()V"⟩, 38), (⟨"EvenTallyModel", "costBy", "(Z)I"⟩, 38), (⟨"EvenTallyModel", "looksForRoads", "(Z)V"⟩, 38), (⟨"EvenTallyModel", "road", "(IIII)V"⟩, 38), (⟨"EvenTallyModel", "sends", "()Z"⟩, 38), (⟨"EvenTallyModel", "looksForFar", "()V"⟩, 38), (⟨"EvenTallyModel", "isPlace", "(I)Z"⟩, 38), (⟨"EvenTallyModel", "roomBehind", "(I)I"⟩, 38), (⟨"EvenTallyModel", "before", "(I)I"⟩, 38), (⟨"EvenTallyModel", "changes", "(IIZ)I"⟩, 38), (⟨"EvenTallyModel", "looksForWays", "()V"⟩, 38)]
theorem lw_r4 : ∀ q ∈ lw_privs_4, lw_okq q := List.forall_mem_cons.mpr ⟨lw_p48, List.forall_mem_cons.mpr ⟨lw_p49, List.forall_mem_cons.mpr ⟨lw_p50, List.forall_mem_cons.mpr ⟨lw_p51, List.forall_mem_cons.mpr ⟨lw_p52, List.forall_mem_cons.mpr ⟨lw_p53, List.forall_mem_cons.mpr ⟨lw_p54, List.forall_mem_cons.mpr ⟨lw_p55, List.forall_mem_cons.mpr ⟨lw_p56, List.forall_mem_cons.mpr ⟨lw_p57, List.forall_mem_cons.mpr ⟨lw_p58, List.forall_mem_cons.mpr ⟨lw_p59, List.forall_mem_cons.mpr ⟨lw_p60, List.forall_mem_cons.mpr ⟨lw_p61, List.forall_mem_cons.mpr ⟨lw_p62, List.forall_mem_cons.mpr ⟨lw_p63, fun _ h => absurd h List.not_mem_nil⟩⟩⟩⟩⟩⟩⟩⟩⟩⟩⟩⟩⟩⟩⟩⟩
theorem lw_p64 : lw_okq (⟨"EvenTallyModel", "ordersFrom", "(IIIII)V"⟩, 38) := ⟨⟨by decide +kernel, by decide +kernel⟩, List.mem_of_getElem? (i := 765) (by decide +kernel), List.mem_of_getElem? (i := 1098) (by decide +kernel), List.mem_of_getElem? (i := 1099) (by decide +kernel)⟩
theorem lw_p65 : lw_okq (⟨"EvenTallyModel", "begins", "(I)V"⟩, 38) := ⟨⟨by decide +kernel, by decide +kernel⟩, List.mem_of_getElem? (i := 765) (by decide +kernel), List.mem_of_getElem? (i := 1111) (by decide +kernel), List.mem_of_getElem? (i := 1112) (by decide +kernel)⟩
theorem lw_p66 : lw_okq (⟨"EvenTallyModel", "goesOn", "(Z)V"⟩, 38) := ⟨⟨by decide +kernel, by decide +kernel⟩, List.mem_of_getElem? (i := 765) (by decide +kernel), List.mem_of_getElem? (i := 1115) (by decide +kernel), List.mem_of_getElem? (i := 1116) (by decide +kernel)⟩
theorem lw_p67 : lw_okq (⟨"EvenTallyModel", "countsActs", "(I)I"⟩, 38) := ⟨⟨by decide +kernel, by decide +kernel⟩, List.mem_of_getElem? (i := 765) (by decide +kernel), List.mem_of_getElem? (i := 1139) (by decide +kernel), List.mem_of_getElem? (i := 1140) (by decide +kernel)⟩
theorem lw_p68 : lw_okq (⟨"EvenTallyModel", "ranBody", "(I)V"⟩, 38) := ⟨⟨by decide +kernel, by decide +kernel⟩, List.mem_of_getElem? (i := 765) (by decide +kernel), List.mem_of_getElem? (i := 1146) (by decide +kernel), List.mem_of_getElem? (i := 1147) (by decide +kernel)⟩
theorem lw_p69 : lw_okq (⟨"EvenTallyModel", "plainCounts", "(I)I"⟩, 38) := ⟨⟨by decide +kernel, by decide +kernel⟩, List.mem_of_getElem? (i := 765) (by decide +kernel), List.mem_of_getElem? (i := 1150) (by decide +kernel), List.mem_of_getElem? (i := 1151) (by decide +kernel)⟩
theorem lw_p70 : lw_okq (⟨"EvenTallyModel", "paysActs", "(I)I"⟩, 38) := ⟨⟨by decide +kernel, by decide +kernel⟩, List.mem_of_getElem? (i := 765) (by decide +kernel), List.mem_of_getElem? (i := 1154) (by decide +kernel), List.mem_of_getElem? (i := 1155) (by decide +kernel)⟩
theorem lw_p71 : lw_okq (⟨"EvenTallyModel", "plainPays", "(I)I"⟩, 38) := ⟨⟨by decide +kernel, by decide +kernel⟩, List.mem_of_getElem? (i := 765) (by decide +kernel), List.mem_of_getElem? (i := 1158) (by decide +kernel), List.mem_of_getElem? (i := 1159) (by decide +kernel)⟩
theorem lw_p72 : lw_okq (⟨"EvenTallyModel", "tellsActs", "(I)I"⟩, 38) := ⟨⟨by decide +kernel, by decide +kernel⟩, List.mem_of_getElem? (i := 765) (by decide +kernel), List.mem_of_getElem? (i := 1162) (by decide +kernel), List.mem_of_getElem? (i := 1163) (by decide +kernel)⟩
theorem lw_p73 : lw_okq (⟨"EvenTallyModel", "plainTells", "(I)I"⟩, 38) := ⟨⟨by decide +kernel, by decide +kernel⟩, List.mem_of_getElem? (i := 765) (by decide +kernel), List.mem_of_getElem? (i := 1166) (by decide +kernel), List.mem_of_getElem? (i := 1167) (by decide +kernel)⟩
def lw_privs_5 : List (MethodName × Nat) := [(⟨"EvenTallyModel", "ordersFrom", "(IIIII)V"⟩, 38), (⟨"EvenTallyModel", "begins", "(I)V"⟩, 38), (⟨"EvenTallyModel", "goesOn", "(Z)V"⟩, 38), (⟨"EvenTallyModel", "countsActs", "(I)I"⟩, 38), (⟨"EvenTallyModel", "ranBody", "(I)V"⟩, 38), (⟨"EvenTallyModel", "plainCounts", "(I)I"⟩, 38), (⟨"EvenTallyModel", "paysActs", "(I)I"⟩, 38), (⟨"EvenTallyModel", "plainPays", "(I)I"⟩, 38), (⟨"EvenTallyModel", "tellsActs", "(I)I"⟩, 38), (⟨"EvenTallyModel", "plainTells", "(I)I"⟩, 38)]
theorem lw_r5 : ∀ q ∈ lw_privs_5, lw_okq q := List.forall_mem_cons.mpr ⟨lw_p64, List.forall_mem_cons.mpr ⟨lw_p65, List.forall_mem_cons.mpr ⟨lw_p66, List.forall_mem_cons.mpr ⟨lw_p67, List.forall_mem_cons.mpr ⟨lw_p68, List.forall_mem_cons.mpr ⟨lw_p69, List.forall_mem_cons.mpr ⟨lw_p70, List.forall_mem_cons.mpr ⟨lw_p71, List.forall_mem_cons.mpr ⟨lw_p72, List.forall_mem_cons.mpr ⟨lw_p73, fun _ h => absurd h List.not_mem_nil⟩⟩⟩⟩⟩⟩⟩⟩⟩⟩
def lw_privs : List (MethodName × Nat) := lw_privs_1 ++ (lw_privs_2 ++ (lw_privs_3 ++ (lw_privs_4 ++ (lw_privs_5))))
def lw_tbl : List Cond := k2_sels lw_privs ++ tables_1
theorem lw_privs_ok : ∀ q ∈ lw_privs, lw_okq q := by
  show ∀ q ∈ lw_privs_1 ++ (lw_privs_2 ++ (lw_privs_3 ++ (lw_privs_4 ++ (lw_privs_5)))), lw_okq q
  exact List.forall_mem_append.mpr ⟨lw_r1, List.forall_mem_append.mpr ⟨lw_r2, List.forall_mem_append.mpr ⟨lw_r3, List.forall_mem_append.mpr ⟨lw_r4, lw_r5⟩⟩⟩⟩
/-! ===== BEGIN words of one list among another's, by their places ===== -/
theorem goodIn_r {big : List Cond} (ws : List Cond) (ps : List Nat) (hp : ws = ps.filterMap (fun i => big[i]?)) (h : ws.all goodWord = true) : GoodIn big ws := by
  intro w hw
  have h1 := List.all_eq_true.mp h w hw
  rw [hp] at hw
  obtain ⟨i, -, hi⟩ := List.mem_filterMap.mp hw
  have hm : w ∈ big := by first | exact List.mem_of_getElem? hi | exact List.getElem?_mem hi
  exact ⟨hm, good_of_word h1⟩
theorem goodIn_app {big a b : List Cond} (ha : GoodIn big a) (hb : GoodIn big b) : GoodIn big (a ++ b) := fun w h => (List.mem_append.mp h).elim (ha w) (hb w)
theorem goodIn_ca {big a b : List Cond} {c : Cond} (ha : GoodIn big (c :: a)) (hb : GoodIn big b) : GoodIn big (c :: (a ++ b)) := fun w h => (List.mem_cons.mp h).elim (fun e => ha w (List.mem_cons.mpr (Or.inl e))) (fun h => (List.mem_append.mp h).elim (fun h => ha w (List.mem_cons.mpr (Or.inr h))) (hb w))
theorem goodIn_sub {big ws : List Cond} (hm : ∀ w ∈ ws, w ∈ big) (h : ws.all goodWord = true) : GoodIn big ws := fun w hw => ⟨hm w hw, good_of_word (List.all_eq_true.mp h w hw)⟩
/-! ===== END ===== -/

/-! ===== BEGIN printed: names, fields, word lists, decode rows ===== -/
def RX0 : String := "EvenTally$Actor"
def TX0 : u_T := fun k => match k with
  | 0 => ("EvenTally$Actor", "ran", "I", false)
  | 1 => ("EvenTally$Actor", "traced", "[I", true)
  | 2 => ("EvenTally$Actor", "number", "I", false)
  | 3 => ("EvenTally$Actor", "kind", "I", false)
  | _ => ("EvenTally$Actor", "v", "I", false)
def tyX0 : Nat → FieldType := fun k => match k with
  | 0 => .int
  | 1 => .array .int
  | 2 => .int
  | 3 => .int
  | _ => .int
abbrev wsX00 : List Cond := u_ws RX0 TX0 5
theorem nmX0 : ∀ a, a < 5 → ∀ b, b < 5 → a ≠ b → (TX0 a).2.1 ≠ (TX0 b).2.1 := by decide +kernel
theorem tyX0_ok : ∀ k, k < 5 → parseFieldDescriptor (TX0 k).2.2.1 = some (tyX0 k) := by decide +kernel
abbrev cX0_init : ByteArray := prog_2_method_1_code
def yX0_init : MethodName := ⟨RX0, "<init>", "()V"⟩
abbrev cX0_forget : ByteArray := prog_2_method_2_code
def yX0_forget : MethodName := ⟨RX0, "forget", "()V"⟩
abbrev cX0_perform : ByteArray := prog_2_method_3_code
def yX0_perform : MethodName := ⟨RX0, "perform", "(LEvenTally$State;III)I"⟩
abbrev cX0_run : ByteArray := prog_2_method_4_code
def yX0_run : MethodName := ⟨RX0, "run", "(IIII)I"⟩
abbrev cX0_runBody : ByteArray := prog_2_method_5_code
def yX0_runBody : MethodName := ⟨RX0, "runBody", "(IIII)I"⟩
abbrev cX0_note : ByteArray := prog_2_method_6_code
def yX0_note : MethodName := ⟨RX0, "note", "(I)V"⟩
def RX1 : String := "EvenTally$Balance"
def TX1 : u_T := fun k => match k with
  | 0 => ("EvenTally$Balance", "streets", "I", false)
  | 1 => ("EvenTally$Balance", "open", "[I", true)
  | 2 => ("EvenTally$Balance", "allowed", "[I", true)
  | 3 => ("EvenTally$Balance", "uneven", "[I", true)
  | 4 => ("EvenTally$Balance", "fine", "[I", true)
  | 5 => ("EvenTally$Balance", "step", "[I", true)
  | 6 => ("EvenTally$Balance", "edges", "I", false)
  | 7 => ("EvenTally$Balance", "from", "[I", true)
  | 8 => ("EvenTally$Balance", "to", "[I", true)
  | 9 => ("EvenTally$Balance", "room", "[I", true)
  | 10 => ("EvenTally$Balance", "price", "[I", true)
  | 11 => ("EvenTally$Balance", "excess", "[I", true)
  | 12 => ("EvenTally$Balance", "reached", "[I", true)
  | _ => ("EvenTally$Balance", "by", "[I", true)
def tyX1 : Nat → FieldType := fun k => match k with
  | 0 => .int
  | 1 => .array .int
  | 2 => .array .int
  | 3 => .array .int
  | 4 => .array .int
  | 5 => .array .int
  | 6 => .int
  | 7 => .array .int
  | 8 => .array .int
  | 9 => .array .int
  | 10 => .array .int
  | 11 => .array .int
  | 12 => .array .int
  | _ => .array .int
abbrev wsX10 : List Cond := u_ws RX1 TX1 14
theorem nmX1 : ∀ a, a < 14 → ∀ b, b < 14 → a ≠ b → (TX1 a).2.1 ≠ (TX1 b).2.1 := by decide +kernel
theorem tyX1_ok : ∀ k, k < 14 → parseFieldDescriptor (TX1 k).2.2.1 = some (tyX1 k) := by decide +kernel
abbrev cX1_init : ByteArray := prog_3_method_1_code
def yX1_init : MethodName := ⟨RX1, "<init>", "()V"⟩
abbrev cX1_load : ByteArray := prog_3_method_2_code
def yX1_load : MethodName := ⟨RX1, "load", "(LEvenTally$State;)V"⟩
abbrev cX1_solve : ByteArray := prog_3_method_3_code
def yX1_solve : MethodName := ⟨RX1, "solve", "(Z)I"⟩
abbrev cX1_build : ByteArray := prog_3_method_4_code
def yX1_build : MethodName := ⟨RX1, "build", "(Z)V"⟩
abbrev cX1_join : ByteArray := prog_3_method_5_code
def yX1_join : MethodName := ⟨RX1, "join", "(IIII)V"⟩
abbrev cX1_putEdge : ByteArray := prog_3_method_6_code
def yX1_putEdge : MethodName := ⟨RX1, "putEdge", "(IIII)V"⟩
abbrev cX1_isUnsettled : ByteArray := prog_3_method_7_code
def yX1_isUnsettled : MethodName := ⟨RX1, "isUnsettled", "()Z"⟩
abbrev cX1_search : ByteArray := prog_3_method_8_code
def yX1_search : MethodName := ⟨RX1, "search", "()V"⟩
abbrev cX1_nearest : ByteArray := prog_3_method_9_code
def yX1_nearest : MethodName := ⟨RX1, "nearest", "()I"⟩
abbrev cX1_send : ByteArray := prog_3_method_10_code
def yX1_send : MethodName := ⟨RX1, "send", "(I)I"⟩
def RX2 : String := "EvenTally$Reader"
def TX2 : u_T := fun k => match k with
  | 0 => ("EvenTally$Reader", "draft", "LEvenTally$Town;", true)
  | 1 => ("EvenTally$Reader", "tape", "[I", true)
  | 2 => ("EvenTally$Reader", "size", "I", false)
  | 3 => ("EvenTally$Reader", "place", "I", false)
  | _ => ("EvenTally$Reader", "number", "I", false)
def tyX2 : Nat → FieldType := fun k => match k with
  | 0 => .object "EvenTally$Town"
  | 1 => .array .int
  | 2 => .int
  | 3 => .int
  | _ => .int
abbrev wsX20 : List Cond := u_ws RX2 TX2 5
theorem nmX2 : ∀ a, a < 5 → ∀ b, b < 5 → a ≠ b → (TX2 a).2.1 ≠ (TX2 b).2.1 := by decide +kernel
theorem tyX2_ok : ∀ k, k < 5 → parseFieldDescriptor (TX2 k).2.2.1 = some (tyX2 k) := by decide +kernel
abbrev cX2_init : ByteArray := prog_4_method_1_code
def yX2_init : MethodName := ⟨RX2, "<init>", "()V"⟩
abbrev cX2_read : ByteArray := prog_4_method_2_code
def yX2_read : MethodName := ⟨RX2, "read", "([II)I"⟩
abbrev cX2_readHead : ByteArray := prog_4_method_3_code
def yX2_readHead : MethodName := ⟨RX2, "readHead", "()Z"⟩
abbrev cX2_readRest : ByteArray := prog_4_method_4_code
def yX2_readRest : MethodName := ⟨RX2, "readRest", "(Ljava/lang/String;I)Z"⟩
abbrev cX2_readEither : ByteArray := prog_4_method_5_code
def yX2_readEither : MethodName := ⟨RX2, "readEither", "(I)Z"⟩
abbrev cX2_readBoth : ByteArray := prog_4_method_6_code
def yX2_readBoth : MethodName := ⟨RX2, "readBoth", "(I)Z"⟩
abbrev cX2_readPart : ByteArray := prog_4_method_7_code
def yX2_readPart : MethodName := ⟨RX2, "readPart", "(I)Z"⟩
abbrev cX2_readTest : ByteArray := prog_4_method_8_code
def yX2_readTest : MethodName := ⟨RX2, "readTest", "()Z"⟩
abbrev cX2_readNumber : ByteArray := prog_4_method_9_code
def yX2_readNumber : MethodName := ⟨RX2, "readNumber", "()Z"⟩
abbrev cX2_digit : ByteArray := prog_4_method_10_code
def yX2_digit : MethodName := ⟨RX2, "digit", "()I"⟩
abbrev cX2_takeOneOf : ByteArray := prog_4_method_11_code
def yX2_takeOneOf : MethodName := ⟨RX2, "takeOneOf", "(Ljava/lang/String;)I"⟩
abbrev cX2_take : ByteArray := prog_4_method_12_code
def yX2_take : MethodName := ⟨RX2, "take", "(I)Z"⟩
def RX3 : String := "EvenTally$Routes"
def TX3 : u_T := fun k => match k with
  | 0 => ("EvenTally$Routes", "streets", "I", false)
  | 1 => ("EvenTally$Routes", "open", "[I", true)
  | 2 => ("EvenTally$Routes", "way", "[I", true)
  | 3 => ("EvenTally$Routes", "rest", "[I", true)
  | 4 => ("EvenTally$Routes", "row", "[J", true)
  | _ => ("EvenTally$Routes", "next", "[J", true)
def tyX3 : Nat → FieldType := fun k => match k with
  | 0 => .int
  | 1 => .array .int
  | 2 => .array .int
  | 3 => .array .int
  | 4 => .array .long
  | _ => .array .long
abbrev wsX30 : List Cond := u_ws RX3 TX3 6
theorem nmX3 : ∀ a, a < 6 → ∀ b, b < 6 → a ≠ b → (TX3 a).2.1 ≠ (TX3 b).2.1 := by decide +kernel
theorem tyX3_ok : ∀ k, k < 6 → parseFieldDescriptor (TX3 k).2.2.1 = some (tyX3 k) := by decide +kernel
abbrev cX3_init : ByteArray := prog_5_method_1_code
def yX3_init : MethodName := ⟨RX3, "<init>", "()V"⟩
abbrev cX3_load : ByteArray := prog_5_method_2_code
def yX3_load : MethodName := ⟨RX3, "load", "(LEvenTally$State;)V"⟩
abbrev cX3_price : ByteArray := prog_5_method_3_code
def yX3_price : MethodName := ⟨RX3, "price", "(II)I"⟩
abbrev cX3_cheapestWay : ByteArray := prog_5_method_4_code
def yX3_cheapestWay : MethodName := ⟨RX3, "cheapestWay", "(II)I"⟩
abbrev cX3_plan : ByteArray := prog_5_method_5_code
def yX3_plan : MethodName := ⟨RX3, "plan", "(II)V"⟩
abbrev cX3_leastRest : ByteArray := prog_5_method_6_code
def yX3_leastRest : MethodName := ⟨RX3, "leastRest", "(II)I"⟩
abbrev cX3_restBy : ByteArray := prog_5_method_7_code
def yX3_restBy : MethodName := ⟨RX3, "restBy", "(III)I"⟩
abbrev cX3_planned : ByteArray := prog_5_method_8_code
def yX3_planned : MethodName := ⟨RX3, "planned", "(II)I"⟩
abbrev cX3_inOrder : ByteArray := prog_5_method_9_code
def yX3_inOrder : MethodName := ⟨RX3, "inOrder", "(III)I"⟩
abbrev cX3_firstOf : ByteArray := prog_5_method_10_code
def yX3_firstOf : MethodName := ⟨RX3, "firstOf", "(II)I"⟩
abbrev cX3_bestPlace : ByteArray := prog_5_method_11_code
def yX3_bestPlace : MethodName := ⟨RX3, "bestPlace", "(I)I"⟩
abbrev cX3_walks : ByteArray := prog_5_method_12_code
def yX3_walks : MethodName := ⟨RX3, "walks", "(III)J"⟩
abbrev cX3_chance : ByteArray := prog_5_method_13_code
def yX3_chance : MethodName := ⟨RX3, "chance", "(IIII)J"⟩
abbrev cX3_begin : ByteArray := prog_5_method_14_code
def yX3_begin : MethodName := ⟨RX3, "begin", "(I)V"⟩
abbrev cX3_share : ByteArray := prog_5_method_15_code
def yX3_share : MethodName := ⟨RX3, "share", "(I)V"⟩
abbrev cX3_give : ByteArray := prog_5_method_16_code
def yX3_give : MethodName := ⟨RX3, "give", "(IJ)V"⟩
abbrev cX3_commonDivisor : ByteArray := prog_5_method_17_code
def yX3_commonDivisor : MethodName := ⟨RX3, "commonDivisor", "(JJ)J"⟩
def RX4 : String := "EvenTally$State"
def TX4 : u_T := fun k => match k with
  | 0 => ("EvenTally$State", "streets", "I", false)
  | 1 => ("EvenTally$State", "kind", "[I", true)
  | 2 => ("EvenTally$State", "v", "[I", true)
  | 3 => ("EvenTally$State", "in", "[I", true)
  | 4 => ("EvenTally$State", "out", "[I", true)
  | 5 => ("EvenTally$State", "leads", "[I", true)
  | 6 => ("EvenTally$State", "today", "I", false)
  | 7 => ("EvenTally$State", "signs", "I", false)
  | 8 => ("EvenTally$State", "tape", "[I", true)
  | 9 => ("EvenTally$State", "towns", "I", false)
  | 10 => ("EvenTally$State", "holding", "LEvenTally$Town;", true)
  | 11 => ("EvenTally$State", "tallies", "I", false)
  | 12 => ("EvenTally$State", "toldIn", "[I", true)
  | _ => ("EvenTally$State", "toldOut", "[I", true)
def tyX4 : Nat → FieldType := fun k => match k with
  | 0 => .int
  | 1 => .array .int
  | 2 => .array .int
  | 3 => .array .int
  | 4 => .array .int
  | 5 => .array .int
  | 6 => .int
  | 7 => .int
  | 8 => .array .int
  | 9 => .int
  | 10 => .object "EvenTally$Town"
  | 11 => .int
  | 12 => .array .int
  | _ => .array .int
abbrev wsX40 : List Cond := u_ws RX4 TX4 14
theorem nmX4 : ∀ a, a < 14 → ∀ b, b < 14 → a ≠ b → (TX4 a).2.1 ≠ (TX4 b).2.1 := by decide +kernel
theorem tyX4_ok : ∀ k, k < 14 → parseFieldDescriptor (TX4 k).2.2.1 = some (tyX4 k) := by decide +kernel
abbrev cX4_init : ByteArray := prog_6_method_1_code
def yX4_init : MethodName := ⟨RX4, "<init>", "()V"⟩
abbrev cX4_copyFrom : ByteArray := prog_6_method_2_code
def yX4_copyFrom : MethodName := ⟨RX4, "copyFrom", "(LEvenTally$State;)V"⟩
abbrev cX4_has : ByteArray := prog_6_method_3_code
def yX4_has : MethodName := ⟨RX4, "has", "(I)Z"⟩
abbrev cX4_hasBoth : ByteArray := prog_6_method_4_code
def yX4_hasBoth : MethodName := ⟨RX4, "hasBoth", "(II)Z"⟩
abbrev cX4_add : ByteArray := prog_6_method_5_code
def yX4_add : MethodName := ⟨RX4, "add", "(II)I"⟩
abbrev cX4_uneven : ByteArray := prog_6_method_6_code
def yX4_uneven : MethodName := ⟨RX4, "uneven", "(I)I"⟩
abbrev cX4_allowed : ByteArray := prog_6_method_7_code
def yX4_allowed : MethodName := ⟨RX4, "allowed", "(I)I"⟩
abbrev cX4_fine : ByteArray := prog_6_method_8_code
def yX4_fine : MethodName := ⟨RX4, "fine", "(I)I"⟩
abbrev cX4_step : ByteArray := prog_6_method_9_code
def yX4_step : MethodName := ⟨RX4, "step", "(I)I"⟩
abbrev cX4_pays : ByteArray := prog_6_method_10_code
def yX4_pays : MethodName := ⟨RX4, "pays", "(I)I"⟩
abbrev cX4_isOpen : ByteArray := prog_6_method_11_code
def yX4_isOpen : MethodName := ⟨RX4, "isOpen", "(II)Z"⟩
abbrev cX4_isShut : ByteArray := prog_6_method_12_code
def yX4_isShut : MethodName := ⟨RX4, "isShut", "(I)Z"⟩
abbrev cX4_openFrom : ByteArray := prog_6_method_13_code
def yX4_openFrom : MethodName := ⟨RX4, "openFrom", "(I)I"⟩
abbrev cX4_paysOfAll : ByteArray := prog_6_method_14_code
def yX4_paysOfAll : MethodName := ⟨RX4, "paysOfAll", "()I"⟩
abbrev cX4_unevenOfAll : ByteArray := prog_6_method_15_code
def yX4_unevenOfAll : MethodName := ⟨RX4, "unevenOfAll", "()I"⟩
abbrev cX4_paying : ByteArray := prog_6_method_16_code
def yX4_paying : MethodName := ⟨RX4, "paying", "()I"⟩
abbrev cX4_off : ByteArray := prog_6_method_17_code
def yX4_off : MethodName := ⟨RX4, "off", "()I"⟩
abbrev cX4_wrongOnes : ByteArray := prog_6_method_18_code
def yX4_wrongOnes : MethodName := ⟨RX4, "wrongOnes", "([II)I"⟩
def RX5 : String := "EvenTally$Town"
def TX5 : u_T := fun k => match k with
  | 0 => ("EvenTally$Town", "clauses", "I", false)
  | 1 => ("EvenTally$Town", "word", "[I", true)
  | 2 => ("EvenTally$Town", "n", "[I", true)
  | 3 => ("EvenTally$Town", "from", "[I", true)
  | 4 => ("EvenTally$Town", "codes", "I", false)
  | 5 => ("EvenTally$Town", "code", "[I", true)
  | _ => ("EvenTally$Town", "facts", "[I", true)
def tyX5 : Nat → FieldType := fun k => match k with
  | 0 => .int
  | 1 => .array .int
  | 2 => .array .int
  | 3 => .array .int
  | 4 => .int
  | 5 => .array .int
  | _ => .array .int
abbrev wsX50 : List Cond := u_ws RX5 TX5 7
theorem nmX5 : ∀ a, a < 7 → ∀ b, b < 7 → a ≠ b → (TX5 a).2.1 ≠ (TX5 b).2.1 := by decide +kernel
theorem tyX5_ok : ∀ k, k < 7 → parseFieldDescriptor (TX5 k).2.2.1 = some (tyX5 k) := by decide +kernel
abbrev cX5_init : ByteArray := prog_7_method_1_code
def yX5_init : MethodName := ⟨RX5, "<init>", "()V"⟩
abbrev cX5_copyFrom : ByteArray := prog_7_method_2_code
def yX5_copyFrom : MethodName := ⟨RX5, "copyFrom", "(LEvenTally$Town;)V"⟩
abbrev cX5_clear : ByteArray := prog_7_method_3_code
def yX5_clear : MethodName := ⟨RX5, "clear", "()V"⟩
abbrev cX5_isFull : ByteArray := prog_7_method_4_code
def yX5_isFull : MethodName := ⟨RX5, "isFull", "()Z"⟩
abbrev cX5_begin : ByteArray := prog_7_method_5_code
def yX5_begin : MethodName := ⟨RX5, "begin", "(II)V"⟩
abbrev cX5_putTest : ByteArray := prog_7_method_6_code
def yX5_putTest : MethodName := ⟨RX5, "putTest", "(III)V"⟩
abbrev cX5_put : ByteArray := prog_7_method_7_code
def yX5_put : MethodName := ⟨RX5, "put", "(I)V"⟩
abbrev cX5_sum : ByteArray := prog_7_method_8_code
def yX5_sum : MethodName := ⟨RX5, "sum", "(ILEvenTally$State;I)I"⟩
abbrev cX5_holds : ByteArray := prog_7_method_9_code
def yX5_holds : MethodName := ⟨RX5, "holds", "(II)Z"⟩
abbrev cX5_passes : ByteArray := prog_7_method_10_code
def yX5_passes : MethodName := ⟨RX5, "passes", "(I)Z"⟩
def RX6 : String := "EvenTally"
def TX6 : u_T := fun k => match k with
  | 0 => ("EvenTally", "now", "LEvenTally$State;", true)
  | 1 => ("EvenTally", "kept", "LEvenTally$State;", true)
  | 2 => ("EvenTally", "isKept", "Z", false)
  | 3 => ("EvenTally", "reader", "LEvenTally$Reader;", true)
  | 4 => ("EvenTally", "balance", "LEvenTally$Balance;", true)
  | 5 => ("EvenTally", "routes", "LEvenTally$Routes;", true)
  | _ => ("EvenTally", "actor", "LEvenTally$Actor;", true)
def tyX6 : Nat → FieldType := fun k => match k with
  | 0 => .object "EvenTally$State"
  | 1 => .object "EvenTally$State"
  | 2 => .boolean
  | 3 => .object "EvenTally$Reader"
  | 4 => .object "EvenTally$Balance"
  | 5 => .object "EvenTally$Routes"
  | _ => .object "EvenTally$Actor"
abbrev wsX60 : List Cond := u_ws RX6 TX6 7
theorem nmX6 : ∀ a, a < 7 → ∀ b, b < 7 → a ≠ b → (TX6 a).2.1 ≠ (TX6 b).2.1 := by decide +kernel
theorem tyX6_ok : ∀ k, k < 7 → parseFieldDescriptor (TX6 k).2.2.1 = some (tyX6 k) := by decide +kernel
abbrev cX6_init : ByteArray := prog_1_method_1_code
def yX6_init : MethodName := ⟨RX6, "<init>", "()V"⟩
abbrev cX6_feed : ByteArray := prog_1_method_2_code
def yX6_feed : MethodName := ⟨RX6, "feed", "(I)I"⟩
abbrev cX6_town : ByteArray := prog_1_method_3_code
def yX6_town : MethodName := ⟨RX6, "town", "()I"⟩
abbrev cX6_day : ByteArray := prog_1_method_4_code
def yX6_day : MethodName := ⟨RX6, "day", "(I)I"⟩
abbrev cX6_street : ByteArray := prog_1_method_5_code
def yX6_street : MethodName := ⟨RX6, "street", "(II)I"⟩
abbrev cX6_lead : ByteArray := prog_1_method_6_code
def yX6_lead : MethodName := ⟨RX6, "lead", "(IIZ)I"⟩
abbrev cX6_of : ByteArray := prog_1_method_7_code
def yX6_of : MethodName := ⟨RX6, "of", "(II)I"⟩
abbrev cX6_told : ByteArray := prog_1_method_8_code
def yX6_told : MethodName := ⟨RX6, "told", "(I)I"⟩
abbrev cX6_go : ByteArray := prog_1_method_9_code
def yX6_go : MethodName := ⟨RX6, "go", "(III)I"⟩
abbrev cX6_tally : ByteArray := prog_1_method_10_code
def yX6_tally : MethodName := ⟨RX6, "tally", "(III)I"⟩
abbrev cX6_cost : ByteArray := prog_1_method_11_code
def yX6_cost : MethodName := ⟨RX6, "cost", "(I)I"⟩
abbrev cX6_gate : ByteArray := prog_1_method_12_code
def yX6_gate : MethodName := ⟨RX6, "gate", "(I)I"⟩
abbrev cX6_fresh : ByteArray := prog_1_method_13_code
def yX6_fresh : MethodName := ⟨RX6, "fresh", "(II)I"⟩
abbrev cX6_need : ByteArray := prog_1_method_14_code
def yX6_need : MethodName := ⟨RX6, "need", "(II)I"⟩
abbrev cX6_way : ByteArray := prog_1_method_15_code
def yX6_way : MethodName := ⟨RX6, "way", "(II)I"⟩
abbrev cX6_errands : ByteArray := prog_1_method_16_code
def yX6_errands : MethodName := ⟨RX6, "errands", "(III)I"⟩
abbrev cX6_stand : ByteArray := prog_1_method_17_code
def yX6_stand : MethodName := ⟨RX6, "stand", "()I"⟩
abbrev cX6_ways : ByteArray := prog_1_method_18_code
def yX6_ways : MethodName := ⟨RX6, "ways", "(III)J"⟩
abbrev cX6_stray : ByteArray := prog_1_method_19_code
def yX6_stray : MethodName := ⟨RX6, "stray", "(IIII)J"⟩
abbrev cX6_tell : ByteArray := prog_1_method_20_code
def yX6_tell : MethodName := ⟨RX6, "tell", "(II)I"⟩
abbrev cX6_wrong : ByteArray := prog_1_method_21_code
def yX6_wrong : MethodName := ⟨RX6, "wrong", "(I)I"⟩
abbrev cX6_act : ByteArray := prog_1_method_22_code
def yX6_act : MethodName := ⟨RX6, "act", "(III)I"⟩
abbrev cX6_trace : ByteArray := prog_1_method_23_code
def yX6_trace : MethodName := ⟨RX6, "trace", "(I)I"⟩
abbrev cX6_as : ByteArray := prog_1_method_24_code
def yX6_as : MethodName := ⟨RX6, "as", "(II)I"⟩
abbrev cX6_image : ByteArray := prog_1_method_25_code
def yX6_image : MethodName := ⟨RX6, "image", "()I"⟩
abbrev cX6_undo : ByteArray := prog_1_method_26_code
def yX6_undo : MethodName := ⟨RX6, "undo", "()I"⟩
abbrev cX6_count : ByteArray := prog_1_method_27_code
def yX6_count : MethodName := ⟨RX6, "count", "(I)I"⟩
abbrev cX6_refusalOfTwo : ByteArray := prog_1_method_28_code
def yX6_refusalOfTwo : MethodName := ⟨RX6, "refusalOfTwo", "(II)I"⟩
abbrev cX6_isUnder : ByteArray := prog_1_method_29_code
def yX6_isUnder : MethodName := ⟨RX6, "isUnder", "(II)Z"⟩
def RX7 : String := "EvenTallyModel"
def TX7 : u_T := fun k => match k with
  | 0 => ("EvenTallyModel", "thrown", "I", false)
  | 1 => ("EvenTallyModel", "s", "[I", true)
  | 2 => ("EvenTallyModel", "image", "[I", true)
  | 3 => ("EvenTallyModel", "hasImage", "Z", false)
  | 4 => ("EvenTallyModel", "act", "I", false)
  | 5 => ("EvenTallyModel", "spot", "I", false)
  | 6 => ("EvenTallyModel", "end", "I", false)
  | 7 => ("EvenTallyModel", "isWrong", "Z", false)
  | 8 => ("EvenTallyModel", "open", "I", false)
  | 9 => ("EvenTallyModel", "by", "[I", true)
  | 10 => ("EvenTallyModel", "truths", "[Z", true)
  | 11 => ("EvenTallyModel", "fining", "I", false)
  | 12 => ("EvenTallyModel", "stepping", "I", false)
  | 13 => ("EvenTallyModel", "allowing", "I", false)
  | 14 => ("EvenTallyModel", "from", "[I", true)
  | 15 => ("EvenTallyModel", "to", "[I", true)
  | 16 => ("EvenTallyModel", "costs", "[I", true)
  | 17 => ("EvenTallyModel", "room", "[I", true)
  | 18 => ("EvenTallyModel", "flow", "[I", true)
  | 19 => ("EvenTallyModel", "roads", "I", false)
  | 20 => ("EvenTallyModel", "left", "[I", true)
  | 21 => ("EvenTallyModel", "far", "[I", true)
  | 22 => ("EvenTallyModel", "last", "[I", true)
  | 23 => ("EvenTallyModel", "allowed", "[I", true)
  | 24 => ("EvenTallyModel", "fines", "[I", true)
  | 25 => ("EvenTallyModel", "steps", "[I", true)
  | 26 => ("EvenTallyModel", "opens", "[Z", true)
  | 27 => ("EvenTallyModel", "wayCosts", "[I", true)
  | 28 => ("EvenTallyModel", "order", "[I", true)
  | 29 => ("EvenTallyModel", "bestOrder", "[I", true)
  | 30 => ("EvenTallyModel", "bestCost", "I", false)
  | 31 => ("EvenTallyModel", "rows", "[J", true)
  | 32 => ("EvenTallyModel", "nextRows", "[J", true)
  | 33 => ("EvenTallyModel", "bodies", "[I", true)
  | 34 => ("EvenTallyModel", "ran", "I", false)
  | 35 => ("EvenTallyModel", "kind", "I", false)
  | 36 => ("EvenTallyModel", "number", "I", false)
  | _ => ("EvenTallyModel", "tellsV", "I", false)
def tyX7 : Nat → FieldType := fun k => match k with
  | 0 => .int
  | 1 => .array .int
  | 2 => .array .int
  | 3 => .boolean
  | 4 => .int
  | 5 => .int
  | 6 => .int
  | 7 => .boolean
  | 8 => .int
  | 9 => .array .int
  | 10 => .array .boolean
  | 11 => .int
  | 12 => .int
  | 13 => .int
  | 14 => .array .int
  | 15 => .array .int
  | 16 => .array .int
  | 17 => .array .int
  | 18 => .array .int
  | 19 => .int
  | 20 => .array .int
  | 21 => .array .int
  | 22 => .array .int
  | 23 => .array .int
  | 24 => .array .int
  | 25 => .array .int
  | 26 => .array .boolean
  | 27 => .array .int
  | 28 => .array .int
  | 29 => .array .int
  | 30 => .int
  | 31 => .array .long
  | 32 => .array .long
  | 33 => .array .int
  | 34 => .int
  | 35 => .int
  | 36 => .int
  | _ => .int
abbrev wsX70 : List Cond := u_ws RX7 TX7 38
theorem nmX7 : ∀ a, a < 38 → ∀ b, b < 38 → a ≠ b → (TX7 a).2.1 ≠ (TX7 b).2.1 := by decide +kernel
theorem tyX7_ok : ∀ k, k < 38 → parseFieldDescriptor (TX7 k).2.2.1 = some (tyX7 k) := by decide +kernel
abbrev cX7_init : ByteArray := prog_9_method_1_code
def yX7_init : MethodName := ⟨RX7, "<init>", "()V"⟩
abbrev cX7_in : ByteArray := prog_9_method_3_code
def yX7_in : MethodName := ⟨RX7, "in", "(III)Z"⟩
abbrev cX7_size : ByteArray := prog_9_method_4_code
def yX7_size : MethodName := ⟨RX7, "size", "(I)I"⟩
abbrev cX7_isStreet : ByteArray := prog_9_method_5_code
def yX7_isStreet : MethodName := ⟨RX7, "isStreet", "(I)Z"⟩
abbrev cX7_feed : ByteArray := prog_9_method_6_code
def yX7_feed : MethodName := ⟨RX7, "feed", "(I)I"⟩
abbrev cX7_here : ByteArray := prog_9_method_7_code
def yX7_here : MethodName := ⟨RX7, "here", "()I"⟩
abbrev cX7_must : ByteArray := prog_9_method_8_code
def yX7_must : MethodName := ⟨RX7, "must", "(I)V"⟩
abbrev cX7_spells : ByteArray := prog_9_method_9_code
def yX7_spells : MethodName := ⟨RX7, "spells", "(Ljava/lang/String;)V"⟩
abbrev cX7_figures : ByteArray := prog_9_method_10_code
def yX7_figures : MethodName := ⟨RX7, "figures", "()I"⟩
abbrev cX7_among : ByteArray := prog_9_method_11_code
def yX7_among : MethodName := ⟨RX7, "among", "(Ljava/lang/String;)I"⟩
abbrev cX7_emits : ByteArray := prog_9_method_12_code
def yX7_emits : MethodName := ⟨RX7, "emits", "(I)V"⟩
abbrev cX7_factor : ByteArray := prog_9_method_13_code
def yX7_factor : MethodName := ⟨RX7, "factor", "()V"⟩
abbrev cX7_every : ByteArray := prog_9_method_14_code
def yX7_every : MethodName := ⟨RX7, "every", "()V"⟩
abbrev cX7_some : ByteArray := prog_9_method_15_code
def yX7_some : MethodName := ⟨RX7, "some", "()V"⟩
abbrev cX7_much : ByteArray := prog_9_method_16_code
def yX7_much : MethodName := ⟨RX7, "much", "(ILjava/lang/String;)V"⟩
abbrev cX7_clauseHere : ByteArray := prog_9_method_17_code
def yX7_clauseHere : MethodName := ⟨RX7, "clauseHere", "()V"⟩
abbrev cX7_town : ByteArray := prog_9_method_18_code
def yX7_town : MethodName := ⟨RX7, "town", "()I"⟩
abbrev cX7_day : ByteArray := prog_9_method_19_code
def yX7_day : MethodName := ⟨RX7, "day", "(I)I"⟩
abbrev cX7_street : ByteArray := prog_9_method_20_code
def yX7_street : MethodName := ⟨RX7, "street", "(II)I"⟩
abbrev cX7_lead : ByteArray := prog_9_method_21_code
def yX7_lead : MethodName := ⟨RX7, "lead", "(IIZ)I"⟩
abbrev cX7_leadsFrom : ByteArray := prog_9_method_22_code
def yX7_leadsFrom : MethodName := ⟨RX7, "leadsFrom", "(I)I"⟩
abbrev cX7_isOpen : ByteArray := prog_9_method_23_code
def yX7_isOpen : MethodName := ⟨RX7, "isOpen", "(II)Z"⟩
abbrev cX7_openFrom : ByteArray := prog_9_method_24_code
def yX7_openFrom : MethodName := ⟨RX7, "openFrom", "(I)I"⟩
abbrev cX7_count1 : ByteArray := prog_9_method_25_code
def yX7_count1 : MethodName := ⟨RX7, "count1", "(I)I"⟩
abbrev cX7_uneven : ByteArray := prog_9_method_26_code
def yX7_uneven : MethodName := ⟨RX7, "uneven", "(I)I"⟩
abbrev cX7_looks : ByteArray := prog_9_method_27_code
def yX7_looks : MethodName := ⟨RX7, "looks", "(I)V"⟩
abbrev cX7_allowedOf : ByteArray := prog_9_method_28_code
def yX7_allowedOf : MethodName := ⟨RX7, "allowedOf", "(I)I"⟩
abbrev cX7_fineOf : ByteArray := prog_9_method_29_code
def yX7_fineOf : MethodName := ⟨RX7, "fineOf", "(I)I"⟩
abbrev cX7_stepOf : ByteArray := prog_9_method_30_code
def yX7_stepOf : MethodName := ⟨RX7, "stepOf", "(I)I"⟩
abbrev cX7_paysOf : ByteArray := prog_9_method_31_code
def yX7_paysOf : MethodName := ⟨RX7, "paysOf", "(I)I"⟩
abbrev cX7_of : ByteArray := prog_9_method_32_code
def yX7_of : MethodName := ⟨RX7, "of", "(II)I"⟩
abbrev cX7_paying : ByteArray := prog_9_method_33_code
def yX7_paying : MethodName := ⟨RX7, "paying", "()I"⟩
abbrev cX7_told : ByteArray := prog_9_method_34_code
def yX7_told : MethodName := ⟨RX7, "told", "(I)I"⟩
abbrev cX7_go : ByteArray := prog_9_method_35_code
def yX7_go : MethodName := ⟨RX7, "go", "(III)I"⟩
abbrev cX7_tally : ByteArray := prog_9_method_36_code
def yX7_tally : MethodName := ⟨RX7, "tally", "(III)I"⟩
abbrev cX7_road : ByteArray := prog_9_method_37_code
def yX7_road : MethodName := ⟨RX7, "road", "(IIII)V"⟩
abbrev cX7_looksForRoads : ByteArray := prog_9_method_38_code
def yX7_looksForRoads : MethodName := ⟨RX7, "looksForRoads", "(Z)V"⟩
abbrev cX7_isPlace : ByteArray := prog_9_method_39_code
def yX7_isPlace : MethodName := ⟨RX7, "isPlace", "(I)Z"⟩
abbrev cX7_looksForFar : ByteArray := prog_9_method_40_code
def yX7_looksForFar : MethodName := ⟨RX7, "looksForFar", "()V"⟩
abbrev cX7_before : ByteArray := prog_9_method_41_code
def yX7_before : MethodName := ⟨RX7, "before", "(I)I"⟩
abbrev cX7_roomBehind : ByteArray := prog_9_method_42_code
def yX7_roomBehind : MethodName := ⟨RX7, "roomBehind", "(I)I"⟩
abbrev cX7_sends : ByteArray := prog_9_method_43_code
def yX7_sends : MethodName := ⟨RX7, "sends", "()Z"⟩
abbrev cX7_costBy : ByteArray := prog_9_method_44_code
def yX7_costBy : MethodName := ⟨RX7, "costBy", "(Z)I"⟩
abbrev cX7_looksForAll : ByteArray := prog_9_method_45_code
def yX7_looksForAll : MethodName := ⟨RX7, "looksForAll", "()V"⟩
abbrev cX7_cost : ByteArray := prog_9_method_46_code
def yX7_cost : MethodName := ⟨RX7, "cost", "(I)I"⟩
abbrev cX7_gate : ByteArray := prog_9_method_47_code
def yX7_gate : MethodName := ⟨RX7, "gate", "(I)I"⟩
abbrev cX7_changes : ByteArray := prog_9_method_48_code
def yX7_changes : MethodName := ⟨RX7, "changes", "(IIZ)I"⟩
abbrev cX7_fresh : ByteArray := prog_9_method_49_code
def yX7_fresh : MethodName := ⟨RX7, "fresh", "(II)I"⟩
abbrev cX7_need : ByteArray := prog_9_method_50_code
def yX7_need : MethodName := ⟨RX7, "need", "(II)I"⟩
abbrev cX7_looksForWays : ByteArray := prog_9_method_51_code
def yX7_looksForWays : MethodName := ⟨RX7, "looksForWays", "()V"⟩
abbrev cX7_way : ByteArray := prog_9_method_52_code
def yX7_way : MethodName := ⟨RX7, "way", "(II)I"⟩
abbrev cX7_ordersFrom : ByteArray := prog_9_method_53_code
def yX7_ordersFrom : MethodName := ⟨RX7, "ordersFrom", "(IIIII)V"⟩
abbrev cX7_errands : ByteArray := prog_9_method_54_code
def yX7_errands : MethodName := ⟨RX7, "errands", "(III)I"⟩
abbrev cX7_stand : ByteArray := prog_9_method_55_code
def yX7_stand : MethodName := ⟨RX7, "stand", "()I"⟩
abbrev cX7_goesOn : ByteArray := prog_9_method_56_code
def yX7_goesOn : MethodName := ⟨RX7, "goesOn", "(Z)V"⟩
abbrev cX7_begins : ByteArray := prog_9_method_57_code
def yX7_begins : MethodName := ⟨RX7, "begins", "(I)V"⟩
abbrev cX7_ways : ByteArray := prog_9_method_58_code
def yX7_ways : MethodName := ⟨RX7, "ways", "(III)J"⟩
abbrev cX7_lowest : ByteArray := prog_9_method_59_code
def yX7_lowest : MethodName := ⟨RX7, "lowest", "(JJI)J"⟩
abbrev cX7_stray : ByteArray := prog_9_method_60_code
def yX7_stray : MethodName := ⟨RX7, "stray", "(IIII)J"⟩
abbrev cX7_tell : ByteArray := prog_9_method_61_code
def yX7_tell : MethodName := ⟨RX7, "tell", "(II)I"⟩
abbrev cX7_wrong : ByteArray := prog_9_method_62_code
def yX7_wrong : MethodName := ⟨RX7, "wrong", "(I)I"⟩
abbrev cX7_ranBody : ByteArray := prog_9_method_63_code
def yX7_ranBody : MethodName := ⟨RX7, "ranBody", "(I)V"⟩
abbrev cX7_isUnder : ByteArray := prog_9_method_64_code
def yX7_isUnder : MethodName := ⟨RX7, "isUnder", "(II)Z"⟩
abbrev cX7_plainCounts : ByteArray := prog_9_method_65_code
def yX7_plainCounts : MethodName := ⟨RX7, "plainCounts", "(I)I"⟩
abbrev cX7_countsActs : ByteArray := prog_9_method_66_code
def yX7_countsActs : MethodName := ⟨RX7, "countsActs", "(I)I"⟩
abbrev cX7_plainPays : ByteArray := prog_9_method_67_code
def yX7_plainPays : MethodName := ⟨RX7, "plainPays", "(I)I"⟩
abbrev cX7_paysActs : ByteArray := prog_9_method_68_code
def yX7_paysActs : MethodName := ⟨RX7, "paysActs", "(I)I"⟩
abbrev cX7_plainTells : ByteArray := prog_9_method_69_code
def yX7_plainTells : MethodName := ⟨RX7, "plainTells", "(I)I"⟩
abbrev cX7_tellsActs : ByteArray := prog_9_method_70_code
def yX7_tellsActs : MethodName := ⟨RX7, "tellsActs", "(I)I"⟩
abbrev cX7_act : ByteArray := prog_9_method_71_code
def yX7_act : MethodName := ⟨RX7, "act", "(III)I"⟩
abbrev cX7_trace : ByteArray := prog_9_method_72_code
def yX7_trace : MethodName := ⟨RX7, "trace", "(I)I"⟩
abbrev cX7_as : ByteArray := prog_9_method_73_code
def yX7_as : MethodName := ⟨RX7, "as", "(II)I"⟩
abbrev cX7_image : ByteArray := prog_9_method_74_code
def yX7_image : MethodName := ⟨RX7, "image", "()I"⟩
abbrev cX7_undo : ByteArray := prog_9_method_75_code
def yX7_undo : MethodName := ⟨RX7, "undo", "()I"⟩
abbrev cX7_count : ByteArray := prog_9_method_76_code
def yX7_count : MethodName := ⟨RX7, "count", "(I)I"⟩
def RJx145de : String := "java/io/Serializable"
def TJx145de : u_T := fun k => match k with
  | _ => ("", "", "", false)
def tyJx145de : Nat → FieldType := fun k => match k with
  | _ => .int
abbrev wsJx145de0 : List Cond := u_ws RJx145de TJx145de 0
theorem nmJx145de : ∀ a, a < 0 → ∀ b, b < 0 → a ≠ b → (TJx145de a).2.1 ≠ (TJx145de b).2.1 := by decide +kernel
theorem tyJx145de_ok : ∀ k, k < 0 → parseFieldDescriptor (TJx145de k).2.2.1 = some (tyJx145de k) := by decide +kernel
def RJx9f9b0 : String := "java/lang/CharSequence"
def TJx9f9b0 : u_T := fun k => match k with
  | _ => ("", "", "", false)
def tyJx9f9b0 : Nat → FieldType := fun k => match k with
  | _ => .int
abbrev wsJx9f9b00 : List Cond := u_ws RJx9f9b0 TJx9f9b0 0
theorem nmJx9f9b0 : ∀ a, a < 0 → ∀ b, b < 0 → a ≠ b → (TJx9f9b0 a).2.1 ≠ (TJx9f9b0 b).2.1 := by decide +kernel
theorem tyJx9f9b0_ok : ∀ k, k < 0 → parseFieldDescriptor (TJx9f9b0 k).2.2.1 = some (tyJx9f9b0 k) := by decide +kernel
def RJxb160c : String := "java/lang/Comparable"
def TJxb160c : u_T := fun k => match k with
  | _ => ("", "", "", false)
def tyJxb160c : Nat → FieldType := fun k => match k with
  | _ => .int
abbrev wsJxb160c0 : List Cond := u_ws RJxb160c TJxb160c 0
theorem nmJxb160c : ∀ a, a < 0 → ∀ b, b < 0 → a ≠ b → (TJxb160c a).2.1 ≠ (TJxb160c b).2.1 := by decide +kernel
theorem tyJxb160c_ok : ∀ k, k < 0 → parseFieldDescriptor (TJxb160c k).2.2.1 = some (tyJxb160c k) := by decide +kernel
def RJ6 : String := "java/lang/Integer"
def TJ6 : u_T := fun k => match k with
  | _ => ("", "", "", false)
def tyJ6 : Nat → FieldType := fun k => match k with
  | _ => .int
abbrev wsJ60 : List Cond := u_ws RJ6 TJ6 0
theorem nmJ6 : ∀ a, a < 0 → ∀ b, b < 0 → a ≠ b → (TJ6 a).2.1 ≠ (TJ6 b).2.1 := by decide +kernel
theorem tyJ6_ok : ∀ k, k < 0 → parseFieldDescriptor (TJ6 k).2.2.1 = some (tyJ6 k) := by decide +kernel
abbrev cJ6_bitCount_0f7a4 : ByteArray := prog_10_method_49_code
def yJ6_bitCount_0f7a4 : MethodName := ⟨RJ6, "bitCount", "(I)I"⟩
def RJ9 : String := "java/lang/Math"
def TJ9 : u_T := fun k => match k with
  | _ => ("", "", "", false)
def tyJ9 : Nat → FieldType := fun k => match k with
  | _ => .int
abbrev wsJ90 : List Cond := u_ws RJ9 TJ9 0
theorem nmJ9 : ∀ a, a < 0 → ∀ b, b < 0 → a ≠ b → (TJ9 a).2.1 ≠ (TJ9 b).2.1 := by decide +kernel
theorem tyJ9_ok : ∀ k, k < 0 → parseFieldDescriptor (TJ9 k).2.2.1 = some (tyJ9 k) := by decide +kernel
abbrev cJ9_abs_0f7a4 : ByteArray := prog_11_method_59_code
def yJ9_abs_0f7a4 : MethodName := ⟨RJ9, "abs", "(I)I"⟩
abbrev cJ9_min_7cf53 : ByteArray := prog_11_method_69_code
def yJ9_min_7cf53 : MethodName := ⟨RJ9, "min", "(II)I"⟩
def RJ0 : String := "java/lang/String"
def TJ0 : u_T := fun k => match k with
  | _ => ("", "", "", false)
def tyJ0 : Nat → FieldType := fun k => match k with
  | _ => .int
abbrev wsJ00 : List Cond := u_ws RJ0 TJ0 0
theorem nmJ0 : ∀ a, a < 0 → ∀ b, b < 0 → a ≠ b → (TJ0 a).2.1 ≠ (TJ0 b).2.1 := by decide +kernel
theorem tyJ0_ok : ∀ k, k < 0 → parseFieldDescriptor (TJ0 k).2.2.1 = some (tyJ0 k) := by decide +kernel
abbrev cJ0_length_8abf5 : ByteArray := prog_12_method_54_code
def yJ0_length_8abf5 : MethodName := ⟨RJ0, "length", "()I"⟩
abbrev cJ0_charAt_5068e : ByteArray := prog_12_method_56_code
def yJ0_charAt_5068e : MethodName := ⟨RJ0, "charAt", "(I)C"⟩
abbrev cJ0_coder_7d493 : ByteArray := prog_12_method_152_code
def yJ0_coder_7d493 : MethodName := ⟨RJ0, "coder", "()B"⟩
abbrev cJ0_isLatin1_aae02 : ByteArray := prog_12_method_154_code
def yJ0_isLatin1_aae02 : MethodName := ⟨RJ0, "isLatin1", "()Z"⟩
abbrev cJ0_checkIndex_df160 : ByteArray := prog_12_method_155_code
def yJ0_checkIndex_df160 : MethodName := ⟨RJ0, "checkIndex", "(II)V"⟩
def RJ1 : String := "java/lang/StringLatin1"
def TJ1 : u_T := fun k => match k with
  | _ => ("", "", "", false)
def tyJ1 : Nat → FieldType := fun k => match k with
  | _ => .int
abbrev wsJ10 : List Cond := u_ws RJ1 TJ1 0
theorem nmJ1 : ∀ a, a < 0 → ∀ b, b < 0 → a ≠ b → (TJ1 a).2.1 ≠ (TJ1 b).2.1 := by decide +kernel
theorem tyJ1_ok : ∀ k, k < 0 → parseFieldDescriptor (TJ1 k).2.2.1 = some (tyJ1 k) := by decide +kernel
abbrev cJ1_charAt_3b067 : ByteArray := prog_13_method_2_code
def yJ1_charAt_3b067 : MethodName := ⟨RJ1, "charAt", "([BI)C"⟩
def RJ2 : String := "java/lang/StringUTF16"
def TJ2 : u_T := fun k => match k with
  | _ => ("", "", "", false)
def tyJ2 : Nat → FieldType := fun k => match k with
  | _ => .int
abbrev wsJ20 : List Cond := u_ws RJ2 TJ2 0
theorem nmJ2 : ∀ a, a < 0 → ∀ b, b < 0 → a ≠ b → (TJ2 a).2.1 ≠ (TJ2 b).2.1 := by decide +kernel
theorem tyJ2_ok : ∀ k, k < 0 → parseFieldDescriptor (TJ2 k).2.2.1 = some (tyJ2 k) := by decide +kernel
abbrev cJ2_getChar_3b067 : ByteArray := prog_14_method_5_code
def yJ2_getChar_3b067 : MethodName := ⟨RJ2, "getChar", "([BI)C"⟩
abbrev cJ2_length_9d52b : ByteArray := prog_14_method_6_code
def yJ2_length_9d52b : MethodName := ⟨RJ2, "length", "([B)I"⟩
abbrev cJ2_charAt_3b067 : ByteArray := prog_14_method_83_code
def yJ2_charAt_3b067 : MethodName := ⟨RJ2, "charAt", "([BI)C"⟩
abbrev cJ2_checkIndex_2214a : ByteArray := prog_14_method_91_code
def yJ2_checkIndex_2214a : MethodName := ⟨RJ2, "checkIndex", "(I[B)V"⟩
def RJ10 : String := "java/lang/System"
def TJ10 : u_T := fun k => match k with
  | _ => ("", "", "", false)
def tyJ10 : Nat → FieldType := fun k => match k with
  | _ => .int
abbrev wsJ100 : List Cond := u_ws RJ10 TJ10 0
theorem nmJ10 : ∀ a, a < 0 → ∀ b, b < 0 → a ≠ b → (TJ10 a).2.1 ≠ (TJ10 b).2.1 := by decide +kernel
theorem tyJ10_ok : ∀ k, k < 0 → parseFieldDescriptor (TJ10 k).2.2.1 = some (tyJ10 k) := by decide +kernel
def RJxfd54e : String := "java/lang/constant/Constable"
def TJxfd54e : u_T := fun k => match k with
  | _ => ("", "", "", false)
def tyJxfd54e : Nat → FieldType := fun k => match k with
  | _ => .int
abbrev wsJxfd54e0 : List Cond := u_ws RJxfd54e TJxfd54e 0
theorem nmJxfd54e : ∀ a, a < 0 → ∀ b, b < 0 → a ≠ b → (TJxfd54e a).2.1 ≠ (TJxfd54e b).2.1 := by decide +kernel
theorem tyJxfd54e_ok : ∀ k, k < 0 → parseFieldDescriptor (TJxfd54e k).2.2.1 = some (tyJxfd54e k) := by decide +kernel
def RJx3cf43 : String := "java/lang/constant/ConstantDesc"
def TJx3cf43 : u_T := fun k => match k with
  | _ => ("", "", "", false)
def tyJx3cf43 : Nat → FieldType := fun k => match k with
  | _ => .int
abbrev wsJx3cf430 : List Cond := u_ws RJx3cf43 TJx3cf43 0
theorem nmJx3cf43 : ∀ a, a < 0 → ∀ b, b < 0 → a ≠ b → (TJx3cf43 a).2.1 ≠ (TJx3cf43 b).2.1 := by decide +kernel
theorem tyJx3cf43_ok : ∀ k, k < 0 → parseFieldDescriptor (TJx3cf43 k).2.2.1 = some (tyJx3cf43 k) := by decide +kernel
def RJ7 : String := "java/util/Arrays"
def TJ7 : u_T := fun k => match k with
  | _ => ("", "", "", false)
def tyJ7 : Nat → FieldType := fun k => match k with
  | _ => .int
abbrev wsJ70 : List Cond := u_ws RJ7 TJ7 0
theorem nmJ7 : ∀ a, a < 0 → ∀ b, b < 0 → a ≠ b → (TJ7 a).2.1 ≠ (TJ7 b).2.1 := by decide +kernel
theorem tyJ7_ok : ∀ k, k < 0 → parseFieldDescriptor (TJ7 k).2.2.1 = some (tyJ7 k) := by decide +kernel
abbrev cJ7_fill_d0a16 : ByteArray := prog_16_method_101_code
def yJ7_fill_d0a16 : MethodName := ⟨RJ7, "fill", "([JJ)V"⟩
abbrev cJ7_fill_53178 : ByteArray := prog_16_method_103_code
def yJ7_fill_53178 : MethodName := ⟨RJ7, "fill", "([II)V"⟩
def RJ3 : String := "jdk/internal/util/Preconditions"
def TJ3 : u_T := fun k => match k with
  | _ => ("", "", "", false)
def tyJ3 : Nat → FieldType := fun k => match k with
  | _ => .int
abbrev wsJ30 : List Cond := u_ws RJ3 TJ3 0
theorem nmJ3 : ∀ a, a < 0 → ∀ b, b < 0 → a ≠ b → (TJ3 a).2.1 ≠ (TJ3 b).2.1 := by decide +kernel
theorem tyJ3_ok : ∀ k, k < 0 → parseFieldDescriptor (TJ3 k).2.2.1 = some (tyJ3 k) := by decide +kernel
abbrev cJ3_checkIndex_8e157 : ByteArray := prog_17_method_11_code
def yJ3_checkIndex_8e157 : MethodName := ⟨RJ3, "checkIndex", "(IILjava/util/function/BiFunction;)I"⟩
def RL : String := "EvenTallyLaw"
abbrev cL_law : ByteArray := code
def yL_law : MethodName := ⟨RL, "law", "([I)Z"⟩
def wsL_law_r1 : List Cond := [Cond.classLink RL 7 RX6, Cond.instantiable RX6 7, Cond.initialized RX6, Cond.classLink RL 10 RX7, Cond.instantiable RX7 38, Cond.initialized RX7, Cond.methodLink RL 9 yX6_init, Cond.instanceMethod yX6_init, Cond.code yX6_init cX6_init 1 none, Cond.methodLink RX6 3 objectInit, Cond.instanceMethod objectInit, Cond.code objectInit ⟨#[0xb1]⟩ 1 none, Cond.classLink RX6 9 RX4, Cond.instantiable RX4 14, Cond.initialized RX4, Cond.fieldLink RX6 12 "EvenTally" "now" "LEvenTally$State;", Cond.fieldLink RX6 18 "EvenTally" "kept" "LEvenTally$State;", Cond.fieldLink RX6 21 "EvenTally" "isKept" "Z", Cond.classLink RX6 25 RX2, Cond.instantiable RX2 5, Cond.initialized RX2, Cond.fieldLink RX6 28 "EvenTally" "reader" "LEvenTally$Reader;", Cond.classLink RX6 32 RX1, Cond.instantiable RX1 14]
def wsL_law_r2 : List Cond := [Cond.initialized RX1, Cond.fieldLink RX6 35 "EvenTally" "balance" "LEvenTally$Balance;", Cond.classLink RX6 39 RX3, Cond.instantiable RX3 6, Cond.initialized RX3, Cond.fieldLink RX6 42 "EvenTally" "routes" "LEvenTally$Routes;", Cond.classLink RX6 46 RX0, Cond.instantiable RX0 5, Cond.initialized RX0, Cond.fieldLink RX6 49 "EvenTally" "actor" "LEvenTally$Actor;", Cond.methodLink RX6 11 yX4_init, Cond.instanceMethod yX4_init, Cond.code yX4_init cX4_init 1 none, Cond.methodLink RX4 3 objectInit, Cond.arrayClass .int, Cond.fieldLink RX4 9 "EvenTally$State" "kind" "[I", Cond.fieldLink RX4 15 "EvenTally$State" "v" "[I", Cond.fieldLink RX4 18 "EvenTally$State" "in" "[I", Cond.fieldLink RX4 21 "EvenTally$State" "out" "[I", Cond.fieldLink RX4 24 "EvenTally$State" "leads" "[I", Cond.fieldLink RX4 27 "EvenTally$State" "tape" "[I", Cond.classLink RX4 30 RX5, Cond.instantiable RX5 7, Cond.initialized RX5]
def wsL_law_r3 : List Cond := [Cond.fieldLink RX4 33 "EvenTally$State" "holding" "LEvenTally$Town;", Cond.fieldLink RX4 37 "EvenTally$State" "toldIn" "[I", Cond.fieldLink RX4 40 "EvenTally$State" "toldOut" "[I", Cond.methodLink RX4 32 yX5_init, Cond.instanceMethod yX5_init, Cond.code yX5_init cX5_init 1 none, Cond.methodLink RX5 3 objectInit, Cond.fieldLink RX5 9 "EvenTally$Town" "word" "[I", Cond.fieldLink RX5 15 "EvenTally$Town" "n" "[I", Cond.fieldLink RX5 18 "EvenTally$Town" "from" "[I", Cond.fieldLink RX5 21 "EvenTally$Town" "code" "[I", Cond.fieldLink RX5 24 "EvenTally$Town" "facts" "[I", Cond.methodLink RX6 27 yX2_init, Cond.instanceMethod yX2_init, Cond.code yX2_init cX2_init 1 none, Cond.methodLink RX2 3 objectInit, Cond.fieldLink RX2 9 "EvenTally$Reader" "tape" "[I", Cond.classLink RX2 15 RX5, Cond.fieldLink RX2 18 "EvenTally$Reader" "draft" "LEvenTally$Town;", Cond.methodLink RX2 17 yX5_init, Cond.methodLink RX6 34 yX1_init, Cond.instanceMethod yX1_init, Cond.code yX1_init cX1_init 1 none, Cond.methodLink RX1 3 objectInit]
def wsL_law_r4 : List Cond := [Cond.fieldLink RX1 9 "EvenTally$Balance" "open" "[I", Cond.fieldLink RX1 15 "EvenTally$Balance" "allowed" "[I", Cond.fieldLink RX1 18 "EvenTally$Balance" "uneven" "[I", Cond.fieldLink RX1 21 "EvenTally$Balance" "fine" "[I", Cond.fieldLink RX1 24 "EvenTally$Balance" "step" "[I", Cond.fieldLink RX1 27 "EvenTally$Balance" "from" "[I", Cond.fieldLink RX1 30 "EvenTally$Balance" "to" "[I", Cond.fieldLink RX1 33 "EvenTally$Balance" "room" "[I", Cond.fieldLink RX1 36 "EvenTally$Balance" "price" "[I", Cond.fieldLink RX1 39 "EvenTally$Balance" "excess" "[I", Cond.fieldLink RX1 42 "EvenTally$Balance" "reached" "[I", Cond.fieldLink RX1 45 "EvenTally$Balance" "by" "[I", Cond.methodLink RX6 41 yX3_init, Cond.instanceMethod yX3_init, Cond.code yX3_init cX3_init 1 none, Cond.methodLink RX3 3 objectInit, Cond.fieldLink RX3 9 "EvenTally$Routes" "open" "[I", Cond.fieldLink RX3 15 "EvenTally$Routes" "way" "[I", Cond.fieldLink RX3 18 "EvenTally$Routes" "rest" "[I", Cond.arrayClass .long, Cond.fieldLink RX3 21 "EvenTally$Routes" "row" "[J", Cond.fieldLink RX3 25 "EvenTally$Routes" "next" "[J", Cond.methodLink RX6 48 yX0_init, Cond.instanceMethod yX0_init]
def wsL_law_r5 : List Cond := [Cond.code yX0_init cX0_init 1 none, Cond.methodLink RX0 3 objectInit, Cond.fieldLink RX0 11 "EvenTally$Actor" "traced" "[I", Cond.methodLink RL 12 yX7_init, Cond.instanceMethod yX7_init, Cond.code yX7_init cX7_init 1 none, Cond.methodLink RX7 3 objectInit, Cond.fieldLink RX7 9 "EvenTallyModel" "s" "[I", Cond.fieldLink RX7 15 "EvenTallyModel" "image" "[I", Cond.fieldLink RX7 18 "EvenTallyModel" "by" "[I", Cond.arrayClass .boolean, Cond.fieldLink RX7 21 "EvenTallyModel" "truths" "[Z", Cond.fieldLink RX7 25 "EvenTallyModel" "from" "[I", Cond.fieldLink RX7 28 "EvenTallyModel" "to" "[I", Cond.fieldLink RX7 31 "EvenTallyModel" "costs" "[I", Cond.fieldLink RX7 34 "EvenTallyModel" "room" "[I", Cond.fieldLink RX7 37 "EvenTallyModel" "flow" "[I", Cond.fieldLink RX7 40 "EvenTallyModel" "left" "[I", Cond.fieldLink RX7 43 "EvenTallyModel" "far" "[I", Cond.fieldLink RX7 46 "EvenTallyModel" "last" "[I", Cond.fieldLink RX7 49 "EvenTallyModel" "allowed" "[I", Cond.fieldLink RX7 52 "EvenTallyModel" "fines" "[I", Cond.fieldLink RX7 55 "EvenTallyModel" "steps" "[I", Cond.fieldLink RX7 58 "EvenTallyModel" "opens" "[Z"]
def wsL_law_r6 : List Cond := [Cond.fieldLink RX7 61 "EvenTallyModel" "wayCosts" "[I", Cond.fieldLink RX7 64 "EvenTallyModel" "order" "[I", Cond.fieldLink RX7 67 "EvenTallyModel" "bestOrder" "[I", Cond.fieldLink RX7 70 "EvenTallyModel" "rows" "[J", Cond.fieldLink RX7 74 "EvenTallyModel" "nextRows" "[J", Cond.fieldLink RX7 77 "EvenTallyModel" "bodies" "[I", Cond.methodLink RL 13 yX6_feed, Cond.instanceMethod yX6_feed, Cond.selects RX6 yX6_feed yX6_feed, Cond.code yX6_feed cX6_feed 2 (some .int), Cond.fieldLink RX6 53 "EvenTally$State" "signs" "I", Cond.fieldLink RX6 57 "EvenTally$State" "tape" "[I", Cond.methodLink RL 17 yX7_feed, Cond.instanceMethod yX7_feed, Cond.selects RX7 yX7_feed yX7_feed, Cond.code yX7_feed cX7_feed 2 (some .int), Cond.methodLink RX7 84 yX7_in, Cond.static yX7_in, Cond.code yX7_in cX7_in 3 (some .boolean), Cond.methodLink RL 18 yX6_town, Cond.instanceMethod yX6_town, Cond.selects RX6 yX6_town yX6_town, Cond.code yX6_town cX6_town 2 (some .int), Cond.fieldLink RX6 61 "EvenTally$State" "towns" "I"]
def wsL_law_r7 : List Cond := [Cond.fieldLink RX6 68 "EvenTally$State" "holding" "LEvenTally$Town;", Cond.fieldLink RX6 72 "EvenTally$Reader" "draft" "LEvenTally$Town;", Cond.methodLink RX6 64 yX2_read, Cond.instanceMethod yX2_read, Cond.selects RX2 yX2_read yX2_read, Cond.code yX2_read cX2_read 4 (some .int), Cond.methodLink RX2 22 arraycopyName, Cond.native arraycopyName, Cond.static arraycopyName, Cond.initialized "java/lang/System", Cond.fieldLink RX2 28 "EvenTally$Reader" "size" "I", Cond.fieldLink RX2 32 "EvenTally$Reader" "place" "I", Cond.methodLink RX2 35 yX5_clear, Cond.instanceMethod yX5_clear, Cond.selects RX5 yX5_clear yX5_clear, Cond.code yX5_clear cX5_clear 1 none, Cond.fieldLink RX5 27 "EvenTally$Town" "clauses" "I", Cond.fieldLink RX5 31 "EvenTally$Town" "codes" "I", Cond.methodLink RX2 38 yX2_readHead, Cond.instanceMethod yX2_readHead, Cond.selects RX2 yX2_readHead yX2_readHead, Cond.code yX2_readHead cX2_readHead 1 (some .boolean), Cond.methodLink RX2 49 yX2_take, Cond.instanceMethod yX2_take]
def wsL_law_r8 : List Cond := [Cond.selects RX2 yX2_take yX2_take, Cond.code yX2_take cX2_take 2 (some .boolean), Cond.methodLink RX2 54 yX2_readRest, Cond.instanceMethod yX2_readRest, Cond.selects RX2 yX2_readRest yX2_readRest, Cond.code yX2_readRest cX2_readRest 4 (some .boolean), Cond.fieldLink RX2 75 "EvenTally$Reader" "number" "I", Cond.methodLink RX2 62 yJ0_length_8abf5, Cond.instanceMethod yJ0_length_8abf5, Cond.selects RJ0 yJ0_length_8abf5 yJ0_length_8abf5, Cond.initialized RJ0, Cond.code yJ0_length_8abf5 cJ0_length_8abf5 1 (some .int), Cond.fieldLink RJ0 9 "java/lang/String" "value" "[B", Cond.methodLink RJ0 335 yJ0_coder_7d493, Cond.instanceMethod yJ0_coder_7d493, Cond.selects RJ0 yJ0_coder_7d493 yJ0_coder_7d493, Cond.code yJ0_coder_7d493 cJ0_coder_7d493 1 (some .byte), Cond.fieldLink RJ0 38 "java/lang/String" "COMPACT_STRINGS" "Z", Cond.fieldLink RJ0 15 "java/lang/String" "coder" "B", Cond.methodLink RX2 68 yJ0_charAt_5068e, Cond.instanceMethod yJ0_charAt_5068e, Cond.selects RJ0 yJ0_charAt_5068e yJ0_charAt_5068e, Cond.code yJ0_charAt_5068e cJ0_charAt_5068e 2 (some .char), Cond.methodLink RJ0 492 yJ0_isLatin1_aae02]
def wsL_law_r9 : List Cond := [Cond.instanceMethod yJ0_isLatin1_aae02, Cond.selects RJ0 yJ0_isLatin1_aae02 yJ0_isLatin1_aae02, Cond.code yJ0_isLatin1_aae02 cJ0_isLatin1_aae02 1 (some .boolean), Cond.methodLink RJ0 495 yJ1_charAt_3b067, Cond.static yJ1_charAt_3b067, Cond.initialized RJ1, Cond.code yJ1_charAt_3b067 cJ1_charAt_3b067 2 (some .char), Cond.methodLink RJ1 9 yJ0_checkIndex_df160, Cond.static yJ0_checkIndex_df160, Cond.code yJ0_checkIndex_df160 cJ0_checkIndex_df160 2 none, Cond.fieldLink RJ0 1053 "jdk/internal/util/Preconditions" "SIOOBE_FORMATTER" "Ljava/util/function/BiFunction;", Cond.methodLink RJ0 1059 yJ3_checkIndex_8e157, Cond.static yJ3_checkIndex_8e157, Cond.initialized RJ3, Cond.code yJ3_checkIndex_8e157 cJ3_checkIndex_8e157 3 (some .int), Cond.methodLink RJ0 498 yJ2_charAt_3b067, Cond.static yJ2_charAt_3b067, Cond.initialized RJ2, Cond.code yJ2_charAt_3b067 cJ2_charAt_3b067 2 (some .char), Cond.methodLink RJ2 67 yJ2_checkIndex_2214a, Cond.static yJ2_checkIndex_2214a, Cond.code yJ2_checkIndex_2214a cJ2_checkIndex_2214a 2 none, Cond.methodLink RJ2 48 yJ2_length_9d52b, Cond.static yJ2_length_9d52b]
def wsL_law_r10 : List Cond := [Cond.code yJ2_length_9d52b cJ2_length_9d52b 1 (some .int), Cond.methodLink RJ2 414 yJ0_checkIndex_df160, Cond.methodLink RJ2 71 yJ2_getChar_3b067, Cond.static yJ2_getChar_3b067, Cond.code yJ2_getChar_3b067 cJ2_getChar_3b067 2 (some .char), Cond.fieldLink RJ2 44 "java/lang/StringUTF16" "$assertionsDisabled" "Z", Cond.fieldLink RJ2 59 "java/lang/StringUTF16" "HI_BYTE_SHIFT" "I", Cond.fieldLink RJ2 63 "java/lang/StringUTF16" "LO_BYTE_SHIFT" "I", Cond.methodLink RX2 72 yX2_readNumber, Cond.instanceMethod yX2_readNumber, Cond.selects RX2 yX2_readNumber yX2_readNumber, Cond.code yX2_readNumber cX2_readNumber 3 (some .boolean), Cond.methodLink RX2 107 yX2_digit, Cond.instanceMethod yX2_digit, Cond.selects RX2 yX2_digit yX2_digit, Cond.code yX2_digit cX2_digit 1 (some .int), Cond.methodLink RX2 78 yX5_begin, Cond.instanceMethod yX5_begin, Cond.selects RX5 yX5_begin yX5_begin, Cond.code yX5_begin cX5_begin 3 none, Cond.methodLink RX5 40 yX5_isFull, Cond.instanceMethod yX5_isFull, Cond.selects RX5 yX5_isFull yX5_isFull, Cond.code yX5_isFull cX5_isFull 1 (some .boolean)]
def wsL_law_r11 : List Cond := [Cond.methodLink RX2 42 yX2_readEither, Cond.instanceMethod yX2_readEither, Cond.selects RX2 yX2_readEither yX2_readEither, Cond.code yX2_readEither cX2_readEither 3 (some .boolean), Cond.methodLink RX2 82 yX2_readBoth, Cond.instanceMethod yX2_readBoth, Cond.selects RX2 yX2_readBoth yX2_readBoth, Cond.methodLink RX2 85 yX5_put, Cond.instanceMethod yX5_put, Cond.selects RX5 yX5_put yX5_put, Cond.code yX5_put cX5_put 2 none, Cond.code yX2_readBoth cX2_readBoth 3 (some .boolean), Cond.methodLink RX2 89 yX2_readPart, Cond.instanceMethod yX2_readPart, Cond.selects RX2 yX2_readPart yX2_readPart, Cond.code yX2_readPart cX2_readPart 5 (some .boolean), Cond.methodLink RX2 92 yX2_readTest, Cond.instanceMethod yX2_readTest, Cond.selects RX2 yX2_readTest yX2_readTest, Cond.code yX2_readTest cX2_readTest 3 (some .boolean), Cond.methodLink RX2 97 yX2_takeOneOf, Cond.instanceMethod yX2_takeOneOf, Cond.selects RX2 yX2_takeOneOf yX2_takeOneOf, Cond.code yX2_takeOneOf cX2_takeOneOf 3 (some .int)]
def wsL_law_r12 : List Cond := [Cond.methodLink RX2 103 yX5_putTest, Cond.instanceMethod yX5_putTest, Cond.selects RX5 yX5_putTest yX5_putTest, Cond.code yX5_putTest cX5_putTest 4 none, Cond.methodLink RX5 44 yX5_put, Cond.methodLink RX2 46 yX5_isFull, Cond.methodLink RX6 75 yX5_copyFrom, Cond.instanceMethod yX5_copyFrom, Cond.selects RX5 yX5_copyFrom yX5_copyFrom, Cond.code yX5_copyFrom cX5_copyFrom 2 none, Cond.methodLink RX5 34 arraycopyName, Cond.methodLink RL 22 yX7_town, Cond.instanceMethod yX7_town, Cond.selects RX7 yX7_town yX7_town, Cond.code yX7_town cX7_town 2 (some .int), Cond.fieldLink RX7 115 "EvenTallyModel" "act" "I", Cond.fieldLink RX7 91 "EvenTallyModel" "end" "I", Cond.fieldLink RX7 88 "EvenTallyModel" "spot" "I", Cond.fieldLink RX7 94 "EvenTallyModel" "isWrong" "Z", Cond.fieldLink RX7 118 "EvenTallyModel" "open" "I", Cond.methodLink RX7 158 yX7_clauseHere, Cond.instanceMethod yX7_clauseHere, Cond.selects RX7 yX7_clauseHere yX7_clauseHere, Cond.code yX7_clauseHere cX7_clauseHere 1 none]
def wsL_law_r13 : List Cond := [Cond.methodLink RX7 98 yX7_here, Cond.instanceMethod yX7_here, Cond.selects RX7 yX7_here yX7_here, Cond.code yX7_here cX7_here 1 (some .int), Cond.methodLink RX7 150 yX7_much, Cond.instanceMethod yX7_much, Cond.selects RX7 yX7_much yX7_much, Cond.code yX7_much cX7_much 4 none, Cond.methodLink RX7 144 yX7_spells, Cond.instanceMethod yX7_spells, Cond.selects RX7 yX7_spells yX7_spells, Cond.code yX7_spells cX7_spells 3 none, Cond.methodLink RX7 102 yJ0_length_8abf5, Cond.methodLink RX7 107 yJ0_charAt_5068e, Cond.methodLink RX7 111 yX7_must, Cond.instanceMethod yX7_must, Cond.selects RX7 yX7_must yX7_must, Cond.code yX7_must cX7_must 2 none, Cond.methodLink RX7 138 yX7_figures, Cond.instanceMethod yX7_figures, Cond.selects RX7 yX7_figures yX7_figures, Cond.code yX7_figures cX7_figures 3 (some .int), Cond.methodLink RX7 127 yX7_some, Cond.instanceMethod yX7_some]
def wsL_law_r14 : List Cond := [Cond.selects RX7 yX7_some yX7_some, Cond.code yX7_some cX7_some 1 none, Cond.methodLink RX7 141 yX7_every, Cond.instanceMethod yX7_every, Cond.selects RX7 yX7_every yX7_every, Cond.methodLink RX7 124 yX7_emits, Cond.instanceMethod yX7_emits, Cond.selects RX7 yX7_emits yX7_emits, Cond.code yX7_emits cX7_emits 2 none, Cond.code yX7_every cX7_every 1 none, Cond.methodLink RX7 121 yX7_factor, Cond.instanceMethod yX7_factor, Cond.selects RX7 yX7_factor yX7_factor, Cond.code yX7_factor cX7_factor 5 none, Cond.methodLink RX7 132 yX7_among, Cond.instanceMethod yX7_among, Cond.selects RX7 yX7_among yX7_among, Cond.code yX7_among cX7_among 3 (some .int), Cond.methodLink RL 23 yX6_day, Cond.instanceMethod yX6_day, Cond.selects RX6 yX6_day yX6_day, Cond.code yX6_day cX6_day 3 (some .int), Cond.fieldLink RX6 81 "EvenTally$State" "today" "I", Cond.methodLink RL 26 yX7_day]
def wsL_law_r15 : List Cond := [Cond.instanceMethod yX7_day, Cond.selects RX7 yX7_day yX7_day, Cond.code yX7_day cX7_day 3 (some .int), Cond.methodLink RL 27 yX6_street, Cond.instanceMethod yX6_street, Cond.selects RX6 yX6_street yX6_street, Cond.code yX6_street cX6_street 3 (some .int), Cond.fieldLink RX6 84 "EvenTally$State" "streets" "I", Cond.methodLink RX6 87 yX4_add, Cond.instanceMethod yX4_add, Cond.selects RX4 yX4_add yX4_add, Cond.code yX4_add cX4_add 4 (some .int), Cond.fieldLink RX4 43 "EvenTally$State" "streets" "I", Cond.methodLink RL 31 yX7_street, Cond.instanceMethod yX7_street, Cond.selects RX7 yX7_street yX7_street, Cond.code yX7_street cX7_street 5 (some .int), Cond.methodLink RL 32 yX6_lead, Cond.instanceMethod yX6_lead, Cond.selects RX6 yX6_lead yX6_lead, Cond.code yX6_lead cX6_lead 6 (some .int), Cond.fieldLink RX6 94 "EvenTally$State" "leads" "[I", Cond.methodLink RX6 91 yX6_refusalOfTwo, Cond.instanceMethod yX6_refusalOfTwo]
def wsL_law_r16 : List Cond := [Cond.selects RX6 yX6_refusalOfTwo yX6_refusalOfTwo, Cond.code yX6_refusalOfTwo cX6_refusalOfTwo 3 (some .int), Cond.methodLink RX6 143 yX4_hasBoth, Cond.instanceMethod yX4_hasBoth, Cond.selects RX4 yX4_hasBoth yX4_hasBoth, Cond.code yX4_hasBoth cX4_hasBoth 3 (some .boolean), Cond.methodLink RX4 69 yX4_has, Cond.instanceMethod yX4_has, Cond.selects RX4 yX4_has yX4_has, Cond.code yX4_has cX4_has 2 (some .boolean), Cond.methodLink RL 36 yX7_lead, Cond.instanceMethod yX7_lead, Cond.selects RX7 yX7_lead yX7_lead, Cond.code yX7_lead cX7_lead 5 (some .int), Cond.methodLink RX7 161 yX7_isStreet, Cond.instanceMethod yX7_isStreet, Cond.selects RX7 yX7_isStreet yX7_isStreet, Cond.code yX7_isStreet cX7_isStreet 2 (some .boolean), Cond.methodLink RL 37 yX6_of, Cond.instanceMethod yX6_of, Cond.selects RX6 yX6_of yX6_of, Cond.code yX6_of cX6_of 3 (some .int), Cond.constant RX6 101 (-1000001), Cond.fieldLink RX6 102 "EvenTally$State" "kind" "[I"]
def wsL_law_r17 : List Cond := [Cond.fieldLink RX6 105 "EvenTally$State" "v" "[I", Cond.fieldLink RX6 108 "EvenTally$State" "in" "[I", Cond.fieldLink RX6 111 "EvenTally$State" "out" "[I", Cond.methodLink RX6 97 yX4_has, Cond.methodLink RX6 114 yX4_uneven, Cond.instanceMethod yX4_uneven, Cond.selects RX4 yX4_uneven yX4_uneven, Cond.code yX4_uneven cX4_uneven 2 (some .int), Cond.methodLink RX6 118 yX4_allowed, Cond.instanceMethod yX4_allowed, Cond.selects RX4 yX4_allowed yX4_allowed, Cond.code yX4_allowed cX4_allowed 3 (some .int), Cond.fieldLink RX4 53 "EvenTally$State" "today" "I", Cond.methodLink RX4 73 yX5_sum, Cond.instanceMethod yX5_sum, Cond.selects RX5 yX5_sum yX5_sum, Cond.code yX5_sum cX5_sum 6 (some .int), Cond.fieldLink RX5 48 "EvenTally$State" "kind" "[I", Cond.methodLink RX5 57 Lib.Math.abs.name, Cond.static Lib.Math.abs.name, Cond.initialized "java/lang/Math", Cond.code Lib.Math.abs.name Lib.Math.abs.code 1 (some .int), Cond.fieldLink RX5 62 "EvenTally$State" "today" "I", Cond.fieldLink RX5 65 "EvenTally$State" "leads" "[I"]
def wsL_law_r18 : List Cond := [Cond.methodLink RX5 53 yX4_uneven, Cond.methodLink RX5 68 yJ6_bitCount_0f7a4, Cond.static yJ6_bitCount_0f7a4, Cond.initialized RJ6, Cond.code yJ6_bitCount_0f7a4 cJ6_bitCount_0f7a4 1 (some .int), Cond.constant RJ6 265 (1431655765), Cond.constant RJ6 266 (858993459), Cond.constant RJ6 267 (252645135), Cond.methodLink RX5 73 yX5_holds, Cond.instanceMethod yX5_holds, Cond.selects RX5 yX5_holds yX5_holds, Cond.code yX5_holds cX5_holds 6 (some .boolean), Cond.methodLink RX5 77 yX5_passes, Cond.instanceMethod yX5_passes, Cond.selects RX5 yX5_passes yX5_passes, Cond.code yX5_passes cX5_passes 4 (some .boolean), Cond.methodLink RX6 121 yX4_fine, Cond.instanceMethod yX4_fine, Cond.selects RX4 yX4_fine yX4_fine, Cond.code yX4_fine cX4_fine 3 (some .int), Cond.static yX6_isUnder, Cond.code yX6_isUnder cX6_isUnder 4 (some .boolean), Cond.fieldLink RX6 226 "EvenTally" "ABOVE" "[I", Cond.methodLink RX6 124 yX4_step]
def wsL_law_r19 : List Cond := [Cond.instanceMethod yX4_step, Cond.selects RX4 yX4_step yX4_step, Cond.code yX4_step cX4_step 3 (some .int), Cond.methodLink RX6 127 yX4_pays, Cond.instanceMethod yX4_pays, Cond.selects RX4 yX4_pays yX4_pays, Cond.code yX4_pays cX4_pays 3 (some .int), Cond.methodLink RX4 85 Lib.Math.abs.name, Cond.methodLink RX4 81 yX4_uneven, Cond.methodLink RX4 90 yX4_allowed, Cond.methodLink RX4 93 yX4_fine, Cond.methodLink RX6 130 yX4_openFrom, Cond.instanceMethod yX4_openFrom, Cond.selects RX4 yX4_openFrom yX4_openFrom, Cond.code yX4_openFrom cX4_openFrom 4 (some .int), Cond.methodLink RX4 99 yX4_isOpen, Cond.instanceMethod yX4_isOpen, Cond.selects RX4 yX4_isOpen yX4_isOpen, Cond.code yX4_isOpen cX4_isOpen 3 (some .boolean), Cond.methodLink RX4 96 yX4_isShut, Cond.instanceMethod yX4_isShut, Cond.selects RX4 yX4_isShut yX4_isShut, Cond.code yX4_isShut cX4_isShut 3 (some .boolean), Cond.methodLink RL 40 yX7_of]
def wsL_law_r20 : List Cond := [Cond.instanceMethod yX7_of, Cond.selects RX7 yX7_of yX7_of, Cond.code yX7_of cX7_of 3 (some .int), Cond.constant RX7 200 (-1000001), Cond.methodLink RX7 169 yX7_uneven, Cond.instanceMethod yX7_uneven, Cond.selects RX7 yX7_uneven yX7_uneven, Cond.code yX7_uneven cX7_uneven 2 (some .int), Cond.methodLink RX7 194 yX7_allowedOf, Cond.instanceMethod yX7_allowedOf, Cond.selects RX7 yX7_allowedOf yX7_allowedOf, Cond.code yX7_allowedOf cX7_allowedOf 3 (some .int), Cond.fieldLink RX7 188 "EvenTallyModel" "allowing" "I", Cond.methodLink RX7 191 yX7_looks, Cond.instanceMethod yX7_looks, Cond.selects RX7 yX7_looks yX7_looks, Cond.code yX7_looks cX7_looks 10 none, Cond.fieldLink RX7 182 "EvenTallyModel" "fining" "I", Cond.fieldLink RX7 185 "EvenTallyModel" "stepping" "I", Cond.methodLink RX7 173 yX7_size, Cond.static yX7_size, Cond.code yX7_size cX7_size 1 (some .int), Cond.methodLink RX7 176 yX7_leadsFrom, Cond.instanceMethod yX7_leadsFrom]
def wsL_law_r21 : List Cond := [Cond.selects RX7 yX7_leadsFrom yX7_leadsFrom, Cond.code yX7_leadsFrom cX7_leadsFrom 4 (some .int), Cond.methodLink RX7 179 yX7_count1, Cond.static yX7_count1, Cond.code yX7_count1 cX7_count1 3 (some .int), Cond.methodLink RX7 197 yX7_fineOf, Cond.instanceMethod yX7_fineOf, Cond.selects RX7 yX7_fineOf yX7_fineOf, Cond.code yX7_fineOf cX7_fineOf 3 (some .int), Cond.methodLink RX7 201 yX7_stepOf, Cond.instanceMethod yX7_stepOf, Cond.selects RX7 yX7_stepOf yX7_stepOf, Cond.code yX7_stepOf cX7_stepOf 2 (some .int), Cond.methodLink RX7 204 yX7_paysOf, Cond.instanceMethod yX7_paysOf, Cond.selects RX7 yX7_paysOf yX7_paysOf, Cond.code yX7_paysOf cX7_paysOf 3 (some .int), Cond.methodLink RX7 207 yX7_openFrom, Cond.instanceMethod yX7_openFrom, Cond.selects RX7 yX7_openFrom yX7_openFrom, Cond.code yX7_openFrom cX7_openFrom 4 (some .int), Cond.methodLink RX7 165 yX7_isOpen, Cond.instanceMethod yX7_isOpen, Cond.selects RX7 yX7_isOpen yX7_isOpen]
def wsL_law_r22 : List Cond := [Cond.code yX7_isOpen cX7_isOpen 5 (some .boolean), Cond.methodLink RL 41 yX6_told, Cond.instanceMethod yX6_told, Cond.selects RX6 yX6_told yX6_told, Cond.code yX6_told cX6_told 2 (some .int), Cond.methodLink RX6 133 yX4_paysOfAll, Cond.instanceMethod yX4_paysOfAll, Cond.selects RX4 yX4_paysOfAll yX4_paysOfAll, Cond.code yX4_paysOfAll cX4_paysOfAll 3 (some .int), Cond.methodLink RX4 102 yX4_pays, Cond.methodLink RX6 137 yX4_unevenOfAll, Cond.instanceMethod yX4_unevenOfAll, Cond.selects RX4 yX4_unevenOfAll yX4_unevenOfAll, Cond.code yX4_unevenOfAll cX4_unevenOfAll 3 (some .int), Cond.methodLink RX6 140 yX4_paying, Cond.instanceMethod yX4_paying, Cond.selects RX4 yX4_paying yX4_paying, Cond.code yX4_paying cX4_paying 3 (some .int), Cond.methodLink RL 44 yX7_told, Cond.instanceMethod yX7_told, Cond.selects RX7 yX7_told yX7_told, Cond.code yX7_told cX7_told 4 (some .int), Cond.methodLink RX7 210 yX7_paying, Cond.instanceMethod yX7_paying]
def wsL_law_r23 : List Cond := [Cond.selects RX7 yX7_paying yX7_paying, Cond.code yX7_paying cX7_paying 3 (some .int), Cond.methodLink RL 45 yX6_go, Cond.instanceMethod yX6_go, Cond.selects RX6 yX6_go yX6_go, Cond.code yX6_go cX6_go 4 (some .int), Cond.constant RX6 147 (-1000002), Cond.constant RX6 151 (-1000003), Cond.methodLink RX6 148 yX4_isOpen, Cond.methodLink RL 49 yX7_go, Cond.instanceMethod yX7_go, Cond.selects RX7 yX7_go yX7_go, Cond.code yX7_go cX7_go 4 (some .int), Cond.constant RX7 213 (-1000002), Cond.constant RX7 214 (-1000003), Cond.methodLink RL 50 yX6_tally, Cond.instanceMethod yX6_tally, Cond.selects RX6 yX6_tally yX6_tally, Cond.code yX6_tally cX6_tally 6 (some .int), Cond.methodLink RL 53 yX7_tally, Cond.instanceMethod yX7_tally, Cond.selects RX7 yX7_tally yX7_tally, Cond.code yX7_tally cX7_tally 6 (some .int), Cond.methodLink RL 54 yX6_cost]
def wsL_law_r24 : List Cond := [Cond.instanceMethod yX6_cost, Cond.selects RX6 yX6_cost yX6_cost, Cond.code yX6_cost cX6_cost 2 (some .int), Cond.methodLink RX6 152 yX1_load, Cond.instanceMethod yX1_load, Cond.selects RX1 yX1_load yX1_load, Cond.code yX1_load cX1_load 3 none, Cond.fieldLink RX1 48 "EvenTally$State" "streets" "I", Cond.fieldLink RX1 54 "EvenTally$Balance" "streets" "I", Cond.methodLink RX1 55 yX4_openFrom, Cond.methodLink RX1 59 yX4_allowed, Cond.methodLink RX1 61 yX4_uneven, Cond.methodLink RX1 63 yX4_fine, Cond.methodLink RX1 65 yX4_step, Cond.methodLink RX6 156 yX1_solve, Cond.instanceMethod yX1_solve, Cond.selects RX1 yX1_solve yX1_solve, Cond.code yX1_solve cX1_solve 5 (some .int), Cond.constant RX1 71 (1000000), Cond.methodLink RX1 67 yX1_build, Cond.instanceMethod yX1_build, Cond.selects RX1 yX1_build yX1_build, Cond.code yX1_build cX1_build 4 none, Cond.fieldLink RX1 86 "EvenTally$Balance" "edges" "I"]
def wsL_law_r25 : List Cond := [Cond.methodLink RX1 89 yJ7_fill_53178, Cond.static yJ7_fill_53178, Cond.initialized RJ7, Cond.code yJ7_fill_53178 cJ7_fill_53178 4 none, Cond.methodLink RX1 95 yX1_join, Cond.instanceMethod yX1_join, Cond.selects RX1 yX1_join yX1_join, Cond.code yX1_join cX1_join 5 none, Cond.methodLink RX1 99 yX1_putEdge, Cond.instanceMethod yX1_putEdge, Cond.selects RX1 yX1_putEdge yX1_putEdge, Cond.code yX1_putEdge cX1_putEdge 5 none, Cond.methodLink RX1 72 yX1_isUnsettled, Cond.instanceMethod yX1_isUnsettled, Cond.selects RX1 yX1_isUnsettled yX1_isUnsettled, Cond.code yX1_isUnsettled cX1_isUnsettled 2 (some .boolean), Cond.methodLink RX1 76 yX1_search, Cond.instanceMethod yX1_search, Cond.selects RX1 yX1_search yX1_search, Cond.code yX1_search cX1_search 5 none, Cond.constant RX1 102 (1000000000), Cond.methodLink RX1 79 yX1_nearest, Cond.instanceMethod yX1_nearest, Cond.selects RX1 yX1_nearest yX1_nearest]
def wsL_law_r26 : List Cond := [Cond.code yX1_nearest cX1_nearest 4 (some .int), Cond.methodLink RX1 83 yX1_send, Cond.instanceMethod yX1_send, Cond.selects RX1 yX1_send yX1_send, Cond.code yX1_send cX1_send 6 (some .int), Cond.methodLink RX1 103 Lib.Math.min.name, Cond.static Lib.Math.min.name, Cond.code Lib.Math.min.name Lib.Math.min.code 2 (some .int), Cond.methodLink RL 57 yX7_cost, Cond.instanceMethod yX7_cost, Cond.selects RX7 yX7_cost yX7_cost, Cond.code yX7_cost cX7_cost 3 (some .int), Cond.methodLink RX7 243 yX7_looksForAll, Cond.instanceMethod yX7_looksForAll, Cond.selects RX7 yX7_looksForAll yX7_looksForAll, Cond.code yX7_looksForAll cX7_looksForAll 3 none, Cond.methodLink RX7 246 yX7_costBy, Cond.instanceMethod yX7_costBy, Cond.selects RX7 yX7_costBy yX7_costBy, Cond.code yX7_costBy cX7_costBy 5 (some .int), Cond.fieldLink RX7 215 "EvenTallyModel" "roads" "I", Cond.methodLink RX7 235 yX7_looksForRoads, Cond.instanceMethod yX7_looksForRoads, Cond.selects RX7 yX7_looksForRoads yX7_looksForRoads]
def wsL_law_r27 : List Cond := [Cond.code yX7_looksForRoads cX7_looksForRoads 4 none, Cond.constant RX7 218 (1000000000), Cond.methodLink RX7 219 yX7_road, Cond.instanceMethod yX7_road, Cond.selects RX7 yX7_road yX7_road, Cond.code yX7_road cX7_road 5 none, Cond.methodLink RX7 239 yX7_sends, Cond.instanceMethod yX7_sends, Cond.selects RX7 yX7_sends yX7_sends, Cond.code yX7_sends cX7_sends 4 (some .boolean), Cond.methodLink RX7 226 yX7_looksForFar, Cond.instanceMethod yX7_looksForFar, Cond.selects RX7 yX7_looksForFar yX7_looksForFar, Cond.code yX7_looksForFar cX7_looksForFar 5 none, Cond.methodLink RX7 223 yX7_isPlace, Cond.instanceMethod yX7_isPlace, Cond.selects RX7 yX7_isPlace yX7_isPlace, Cond.code yX7_isPlace cX7_isPlace 2 (some .boolean), Cond.methodLink RX7 229 yX7_roomBehind, Cond.instanceMethod yX7_roomBehind, Cond.selects RX7 yX7_roomBehind yX7_roomBehind, Cond.code yX7_roomBehind cX7_roomBehind 3 (some .int), Cond.methodLink RX7 232 yX7_before, Cond.instanceMethod yX7_before]
def wsL_law_r28 : List Cond := [Cond.selects RX7 yX7_before yX7_before, Cond.code yX7_before cX7_before 2 (some .int), Cond.methodLink RL 58 yX6_gate, Cond.instanceMethod yX6_gate, Cond.selects RX6 yX6_gate yX6_gate, Cond.code yX6_gate cX6_gate 3 (some .int), Cond.fieldLink RX6 160 "EvenTally$Balance" "allowed" "[I", Cond.methodLink RL 61 yX7_gate, Cond.instanceMethod yX7_gate, Cond.selects RX7 yX7_gate yX7_gate, Cond.code yX7_gate cX7_gate 3 (some .int), Cond.methodLink RL 62 yX6_fresh, Cond.instanceMethod yX6_fresh, Cond.selects RX6 yX6_fresh yX6_fresh, Cond.code yX6_fresh cX6_fresh 5 (some .int), Cond.fieldLink RX6 162 "EvenTally$Balance" "open" "[I", Cond.methodLink RL 65 yX7_fresh, Cond.instanceMethod yX7_fresh, Cond.selects RX7 yX7_fresh yX7_fresh, Cond.code yX7_fresh cX7_fresh 3 (some .int), Cond.methodLink RX7 250 yX7_changes, Cond.instanceMethod yX7_changes, Cond.selects RX7 yX7_changes yX7_changes, Cond.code yX7_changes cX7_changes 5 (some .int)]
def wsL_law_r29 : List Cond := [Cond.methodLink RL 66 yX6_need, Cond.instanceMethod yX6_need, Cond.selects RX6 yX6_need yX6_need, Cond.code yX6_need cX6_need 5 (some .int), Cond.methodLink RL 69 yX7_need, Cond.instanceMethod yX7_need, Cond.selects RX7 yX7_need yX7_need, Cond.code yX7_need cX7_need 3 (some .int), Cond.methodLink RL 70 yX6_way, Cond.instanceMethod yX6_way, Cond.selects RX6 yX6_way yX6_way, Cond.code yX6_way cX6_way 3 (some .int), Cond.methodLink RX6 165 yX3_load, Cond.instanceMethod yX3_load, Cond.selects RX3 yX3_load yX3_load, Cond.code yX3_load cX3_load 6 none, Cond.fieldLink RX3 28 "EvenTally$State" "streets" "I", Cond.fieldLink RX3 34 "EvenTally$Routes" "streets" "I", Cond.constant RX3 42 (1000000), Cond.methodLink RX3 47 Lib.Math.min.name, Cond.methodLink RX3 35 yX4_openFrom, Cond.methodLink RX3 39 yX4_step, Cond.methodLink RX3 43 yX3_price, Cond.instanceMethod yX3_price]
def wsL_law_r30 : List Cond := [Cond.selects RX3 yX3_price yX3_price, Cond.code yX3_price cX3_price 3 (some .int), Cond.methodLink RX6 166 yX3_cheapestWay, Cond.instanceMethod yX3_cheapestWay, Cond.selects RX3 yX3_cheapestWay yX3_cheapestWay, Cond.code yX3_cheapestWay cX3_cheapestWay 3 (some .int), Cond.methodLink RL 73 yX7_way, Cond.instanceMethod yX7_way, Cond.selects RX7 yX7_way yX7_way, Cond.code yX7_way cX7_way 3 (some .int), Cond.methodLink RX7 254 yX7_looksForWays, Cond.instanceMethod yX7_looksForWays, Cond.selects RX7 yX7_looksForWays yX7_looksForWays, Cond.code yX7_looksForWays cX7_looksForWays 5 none, Cond.methodLink RL 74 yX6_errands, Cond.instanceMethod yX6_errands, Cond.selects RX6 yX6_errands yX6_errands, Cond.code yX6_errands cX6_errands 4 (some .int), Cond.methodLink RX6 169 yX3_plan, Cond.instanceMethod yX3_plan, Cond.selects RX3 yX3_plan yX3_plan, Cond.code yX3_plan cX3_plan 5 none, Cond.methodLink RX3 52 yX3_leastRest, Cond.instanceMethod yX3_leastRest]
def wsL_law_r31 : List Cond := [Cond.selects RX3 yX3_leastRest yX3_leastRest, Cond.code yX3_leastRest cX3_leastRest 5 (some .int), Cond.methodLink RX3 55 yX3_restBy, Cond.instanceMethod yX3_restBy, Cond.selects RX3 yX3_restBy yX3_restBy, Cond.code yX3_restBy cX3_restBy 4 (some .int), Cond.methodLink RX6 173 yX3_planned, Cond.instanceMethod yX3_planned, Cond.selects RX3 yX3_planned yX3_planned, Cond.code yX3_planned cX3_planned 4 (some .int), Cond.methodLink RX6 176 yX3_inOrder, Cond.instanceMethod yX3_inOrder, Cond.selects RX3 yX3_inOrder yX3_inOrder, Cond.code yX3_inOrder cX3_inOrder 7 (some .int), Cond.methodLink RX3 59 yX3_planned, Cond.methodLink RX3 62 yX3_firstOf, Cond.instanceMethod yX3_firstOf, Cond.selects RX3 yX3_firstOf yX3_firstOf, Cond.code yX3_firstOf cX3_firstOf 5 (some .int), Cond.methodLink RL 77 yX7_errands, Cond.instanceMethod yX7_errands, Cond.selects RX7 yX7_errands yX7_errands, Cond.code yX7_errands cX7_errands 5 (some .int), Cond.fieldLink RX7 257 "EvenTallyModel" "bestCost" "I"]
def wsL_law_r32 : List Cond := [Cond.methodLink RX7 260 yX7_ordersFrom, Cond.instanceMethod yX7_ordersFrom, Cond.selects RX7 yX7_ordersFrom yX7_ordersFrom, Cond.code yX7_ordersFrom cX7_ordersFrom 8 none, Cond.methodLink RL 78 yX6_stand, Cond.instanceMethod yX6_stand, Cond.selects RX6 yX6_stand yX6_stand, Cond.code yX6_stand cX6_stand 1 (some .int), Cond.methodLink RX6 180 yX3_bestPlace, Cond.instanceMethod yX3_bestPlace, Cond.selects RX3 yX3_bestPlace yX3_bestPlace, Cond.code yX3_bestPlace cX3_bestPlace 7 (some .int), Cond.methodLink RL 81 yX7_stand, Cond.instanceMethod yX7_stand, Cond.selects RX7 yX7_stand yX7_stand, Cond.code yX7_stand cX7_stand 8 (some .int), Cond.methodLink RL 82 yX6_ways, Cond.instanceMethod yX6_ways, Cond.selects RX6 yX6_ways yX6_ways, Cond.code yX6_ways cX6_ways 4 (some .long), Cond.constantLong RX6 183 (-9223372036854775808), Cond.methodLink RX6 185 yX3_walks, Cond.instanceMethod yX3_walks, Cond.selects RX3 yX3_walks yX3_walks]
def wsL_law_r33 : List Cond := [Cond.code yX3_walks cX3_walks 6 (some .long), Cond.methodLink RX3 79 arraycopyName, Cond.methodLink RX3 65 yX3_begin, Cond.instanceMethod yX3_begin, Cond.selects RX3 yX3_begin yX3_begin, Cond.code yX3_begin cX3_begin 2 none, Cond.methodLink RX3 69 yJ7_fill_d0a16, Cond.static yJ7_fill_d0a16, Cond.code yJ7_fill_d0a16 cJ7_fill_d0a16 5 none, Cond.methodLink RX3 75 yX3_give, Cond.instanceMethod yX3_give, Cond.selects RX3 yX3_give yX3_give, Cond.code yX3_give cX3_give 5 none, Cond.methodLink RL 86 yX7_ways, Cond.instanceMethod yX7_ways, Cond.selects RX7 yX7_ways yX7_ways, Cond.code yX7_ways cX7_ways 5 (some .long), Cond.constantLong RX7 266 (-9223372036854775808), Cond.methodLink RX7 268 yX7_begins, Cond.instanceMethod yX7_begins, Cond.selects RX7 yX7_begins yX7_begins, Cond.code yX7_begins cX7_begins 3 none, Cond.methodLink RX7 271 yX7_goesOn, Cond.instanceMethod yX7_goesOn]
def wsL_law_r34 : List Cond := [Cond.selects RX7 yX7_goesOn yX7_goesOn, Cond.code yX7_goesOn cX7_goesOn 6 none, Cond.constantLong RX7 264 (60), Cond.methodLink RL 87 yX6_stray, Cond.instanceMethod yX6_stray, Cond.selects RX6 yX6_stray yX6_stray, Cond.code yX6_stray cX6_stray 5 (some .long), Cond.methodLink RX6 189 yX3_chance, Cond.instanceMethod yX3_chance, Cond.selects RX3 yX3_chance yX3_chance, Cond.code yX3_chance cX3_chance 9 (some .long), Cond.constantLong RX3 85 (60), Cond.constantLong RX3 94 (-9223372036854775808), Cond.methodLink RX3 87 yX3_share, Cond.instanceMethod yX3_share, Cond.selects RX3 yX3_share yX3_share, Cond.code yX3_share cX3_share 3 none, Cond.methodLink RX3 96 yJ6_bitCount_0f7a4, Cond.methodLink RX3 90 yX3_commonDivisor, Cond.static yX3_commonDivisor, Cond.code yX3_commonDivisor cX3_commonDivisor 11 (some .long), Cond.methodLink RL 91 yX7_stray, Cond.instanceMethod yX7_stray, Cond.selects RX7 yX7_stray yX7_stray]
def wsL_law_r35 : List Cond := [Cond.code yX7_stray cX7_stray 8 (some .long), Cond.methodLink RX7 274 yX7_lowest, Cond.static yX7_lowest, Cond.code yX7_lowest cX7_lowest 11 (some .long), Cond.methodLink RL 92 yX6_tell, Cond.instanceMethod yX6_tell, Cond.selects RX6 yX6_tell yX6_tell, Cond.code yX6_tell cX6_tell 3 (some .int), Cond.fieldLink RX6 193 "EvenTally$State" "tallies" "I", Cond.fieldLink RX6 196 "EvenTally$State" "toldIn" "[I", Cond.fieldLink RX6 199 "EvenTally$State" "toldOut" "[I", Cond.methodLink RL 95 yX7_tell, Cond.instanceMethod yX7_tell, Cond.selects RX7 yX7_tell yX7_tell, Cond.code yX7_tell cX7_tell 3 (some .int), Cond.methodLink RL 96 yX6_wrong, Cond.instanceMethod yX6_wrong, Cond.selects RX6 yX6_wrong yX6_wrong, Cond.code yX6_wrong cX6_wrong 2 (some .int), Cond.methodLink RX6 202 yX4_off, Cond.instanceMethod yX4_off, Cond.selects RX4 yX4_off yX4_off, Cond.code yX4_off cX4_off 3 (some .int), Cond.fieldLink RX4 66 "EvenTally$State" "tallies" "I"]
def wsL_law_r36 : List Cond := [Cond.methodLink RX6 205 yX4_wrongOnes, Cond.instanceMethod yX4_wrongOnes, Cond.selects RX4 yX4_wrongOnes yX4_wrongOnes, Cond.code yX4_wrongOnes cX4_wrongOnes 6 (some .int), Cond.methodLink RL 99 yX7_wrong, Cond.instanceMethod yX7_wrong, Cond.selects RX7 yX7_wrong yX7_wrong, Cond.code yX7_wrong cX7_wrong 6 (some .int), Cond.methodLink RL 100 yX6_act, Cond.instanceMethod yX6_act, Cond.selects RX6 yX6_act yX6_act, Cond.code yX6_act cX6_act 4 (some .int), Cond.methodLink RX6 208 yX0_forget, Cond.instanceMethod yX0_forget, Cond.selects RX0 yX0_forget yX0_forget, Cond.code yX0_forget cX0_forget 1 none, Cond.fieldLink RX0 15 "EvenTally$Actor" "ran" "I", Cond.methodLink RX6 211 yX0_perform, Cond.instanceMethod yX0_perform, Cond.selects RX0 yX0_perform yX0_perform, Cond.code yX0_perform cX0_perform 5 (some .int), Cond.fieldLink RX0 19 "EvenTally$Actor" "number" "I", Cond.fieldLink RX0 22 "EvenTally$State" "kind" "[I", Cond.fieldLink RX0 27 "EvenTally$Actor" "kind" "I"]
def wsL_law_r37 : List Cond := [Cond.fieldLink RX0 29 "EvenTally$State" "v" "[I", Cond.fieldLink RX0 32 "EvenTally$Actor" "v" "I", Cond.methodLink RX0 34 yX0_run, Cond.instanceMethod yX0_run, Cond.selects RX0 yX0_run yX0_run, Cond.code yX0_run cX0_run 7 (some .int), Cond.fieldLink RX0 38 "EvenTally$Actor" "BODIES" "[I", Cond.methodLink RX0 44 yX0_runBody, Cond.instanceMethod yX0_runBody, Cond.selects RX0 yX0_runBody yX0_runBody, Cond.code yX0_runBody cX0_runBody 5 (some .int), Cond.methodLink RX0 47 yX0_note, Cond.instanceMethod yX0_note, Cond.selects RX0 yX0_note yX0_note, Cond.code yX0_note cX0_note 2 none, Cond.methodLink RL 103 yX7_act, Cond.instanceMethod yX7_act, Cond.selects RX7 yX7_act yX7_act, Cond.code yX7_act cX7_act 4 (some .int), Cond.fieldLink RX7 278 "EvenTallyModel" "ran" "I", Cond.fieldLink RX7 287 "EvenTallyModel" "kind" "I", Cond.fieldLink RX7 284 "EvenTallyModel" "number" "I", Cond.fieldLink RX7 299 "EvenTallyModel" "tellsV" "I", Cond.methodLink RX7 296 yX7_countsActs]
def wsL_law_r38 : List Cond := [Cond.instanceMethod yX7_countsActs, Cond.selects RX7 yX7_countsActs yX7_countsActs, Cond.code yX7_countsActs cX7_countsActs 2 (some .int), Cond.methodLink RX7 290 yX7_isUnder, Cond.static yX7_isUnder, Cond.code yX7_isUnder cX7_isUnder 2 (some .boolean), Cond.methodLink RX7 281 yX7_ranBody, Cond.instanceMethod yX7_ranBody, Cond.selects RX7 yX7_ranBody yX7_ranBody, Cond.code yX7_ranBody cX7_ranBody 2 none, Cond.methodLink RX7 293 yX7_plainCounts, Cond.instanceMethod yX7_plainCounts, Cond.selects RX7 yX7_plainCounts yX7_plainCounts, Cond.code yX7_plainCounts cX7_plainCounts 2 (some .int), Cond.methodLink RX7 305 yX7_paysActs, Cond.instanceMethod yX7_paysActs, Cond.selects RX7 yX7_paysActs yX7_paysActs, Cond.code yX7_paysActs cX7_paysActs 2 (some .int), Cond.methodLink RX7 302 yX7_plainPays, Cond.instanceMethod yX7_plainPays, Cond.selects RX7 yX7_plainPays yX7_plainPays, Cond.code yX7_plainPays cX7_plainPays 2 (some .int), Cond.methodLink RX7 311 yX7_tellsActs, Cond.instanceMethod yX7_tellsActs]
def wsL_law_r39 : List Cond := [Cond.selects RX7 yX7_tellsActs yX7_tellsActs, Cond.code yX7_tellsActs cX7_tellsActs 3 (some .int), Cond.methodLink RX7 308 yX7_plainTells, Cond.instanceMethod yX7_plainTells, Cond.selects RX7 yX7_plainTells yX7_plainTells, Cond.code yX7_plainTells cX7_plainTells 2 (some .int), Cond.methodLink RL 104 yX6_trace, Cond.instanceMethod yX6_trace, Cond.selects RX6 yX6_trace yX6_trace, Cond.code yX6_trace cX6_trace 2 (some .int), Cond.fieldLink RX6 215 "EvenTally$Actor" "ran" "I", Cond.fieldLink RX6 218 "EvenTally$Actor" "traced" "[I", Cond.methodLink RL 107 yX7_trace, Cond.instanceMethod yX7_trace, Cond.selects RX7 yX7_trace yX7_trace, Cond.code yX7_trace cX7_trace 2 (some .int), Cond.methodLink RL 108 yX6_as, Cond.instanceMethod yX6_as, Cond.selects RX6 yX6_as yX6_as, Cond.code yX6_as cX6_as 3 (some .int), Cond.methodLink RX6 221 yX6_isUnder, Cond.methodLink RL 111 yX7_as, Cond.instanceMethod yX7_as, Cond.selects RX7 yX7_as yX7_as]
def wsL_law_r40 : List Cond := [Cond.code yX7_as cX7_as 3 (some .int), Cond.methodLink RL 112 yX6_image, Cond.instanceMethod yX6_image, Cond.selects RX6 yX6_image yX6_image, Cond.code yX6_image cX6_image 1 (some .int), Cond.methodLink RX6 224 yX4_copyFrom, Cond.instanceMethod yX4_copyFrom, Cond.selects RX4 yX4_copyFrom yX4_copyFrom, Cond.code yX4_copyFrom cX4_copyFrom 2 none, Cond.methodLink RX4 47 arraycopyName, Cond.fieldLink RX4 56 "EvenTally$State" "signs" "I", Cond.fieldLink RX4 59 "EvenTally$State" "towns" "I", Cond.methodLink RX4 62 yX5_copyFrom, Cond.methodLink RL 115 yX7_image, Cond.instanceMethod yX7_image, Cond.selects RX7 yX7_image yX7_image, Cond.code yX7_image cX7_image 2 (some .int), Cond.fieldLink RX7 314 "EvenTallyModel" "hasImage" "Z", Cond.methodLink RL 116 yX6_undo, Cond.instanceMethod yX6_undo, Cond.selects RX6 yX6_undo yX6_undo, Cond.code yX6_undo cX6_undo 1 (some .int), Cond.methodLink RL 119 yX7_undo, Cond.instanceMethod yX7_undo]
def wsL_law_r41 : List Cond := [Cond.selects RX7 yX7_undo yX7_undo, Cond.code yX7_undo cX7_undo 2 (some .int), Cond.methodLink RL 120 yX6_count, Cond.instanceMethod yX6_count, Cond.selects RX6 yX6_count yX6_count, Cond.code yX6_count cX6_count 2 (some .int), Cond.methodLink RL 123 yX7_count, Cond.instanceMethod yX7_count, Cond.selects RX7 yX7_count yX7_count, Cond.code yX7_count cX7_count 2 (some .int)]
def wsL_law : List Cond := (wsL_law_r1 ++ (wsL_law_r2 ++ (wsL_law_r3 ++ (wsL_law_r4 ++ (wsL_law_r5 ++ (wsL_law_r6 ++ (wsL_law_r7 ++ (wsL_law_r8 ++ (wsL_law_r9 ++ (wsL_law_r10 ++ (wsL_law_r11 ++ (wsL_law_r12 ++ (wsL_law_r13 ++ (wsL_law_r14 ++ (wsL_law_r15 ++ (wsL_law_r16 ++ (wsL_law_r17 ++ (wsL_law_r18 ++ (wsL_law_r19 ++ (wsL_law_r20 ++ (wsL_law_r21 ++ (wsL_law_r22 ++ (wsL_law_r23 ++ (wsL_law_r24 ++ (wsL_law_r25 ++ (wsL_law_r26 ++ (wsL_law_r27 ++ (wsL_law_r28 ++ (wsL_law_r29 ++ (wsL_law_r30 ++ (wsL_law_r31 ++ (wsL_law_r32 ++ (wsL_law_r33 ++ (wsL_law_r34 ++ (wsL_law_r35 ++ (wsL_law_r36 ++ (wsL_law_r37 ++ (wsL_law_r38 ++ (wsL_law_r39 ++ (wsL_law_r40 ++ wsL_law_r41)))))))))))))))))))))))))))))))))))))))) ++ wsX60 ++ wsX70 ++ wsX40 ++ wsX20 ++ wsX10 ++ wsX30 ++ wsX00 ++ wsX50 ++ ([] : List Cond)
theorem inlX0 : ∀ w ∈ wsX00, w ∈ wsL_law := fun _ h => List.mem_append_left _ (List.mem_append_left _ (List.mem_append_right _ h))
theorem inlX1 : ∀ w ∈ wsX10, w ∈ wsL_law := fun _ h => List.mem_append_left _ (List.mem_append_left _ (List.mem_append_left _ (List.mem_append_left _ (List.mem_append_right _ h))))
theorem inlX2 : ∀ w ∈ wsX20, w ∈ wsL_law := fun _ h => List.mem_append_left _ (List.mem_append_left _ (List.mem_append_left _ (List.mem_append_left _ (List.mem_append_left _ (List.mem_append_right _ h)))))
theorem inlX3 : ∀ w ∈ wsX30, w ∈ wsL_law := fun _ h => List.mem_append_left _ (List.mem_append_left _ (List.mem_append_left _ (List.mem_append_right _ h)))
theorem inlX4 : ∀ w ∈ wsX40, w ∈ wsL_law := fun _ h => List.mem_append_left _ (List.mem_append_left _ (List.mem_append_left _ (List.mem_append_left _ (List.mem_append_left _ (List.mem_append_left _ (List.mem_append_right _ h))))))
theorem inlX5 : ∀ w ∈ wsX50, w ∈ wsL_law := fun _ h => List.mem_append_left _ (List.mem_append_right _ h)
theorem inlX6 : ∀ w ∈ wsX60, w ∈ wsL_law := fun _ h => List.mem_append_left _ (List.mem_append_left _ (List.mem_append_left _ (List.mem_append_left _ (List.mem_append_left _ (List.mem_append_left _ (List.mem_append_left _ (List.mem_append_left _ (List.mem_append_right _ h))))))))
theorem inlX7 : ∀ w ∈ wsX70, w ∈ wsL_law := fun _ h => List.mem_append_left _ (List.mem_append_left _ (List.mem_append_left _ (List.mem_append_left _ (List.mem_append_left _ (List.mem_append_left _ (List.mem_append_left _ (List.mem_append_right _ h)))))))
abbrev vwCl : List vw_C := [(RX0, TX0, 5), (RX1, TX1, 14), (RX2, TX2, 5), (RX3, TX3, 6), (RX4, TX4, 14), (RX5, TX5, 7), (RX6, TX6, 7), (RX7, TX7, 38)]
