section
-- ===== PART A: goes FIRST, ahead of the names: the tables' words, and 'selects' of the private methods out of them =====
/-- a private method of a class that the tables say can be made, by its rows of tables_1 -/
def lw_okq (q : MethodName × Nat) : Prop := (q.1.cls ≠ "java/lang/invoke/MethodHandle" ∧ q.1.cls ≠ "java/lang/invoke/VarHandle") ∧ Cond.instantiable q.1.cls q.2 ∈ tables_1 ∧ Cond.privateMethod q.1 ∈ tables_1 ∧ Cond.instanceMethod q.1 ∈ tables_1
theorem lw_p0 : lw_okq (⟨"LikeTales", "isInUse", "(I)Z"⟩, 12) := ⟨⟨by decide +kernel, by decide +kernel⟩, List.mem_of_getElem? (i := 16) (by decide +kernel), List.mem_of_getElem? (i := 439) (by decide +kernel), List.mem_of_getElem? (i := 440) (by decide +kernel)⟩
theorem lw_p1 : lw_okq (⟨"LikeTales", "tiesToldOf", "(I)I"⟩, 12) := ⟨⟨by decide +kernel, by decide +kernel⟩, List.mem_of_getElem? (i := 16) (by decide +kernel), List.mem_of_getElem? (i := 443) (by decide +kernel), List.mem_of_getElem? (i := 444) (by decide +kernel)⟩
theorem lw_p2 : lw_okq (⟨"LikeTales$Language", "loosen", "(I)V"⟩, 4) := ⟨⟨by decide +kernel, by decide +kernel⟩, List.mem_of_getElem? (i := 24) (by decide +kernel), List.mem_of_getElem? (i := 474) (by decide +kernel), List.mem_of_getElem? (i := 475) (by decide +kernel)⟩
theorem lw_p3 : lw_okq (⟨"LikeTales$Net", "isEnd", "(I)Z"⟩, 8) := ⟨⟨by decide +kernel, by decide +kernel⟩, List.mem_of_getElem? (i := 58) (by decide +kernel), List.mem_of_getElem? (i := 528) (by decide +kernel), List.mem_of_getElem? (i := 529) (by decide +kernel)⟩
theorem lw_p4 : lw_okq (⟨"LikeTales$Net", "heightOfEnd", "(I)I"⟩, 8) := ⟨⟨by decide +kernel, by decide +kernel⟩, List.mem_of_getElem? (i := 58) (by decide +kernel), List.mem_of_getElem? (i := 540) (by decide +kernel), List.mem_of_getElem? (i := 541) (by decide +kernel)⟩
theorem lw_p5 : lw_okq (⟨"LikeTales$Search", "prepare", "(LLikeTales$Net;LLikeTales$Net;IZI)V"⟩, 14) := ⟨⟨by decide +kernel, by decide +kernel⟩, List.mem_of_getElem? (i := 210) (by decide +kernel), List.mem_of_getElem? (i := 589) (by decide +kernel), List.mem_of_getElem? (i := 590) (by decide +kernel)⟩
theorem lw_p6 : lw_okq (⟨"LikeTales$Answering", "compareTie", "(II)V"⟩, 14) := ⟨⟨by decide +kernel, by decide +kernel⟩, List.mem_of_getElem? (i := 52) (by decide +kernel), List.mem_of_getElem? (i := 605) (by decide +kernel), List.mem_of_getElem? (i := 606) (by decide +kernel)⟩
theorem lw_p7 : lw_okq (⟨"LikeTales$Answering", "noteEnds", "(I)V"⟩, 14) := ⟨⟨by decide +kernel, by decide +kernel⟩, List.mem_of_getElem? (i := 52) (by decide +kernel), List.mem_of_getElem? (i := 610) (by decide +kernel), List.mem_of_getElem? (i := 611) (by decide +kernel)⟩
theorem lw_p8 : lw_okq (⟨"LikeTales$Search", "open", "()V"⟩, 14) := ⟨⟨by decide +kernel, by decide +kernel⟩, List.mem_of_getElem? (i := 210) (by decide +kernel), List.mem_of_getElem? (i := 615) (by decide +kernel), List.mem_of_getElem? (i := 616) (by decide +kernel)⟩
theorem lw_p9 : lw_okq (⟨"LikeTales$Search", "arrive", "()V"⟩, 14) := ⟨⟨by decide +kernel, by decide +kernel⟩, List.mem_of_getElem? (i := 210) (by decide +kernel), List.mem_of_getElem? (i := 622) (by decide +kernel), List.mem_of_getElem? (i := 623) (by decide +kernel)⟩
theorem lw_p10 : lw_okq (⟨"LikeTales$Answering", "reachable", "(I)I"⟩, 14) := ⟨⟨by decide +kernel, by decide +kernel⟩, List.mem_of_getElem? (i := 52) (by decide +kernel), List.mem_of_getElem? (i := 630) (by decide +kernel), List.mem_of_getElem? (i := 631) (by decide +kernel)⟩
theorem lw_p11 : lw_okq (⟨"LikeTales$Answering", "reach", "(II)I"⟩, 14) := ⟨⟨by decide +kernel, by decide +kernel⟩, List.mem_of_getElem? (i := 52) (by decide +kernel), List.mem_of_getElem? (i := 634) (by decide +kernel), List.mem_of_getElem? (i := 635) (by decide +kernel)⟩
theorem lw_p12 : lw_okq (⟨"LikeTales$Timing", "outOfStep", "(III)I"⟩, 8) := ⟨⟨by decide +kernel, by decide +kernel⟩, List.mem_of_getElem? (i := 125) (by decide +kernel), List.mem_of_getElem? (i := 642) (by decide +kernel), List.mem_of_getElem? (i := 643) (by decide +kernel)⟩
theorem lw_p13 : lw_okq (⟨"LikeTales$Answering", "firstOf", "(I)I"⟩, 14) := ⟨⟨by decide +kernel, by decide +kernel⟩, List.mem_of_getElem? (i := 52) (by decide +kernel), List.mem_of_getElem? (i := 646) (by decide +kernel), List.mem_of_getElem? (i := 647) (by decide +kernel)⟩
theorem lw_p14 : lw_okq (⟨"LikeTales$Answering", "gain", "(IIII)I"⟩, 14) := ⟨⟨by decide +kernel, by decide +kernel⟩, List.mem_of_getElem? (i := 52) (by decide +kernel), List.mem_of_getElem? (i := 650) (by decide +kernel), List.mem_of_getElem? (i := 651) (by decide +kernel)⟩
theorem lw_p15 : lw_okq (⟨"LikeTales$Search", "sortHope", "(I)I"⟩, 14) := ⟨⟨by decide +kernel, by decide +kernel⟩, List.mem_of_getElem? (i := 210) (by decide +kernel), List.mem_of_getElem? (i := 654) (by decide +kernel), List.mem_of_getElem? (i := 655) (by decide +kernel)⟩
def lw_privs_1 : List (MethodName × Nat) := [(⟨"LikeTales", "isInUse", "(I)Z"⟩, 12), (⟨"LikeTales", "tiesToldOf", "(I)I"⟩, 12), (⟨"LikeTales$Language", "loosen", "(I)V"⟩, 4), (⟨"LikeTales$Net", "isEnd", "(I)Z"⟩, 8), (⟨"LikeTales$Net", "heightOfEnd", "(I)I"⟩, 8), (⟨"LikeTales$Search", "prepare", "(LLikeTales$Net;LLikeTales$Net;IZI)V"⟩, 14), (⟨"LikeTales$Answering", "compareTie", "(II)V"⟩, 14), (⟨"LikeTales$Answering", "noteEnds", "(I)V"⟩, 14), (⟨"LikeTales$Search", "open", "()V"⟩, 14), (⟨"LikeTales$Search", "arrive", "()V"⟩, 14), (⟨"LikeTales$Answering", "reachable", "(I)I"⟩, 14), (⟨"LikeTales$Answering", "reach", "(II)I"⟩, 14), (⟨"LikeTales$Timing", "outOfStep", "(III)I"⟩, 8), (⟨"LikeTales$Answering", "firstOf", "(I)I"⟩, 14), (⟨"LikeTales$Answering", "gain", "(IIII)I"⟩, 14), (⟨"LikeTales$Search", "sortHope", "(I)I"⟩, 14)]
theorem lw_r1 : ∀ q ∈ lw_privs_1, lw_okq q := List.forall_mem_cons.mpr ⟨lw_p0, List.forall_mem_cons.mpr ⟨lw_p1, List.forall_mem_cons.mpr ⟨lw_p2, List.forall_mem_cons.mpr ⟨lw_p3, List.forall_mem_cons.mpr ⟨lw_p4, List.forall_mem_cons.mpr ⟨lw_p5, List.forall_mem_cons.mpr ⟨lw_p6, List.forall_mem_cons.mpr ⟨lw_p7, List.forall_mem_cons.mpr ⟨lw_p8, List.forall_mem_cons.mpr ⟨lw_p9, List.forall_mem_cons.mpr ⟨lw_p10, List.forall_mem_cons.mpr ⟨lw_p11, List.forall_mem_cons.mpr ⟨lw_p12, List.forall_mem_cons.mpr ⟨lw_p13, List.forall_mem_cons.mpr ⟨lw_p14, List.forall_mem_cons.mpr ⟨lw_p15, fun _ h => absurd h List.not_mem_nil⟩⟩⟩⟩⟩⟩⟩⟩⟩⟩⟩⟩⟩⟩⟩⟩
theorem lw_p16 : lw_okq (⟨"LikeTales$Search", "keepPartners", "()V"⟩, 14) := ⟨⟨by decide +kernel, by decide +kernel⟩, List.mem_of_getElem? (i := 210) (by decide +kernel), List.mem_of_getElem? (i := 664) (by decide +kernel), List.mem_of_getElem? (i := 665) (by decide +kernel)⟩
theorem lw_p17 : lw_okq (⟨"LikeTales$Search", "isHopeful", "(I)Z"⟩, 14) := ⟨⟨by decide +kernel, by decide +kernel⟩, List.mem_of_getElem? (i := 210) (by decide +kernel), List.mem_of_getElem? (i := 669) (by decide +kernel), List.mem_of_getElem? (i := 670) (by decide +kernel)⟩
theorem lw_p18 : lw_okq (⟨"LikeTales$Answering", "noteFree", "(I)V"⟩, 14) := ⟨⟨by decide +kernel, by decide +kernel⟩, List.mem_of_getElem? (i := 52) (by decide +kernel), List.mem_of_getElem? (i := 680) (by decide +kernel), List.mem_of_getElem? (i := 681) (by decide +kernel)⟩
theorem lw_p19 : lw_okq (⟨"LikeTales$Answering", "spread", "(II)V"⟩, 14) := ⟨⟨by decide +kernel, by decide +kernel⟩, List.mem_of_getElem? (i := 52) (by decide +kernel), List.mem_of_getElem? (i := 688) (by decide +kernel), List.mem_of_getElem? (i := 689) (by decide +kernel)⟩
theorem lw_p20 : lw_okq (⟨"LikeTales$Guesses", "isGuess", "(I)Z"⟩, 6) := ⟨⟨by decide +kernel, by decide +kernel⟩, List.mem_of_getElem? (i := 269) (by decide +kernel), List.mem_of_getElem? (i := 711) (by decide +kernel), List.mem_of_getElem? (i := 712) (by decide +kernel)⟩
theorem lw_p21 : lw_okq (⟨"LikeTales$Guesses", "over", "(I)I"⟩, 6) := ⟨⟨by decide +kernel, by decide +kernel⟩, List.mem_of_getElem? (i := 269) (by decide +kernel), List.mem_of_getElem? (i := 715) (by decide +kernel), List.mem_of_getElem? (i := 716) (by decide +kernel)⟩
theorem lw_p22 : lw_okq (⟨"LikeTales$Guesses", "isTold", "(IILLikeTales$Net;LLikeTales$Language;)Z"⟩, 6) := ⟨⟨by decide +kernel, by decide +kernel⟩, List.mem_of_getElem? (i := 269) (by decide +kernel), List.mem_of_getElem? (i := 777) (by decide +kernel), List.mem_of_getElem? (i := 778) (by decide +kernel)⟩
theorem lw_p23 : lw_okq (⟨"LikeTales", "isPeaceWithout", "(I)Z"⟩, 12) := ⟨⟨by decide +kernel, by decide +kernel⟩, List.mem_of_getElem? (i := 16) (by decide +kernel), List.mem_of_getElem? (i := 796) (by decide +kernel), List.mem_of_getElem? (i := 797) (by decide +kernel)⟩
theorem lw_p24 : lw_okq (⟨"LikeTales$Seeker", "greatestBound", "()I"⟩, 5) := ⟨⟨by decide +kernel, by decide +kernel⟩, List.mem_of_getElem? (i := 371) (by decide +kernel), List.mem_of_getElem? (i := 823) (by decide +kernel), List.mem_of_getElem? (i := 824) (by decide +kernel)⟩
theorem lw_p25 : lw_okq (⟨"LikeTales$Weaver", "clear", "()V"⟩, 9) := ⟨⟨by decide +kernel, by decide +kernel⟩, List.mem_of_getElem? (i := 334) (by decide +kernel), List.mem_of_getElem? (i := 840) (by decide +kernel), List.mem_of_getElem? (i := 841) (by decide +kernel)⟩
theorem lw_p26 : lw_okq (⟨"LikeTales$Weaver", "bringEnds", "(LLikeTales$Net;I)Z"⟩, 9) := ⟨⟨by decide +kernel, by decide +kernel⟩, List.mem_of_getElem? (i := 334) (by decide +kernel), List.mem_of_getElem? (i := 845) (by decide +kernel), List.mem_of_getElem? (i := 846) (by decide +kernel)⟩
theorem lw_p27 : lw_okq (⟨"LikeTales$Weaver", "newEnd", "(I)I"⟩, 9) := ⟨⟨by decide +kernel, by decide +kernel⟩, List.mem_of_getElem? (i := 334) (by decide +kernel), List.mem_of_getElem? (i := 849) (by decide +kernel), List.mem_of_getElem? (i := 850) (by decide +kernel)⟩
theorem lw_p28 : lw_okq (⟨"LikeTales$Weaver", "findOrPut", "(II)I"⟩, 9) := ⟨⟨by decide +kernel, by decide +kernel⟩, List.mem_of_getElem? (i := 334) (by decide +kernel), List.mem_of_getElem? (i := 856) (by decide +kernel), List.mem_of_getElem? (i := 857) (by decide +kernel)⟩
theorem lw_p29 : lw_okq (⟨"LikeTales", "isRight", "(II)Z"⟩, 12) := ⟨⟨by decide +kernel, by decide +kernel⟩, List.mem_of_getElem? (i := 16) (by decide +kernel), List.mem_of_getElem? (i := 895) (by decide +kernel), List.mem_of_getElem? (i := 896) (by decide +kernel)⟩
theorem lw_p30 : lw_okq (⟨"LikeTalesModel", "isUsed", "(I)Z"⟩, 36) := ⟨⟨by decide +kernel, by decide +kernel⟩, List.mem_of_getElem? (i := 899) (by decide +kernel), List.mem_of_getElem? (i := 1024) (by decide +kernel), List.mem_of_getElem? (i := 1025) (by decide +kernel)⟩
theorem lw_p31 : lw_okq (⟨"LikeTalesModel", "tiesOf", "(I)I"⟩, 36) := ⟨⟨by decide +kernel, by decide +kernel⟩, List.mem_of_getElem? (i := 899) (by decide +kernel), List.mem_of_getElem? (i := 1028) (by decide +kernel), List.mem_of_getElem? (i := 1029) (by decide +kernel)⟩
def lw_privs_2 : List (MethodName × Nat) := [(⟨"LikeTales$Search", "keepPartners", "()V"⟩, 14), (⟨"LikeTales$Search", "isHopeful", "(I)Z"⟩, 14), (⟨"LikeTales$Answering", "noteFree", "(I)V"⟩, 14), (⟨"LikeTales$Answering", "spread", "(II)V"⟩, 14), (⟨"LikeTales$Guesses", "isGuess", "(I)Z"⟩, 6), (⟨"LikeTales$Guesses", "over", "(I)I"⟩, 6), (⟨"LikeTales$Guesses", "isTold", "(IILLikeTales$Net;LLikeTales$Language;)Z"⟩, 6), (⟨"LikeTales", "isPeaceWithout", "(I)Z"⟩, 12), (⟨"LikeTales$Seeker", "greatestBound", "()I"⟩, 5), (⟨"LikeTales$Weaver", "clear", "()V"⟩, 9), (⟨"LikeTales$Weaver", "bringEnds", "(LLikeTales$Net;I)Z"⟩, 9), (⟨"LikeTales$Weaver", "newEnd", "(I)I"⟩, 9), (⟨"LikeTales$Weaver", "findOrPut", "(II)I"⟩, 9), (⟨"LikeTales", "isRight", "(II)Z"⟩, 12), (⟨"LikeTalesModel", "isUsed", "(I)Z"⟩, 36), (⟨"LikeTalesModel", "tiesOf", "(I)I"⟩, 36)]
theorem lw_r2 : ∀ q ∈ lw_privs_2, lw_okq q := List.forall_mem_cons.mpr ⟨lw_p16, List.forall_mem_cons.mpr ⟨lw_p17, List.forall_mem_cons.mpr ⟨lw_p18, List.forall_mem_cons.mpr ⟨lw_p19, List.forall_mem_cons.mpr ⟨lw_p20, List.forall_mem_cons.mpr ⟨lw_p21, List.forall_mem_cons.mpr ⟨lw_p22, List.forall_mem_cons.mpr ⟨lw_p23, List.forall_mem_cons.mpr ⟨lw_p24, List.forall_mem_cons.mpr ⟨lw_p25, List.forall_mem_cons.mpr ⟨lw_p26, List.forall_mem_cons.mpr ⟨lw_p27, List.forall_mem_cons.mpr ⟨lw_p28, List.forall_mem_cons.mpr ⟨lw_p29, List.forall_mem_cons.mpr ⟨lw_p30, List.forall_mem_cons.mpr ⟨lw_p31, fun _ h => absurd h List.not_mem_nil⟩⟩⟩⟩⟩⟩⟩⟩⟩⟩⟩⟩⟩⟩⟩⟩
theorem lw_p32 : lw_okq (⟨"LikeTalesModel", "isWide", "(I)Z"⟩, 36) := ⟨⟨by decide +kernel, by decide +kernel⟩, List.mem_of_getElem? (i := 899) (by decide +kernel), List.mem_of_getElem? (i := 1035) (by decide +kernel), List.mem_of_getElem? (i := 1036) (by decide +kernel)⟩
theorem lw_p33 : lw_okq (⟨"LikeTalesModel", "free", "(I)V"⟩, 36) := ⟨⟨by decide +kernel, by decide +kernel⟩, List.mem_of_getElem? (i := 899) (by decide +kernel), List.mem_of_getElem? (i := 1047) (by decide +kernel), List.mem_of_getElem? (i := 1048) (by decide +kernel)⟩
theorem lw_p34 : lw_okq (⟨"LikeTalesModel", "alikeAt", "(III)I"⟩, 36) := ⟨⟨by decide +kernel, by decide +kernel⟩, List.mem_of_getElem? (i := 899) (by decide +kernel), List.mem_of_getElem? (i := 1059) (by decide +kernel), List.mem_of_getElem? (i := 1060) (by decide +kernel)⟩
theorem lw_p35 : lw_okq (⟨"LikeTalesModel", "above", "(II)I"⟩, 36) := ⟨⟨by decide +kernel, by decide +kernel⟩, List.mem_of_getElem? (i := 899) (by decide +kernel), List.mem_of_getElem? (i := 1063) (by decide +kernel), List.mem_of_getElem? (i := 1064) (by decide +kernel)⟩
theorem lw_p36 : lw_okq (⟨"LikeTalesModel", "empty", "(II)V"⟩, 36) := ⟨⟨by decide +kernel, by decide +kernel⟩, List.mem_of_getElem? (i := 899) (by decide +kernel), List.mem_of_getElem? (i := 1078) (by decide +kernel), List.mem_of_getElem? (i := 1079) (by decide +kernel)⟩
theorem lw_p37 : lw_okq (⟨"LikeTalesModel", "isThing", "(II)Z"⟩, 36) := ⟨⟨by decide +kernel, by decide +kernel⟩, List.mem_of_getElem? (i := 899) (by decide +kernel), List.mem_of_getElem? (i := 1086) (by decide +kernel), List.mem_of_getElem? (i := 1087) (by decide +kernel)⟩
theorem lw_p38 : lw_okq (⟨"LikeTalesModel", "isEnd", "(II)Z"⟩, 36) := ⟨⟨by decide +kernel, by decide +kernel⟩, List.mem_of_getElem? (i := 899) (by decide +kernel), List.mem_of_getElem? (i := 1098) (by decide +kernel), List.mem_of_getElem? (i := 1099) (by decide +kernel)⟩
theorem lw_p39 : lw_okq (⟨"LikeTalesModel", "tieWith", "(IIIII)I"⟩, 36) := ⟨⟨by decide +kernel, by decide +kernel⟩, List.mem_of_getElem? (i := 899) (by decide +kernel), List.mem_of_getElem? (i := 1102) (by decide +kernel), List.mem_of_getElem? (i := 1103) (by decide +kernel)⟩
theorem lw_p40 : lw_okq (⟨"LikeTalesModel", "put", "(IIIIII)V"⟩, 36) := ⟨⟨by decide +kernel, by decide +kernel⟩, List.mem_of_getElem? (i := 899) (by decide +kernel), List.mem_of_getElem? (i := 1106) (by decide +kernel), List.mem_of_getElem? (i := 1107) (by decide +kernel)⟩
theorem lw_p41 : lw_okq (⟨"LikeTalesModel", "heightOf", "(IIIII)I"⟩, 36) := ⟨⟨by decide +kernel, by decide +kernel⟩, List.mem_of_getElem? (i := 899) (by decide +kernel), List.mem_of_getElem? (i := 1110) (by decide +kernel), List.mem_of_getElem? (i := 1111) (by decide +kernel)⟩
theorem lw_p42 : lw_okq (⟨"LikeTalesModel", "highest", "(I)I"⟩, 36) := ⟨⟨by decide +kernel, by decide +kernel⟩, List.mem_of_getElem? (i := 899) (by decide +kernel), List.mem_of_getElem? (i := 1122) (by decide +kernel), List.mem_of_getElem? (i := 1123) (by decide +kernel)⟩
theorem lw_p43 : lw_okq (⟨"LikeTalesModel", "become", "(II)V"⟩, 36) := ⟨⟨by decide +kernel, by decide +kernel⟩, List.mem_of_getElem? (i := 899) (by decide +kernel), List.mem_of_getElem? (i := 1130) (by decide +kernel), List.mem_of_getElem? (i := 1131) (by decide +kernel)⟩
theorem lw_p44 : lw_okq (⟨"LikeTalesModel", "likeness", "(IIIZ)I"⟩, 36) := ⟨⟨by decide +kernel, by decide +kernel⟩, List.mem_of_getElem? (i := 899) (by decide +kernel), List.mem_of_getElem? (i := 1141) (by decide +kernel), List.mem_of_getElem? (i := 1142) (by decide +kernel)⟩
theorem lw_p45 : lw_okq (⟨"LikeTalesModel", "firstRow", "(II)V"⟩, 36) := ⟨⟨by decide +kernel, by decide +kernel⟩, List.mem_of_getElem? (i := 899) (by decide +kernel), List.mem_of_getElem? (i := 1145) (by decide +kernel), List.mem_of_getElem? (i := 1146) (by decide +kernel)⟩
theorem lw_p46 : lw_okq (⟨"LikeTalesModel", "isWeighed", "(IIZ)Z"⟩, 36) := ⟨⟨by decide +kernel, by decide +kernel⟩, List.mem_of_getElem? (i := 899) (by decide +kernel), List.mem_of_getElem? (i := 1149) (by decide +kernel), List.mem_of_getElem? (i := 1150) (by decide +kernel)⟩
theorem lw_p47 : lw_okq (⟨"LikeTalesModel", "isPairing", "(I)Z"⟩, 36) := ⟨⟨by decide +kernel, by decide +kernel⟩, List.mem_of_getElem? (i := 899) (by decide +kernel), List.mem_of_getElem? (i := 1153) (by decide +kernel), List.mem_of_getElem? (i := 1154) (by decide +kernel)⟩
def lw_privs_3 : List (MethodName × Nat) := [(⟨"LikeTalesModel", "isWide", "(I)Z"⟩, 36), (⟨"LikeTalesModel", "free", "(I)V"⟩, 36), (⟨"LikeTalesModel", "alikeAt", "(III)I"⟩, 36), (⟨"LikeTalesModel", "above", "(II)I"⟩, 36), (⟨"LikeTalesModel", "empty", "(II)V"⟩, 36), (⟨"LikeTalesModel", "isThing", "(II)Z"⟩, 36), (⟨"LikeTalesModel", "isEnd", "(II)Z"⟩, 36), (⟨"LikeTalesModel", "tieWith", "(IIIII)I"⟩, 36), (⟨"LikeTalesModel", "put", "(IIIIII)V"⟩, 36), (⟨"LikeTalesModel", "heightOf", "(IIIII)I"⟩, 36), (⟨"LikeTalesModel", "highest", "(I)I"⟩, 36), (⟨"LikeTalesModel", "become", "(II)V"⟩, 36), (⟨"LikeTalesModel", "likeness", "(IIIZ)I"⟩, 36), (⟨"LikeTalesModel", "firstRow", "(II)V"⟩, 36), (⟨"LikeTalesModel", "isWeighed", "(IIZ)Z"⟩, 36), (⟨"LikeTalesModel", "isPairing", "(I)Z"⟩, 36)]
theorem lw_r3 : ∀ q ∈ lw_privs_3, lw_okq q := List.forall_mem_cons.mpr ⟨lw_p32, List.forall_mem_cons.mpr ⟨lw_p33, List.forall_mem_cons.mpr ⟨lw_p34, List.forall_mem_cons.mpr ⟨lw_p35, List.forall_mem_cons.mpr ⟨lw_p36, List.forall_mem_cons.mpr ⟨lw_p37, List.forall_mem_cons.mpr ⟨lw_p38, List.forall_mem_cons.mpr ⟨lw_p39, List.forall_mem_cons.mpr ⟨lw_p40, List.forall_mem_cons.mpr ⟨lw_p41, List.forall_mem_cons.mpr ⟨lw_p42, List.forall_mem_cons.mpr ⟨lw_p43, List.forall_mem_cons.mpr ⟨lw_p44, List.forall_mem_cons.mpr ⟨lw_p45, List.forall_mem_cons.mpr ⟨lw_p46, List.forall_mem_cons.mpr ⟨lw_p47, fun _ h => absurd h List.not_mem_nil⟩⟩⟩⟩⟩⟩⟩⟩⟩⟩⟩⟩⟩⟩⟩⟩
theorem lw_p48 : lw_okq (⟨"LikeTalesModel", "pairsOfRow", "(I)I"⟩, 36) := ⟨⟨by decide +kernel, by decide +kernel⟩, List.mem_of_getElem? (i := 899) (by decide +kernel), List.mem_of_getElem? (i := 1157) (by decide +kernel), List.mem_of_getElem? (i := 1158) (by decide +kernel)⟩
theorem lw_p49 : lw_okq (⟨"LikeTalesModel", "weigh", "(IIIZ)I"⟩, 36) := ⟨⟨by decide +kernel, by decide +kernel⟩, List.mem_of_getElem? (i := 899) (by decide +kernel), List.mem_of_getElem? (i := 1161) (by decide +kernel), List.mem_of_getElem? (i := 1162) (by decide +kernel)⟩
theorem lw_p50 : lw_okq (⟨"LikeTalesModel", "tieAnswers", "(IIIII)Z"⟩, 36) := ⟨⟨by decide +kernel, by decide +kernel⟩, List.mem_of_getElem? (i := 899) (by decide +kernel), List.mem_of_getElem? (i := 1165) (by decide +kernel), List.mem_of_getElem? (i := 1166) (by decide +kernel)⟩
theorem lw_p51 : lw_okq (⟨"LikeTalesModel", "endAnswers", "(II)Z"⟩, 36) := ⟨⟨by decide +kernel, by decide +kernel⟩, List.mem_of_getElem? (i := 899) (by decide +kernel), List.mem_of_getElem? (i := 1169) (by decide +kernel), List.mem_of_getElem? (i := 1170) (by decide +kernel)⟩
theorem lw_p52 : lw_okq (⟨"LikeTalesModel", "goes", "(IIII)Z"⟩, 36) := ⟨⟨by decide +kernel, by decide +kernel⟩, List.mem_of_getElem? (i := 899) (by decide +kernel), List.mem_of_getElem? (i := 1173) (by decide +kernel), List.mem_of_getElem? (i := 1174) (by decide +kernel)⟩
theorem lw_p53 : lw_okq (⟨"LikeTalesModel", "nextRow", "(II)Z"⟩, 36) := ⟨⟨by decide +kernel, by decide +kernel⟩, List.mem_of_getElem? (i := 899) (by decide +kernel), List.mem_of_getElem? (i := 1180) (by decide +kernel), List.mem_of_getElem? (i := 1181) (by decide +kernel)⟩
theorem lw_p54 : lw_okq (⟨"LikeTalesModel", "digits", "(I)I"⟩, 36) := ⟨⟨by decide +kernel, by decide +kernel⟩, List.mem_of_getElem? (i := 899) (by decide +kernel), List.mem_of_getElem? (i := 1196) (by decide +kernel), List.mem_of_getElem? (i := 1197) (by decide +kernel)⟩
theorem lw_p55 : lw_okq (⟨"LikeTalesModel", "takeKept", "()V"⟩, 36) := ⟨⟨by decide +kernel, by decide +kernel⟩, List.mem_of_getElem? (i := 899) (by decide +kernel), List.mem_of_getElem? (i := 1212) (by decide +kernel), List.mem_of_getElem? (i := 1213) (by decide +kernel)⟩
theorem lw_p56 : lw_okq (⟨"LikeTalesModel", "layGuesses", "()V"⟩, 36) := ⟨⟨by decide +kernel, by decide +kernel⟩, List.mem_of_getElem? (i := 899) (by decide +kernel), List.mem_of_getElem? (i := 1216) (by decide +kernel), List.mem_of_getElem? (i := 1217) (by decide +kernel)⟩
theorem lw_p57 : lw_okq (⟨"LikeTalesModel", "over", "(I)I"⟩, 36) := ⟨⟨by decide +kernel, by decide +kernel⟩, List.mem_of_getElem? (i := 899) (by decide +kernel), List.mem_of_getElem? (i := 1220) (by decide +kernel), List.mem_of_getElem? (i := 1221) (by decide +kernel)⟩
theorem lw_p58 : lw_okq (⟨"LikeTalesModel", "hasGuess", "(II)Z"⟩, 36) := ⟨⟨by decide +kernel, by decide +kernel⟩, List.mem_of_getElem? (i := 899) (by decide +kernel), List.mem_of_getElem? (i := 1228) (by decide +kernel), List.mem_of_getElem? (i := 1229) (by decide +kernel)⟩
theorem lw_p59 : lw_okq (⟨"LikeTalesModel", "isAgainst", "(I)Z"⟩, 36) := ⟨⟨by decide +kernel, by decide +kernel⟩, List.mem_of_getElem? (i := 899) (by decide +kernel), List.mem_of_getElem? (i := 1232) (by decide +kernel), List.mem_of_getElem? (i := 1233) (by decide +kernel)⟩
theorem lw_p60 : lw_okq (⟨"LikeTalesModel", "speaks", "(I)Z"⟩, 36) := ⟨⟨by decide +kernel, by decide +kernel⟩, List.mem_of_getElem? (i := 899) (by decide +kernel), List.mem_of_getElem? (i := 1243) (by decide +kernel), List.mem_of_getElem? (i := 1244) (by decide +kernel)⟩
theorem lw_p61 : lw_okq (⟨"LikeTalesModel", "boundOf", "(II)I"⟩, 36) := ⟨⟨by decide +kernel, by decide +kernel⟩, List.mem_of_getElem? (i := 899) (by decide +kernel), List.mem_of_getElem? (i := 1251) (by decide +kernel), List.mem_of_getElem? (i := 1252) (by decide +kernel)⟩
theorem lw_p62 : lw_okq (⟨"LikeTalesModel", "likest", "(I)I"⟩, 36) := ⟨⟨by decide +kernel, by decide +kernel⟩, List.mem_of_getElem? (i := 899) (by decide +kernel), List.mem_of_getElem? (i := 1259) (by decide +kernel), List.mem_of_getElem? (i := 1260) (by decide +kernel)⟩
theorem lw_p63 : lw_okq (⟨"LikeTalesModel", "moved", "(I)I"⟩, 36) := ⟨⟨by decide +kernel, by decide +kernel⟩, List.mem_of_getElem? (i := 899) (by decide +kernel), List.mem_of_getElem? (i := 1271) (by decide +kernel), List.mem_of_getElem? (i := 1272) (by decide +kernel)⟩
def lw_privs_4 : List (MethodName × Nat) := [(⟨"LikeTalesModel", "pairsOfRow", "(I)I"⟩, 36), (⟨"LikeTalesModel", "weigh", "(IIIZ)I"⟩, 36), (⟨"LikeTalesModel", "tieAnswers", "(IIIII)Z"⟩, 36), (⟨"LikeTalesModel", "endAnswers", "(II)Z"⟩, 36), (⟨"LikeTalesModel", "goes", "(IIII)Z"⟩, 36), (⟨"LikeTalesModel", "nextRow", "(II)Z"⟩, 36), (⟨"LikeTalesModel", "digits", "(I)I"⟩, 36), (⟨"LikeTalesModel", "takeKept", "()V"⟩, 36), (⟨"LikeTalesModel", "layGuesses", "()V"⟩, 36), (⟨"LikeTalesModel", "over", "(I)I"⟩, 36), (⟨"LikeTalesModel", "hasGuess", "(II)Z"⟩, 36), (⟨"LikeTalesModel", "isAgainst", "(I)Z"⟩, 36), (⟨"LikeTalesModel", "speaks", "(I)Z"⟩, 36), (⟨"LikeTalesModel", "boundOf", "(II)I"⟩, 36), (⟨"LikeTalesModel", "likest", "(I)I"⟩, 36), (⟨"LikeTalesModel", "moved", "(I)I"⟩, 36)]
theorem lw_r4 : ∀ q ∈ lw_privs_4, lw_okq q := List.forall_mem_cons.mpr ⟨lw_p48, List.forall_mem_cons.mpr ⟨lw_p49, List.forall_mem_cons.mpr ⟨lw_p50, List.forall_mem_cons.mpr ⟨lw_p51, List.forall_mem_cons.mpr ⟨lw_p52, List.forall_mem_cons.mpr ⟨lw_p53, List.forall_mem_cons.mpr ⟨lw_p54, List.forall_mem_cons.mpr ⟨lw_p55, List.forall_mem_cons.mpr ⟨lw_p56, List.forall_mem_cons.mpr ⟨lw_p57, List.forall_mem_cons.mpr ⟨lw_p58, List.forall_mem_cons.mpr ⟨lw_p59, List.forall_mem_cons.mpr ⟨lw_p60, List.forall_mem_cons.mpr ⟨lw_p61, List.forall_mem_cons.mpr ⟨lw_p62, List.forall_mem_cons.mpr ⟨lw_p63, fun _ h => absurd h List.not_mem_nil⟩⟩⟩⟩⟩⟩⟩⟩⟩⟩⟩⟩⟩⟩⟩⟩
theorem lw_p64 : lw_okq (⟨"LikeTalesModel", "add", "(IIIII)I"⟩, 36) := ⟨⟨by decide +kernel, by decide +kernel⟩, List.mem_of_getElem? (i := 899) (by decide +kernel), List.mem_of_getElem? (i := 1275) (by decide +kernel), List.mem_of_getElem? (i := 1276) (by decide +kernel)⟩
theorem lw_p65 : lw_okq (⟨"LikeTalesModel", "inMade", "(II)I"⟩, 36) := ⟨⟨by decide +kernel, by decide +kernel⟩, List.mem_of_getElem? (i := 899) (by decide +kernel), List.mem_of_getElem? (i := 1283) (by decide +kernel), List.mem_of_getElem? (i := 1284) (by decide +kernel)⟩
def lw_privs_5 : List (MethodName × Nat) := [(⟨"LikeTalesModel", "add", "(IIIII)I"⟩, 36), (⟨"LikeTalesModel", "inMade", "(II)I"⟩, 36)]
theorem lw_r5 : ∀ q ∈ lw_privs_5, lw_okq q := List.forall_mem_cons.mpr ⟨lw_p64, List.forall_mem_cons.mpr ⟨lw_p65, fun _ h => absurd h List.not_mem_nil⟩⟩
def lw_privs : List (MethodName × Nat) := lw_privs_1 ++ (lw_privs_2 ++ (lw_privs_3 ++ (lw_privs_4 ++ (lw_privs_5))))
def lw_tbl : List Cond := k2_sels lw_privs ++ tables_1
theorem lw_privs_ok : ∀ q ∈ lw_privs, lw_okq q := by
  show ∀ q ∈ lw_privs_1 ++ (lw_privs_2 ++ (lw_privs_3 ++ (lw_privs_4 ++ (lw_privs_5)))), lw_okq q
  exact List.forall_mem_append.mpr ⟨lw_r1, List.forall_mem_append.mpr ⟨lw_r2, List.forall_mem_append.mpr ⟨lw_r3, List.forall_mem_append.mpr ⟨lw_r4, lw_r5⟩⟩⟩⟩
-- ===== end of PART A; then your names; then what follows =====
end
section
/-! ===== BEGIN words of one list among another's, by their places ===== -/
theorem goodIn_r {big : List Cond} (ws : List Cond) (ps : List Nat) (hp : ws = ps.filterMap (fun i => big[i]?)) (h : ws.all goodWord = true) : GoodIn big ws := by
  intro w hw
  have h1 := List.all_eq_true.mp h w hw
  rw [hp] at hw
  obtain ⟨i, -, hi⟩ := List.mem_filterMap.mp hw
  have hm : w ∈ big := by first | exact List.mem_of_getElem? hi | exact List.getElem?_mem hi
  exact ⟨hm, good_of_word h1⟩
theorem goodIn_app {big a b : List Cond} (ha : GoodIn big a) (hb : GoodIn big b) : GoodIn big (a ++ b) := fun w h => (List.mem_append.mp h).elim (ha w) (hb w)
theorem goodIn_ca {big a b : List Cond} {c : Cond} (ha : GoodIn big (c :: a)) (hb : GoodIn big b) : GoodIn big (c :: (a ++ b)) := fun w h => (List.mem_cons.mp h).elim (fun e => ha w (List.mem_cons.mpr (Or.inl e))) (fun h => (List.mem_append.mp h).elim (fun h => ha w (List.mem_cons.mpr (Or.inr h))) (hb w))
theorem goodIn_sub {big ws : List Cond} (hm : ∀ w ∈ ws, w ∈ big) (h : ws.all goodWord = true) : GoodIn big ws := fun w hw => ⟨hm w hw, good_of_word (List.all_eq_true.mp h w hw)⟩
/-! ===== END ===== -/


def RX0 : String := "LikeTales$Answering"
def TX0 : u_T := fun k => match k with
  | 0 => ("LikeTales$Answering", "language", "LLikeTales$Language;", true)
  | 1 => ("LikeTales$Answering", "from", "LLikeTales$Net;", false)
  | 2 => ("LikeTales$Answering", "to", "LLikeTales$Net;", false)
  | 3 => ("LikeTales$Answering", "weighing", "I", false)
  | 4 => ("LikeTales$Answering", "timing", "LLikeTales$Timing;", true)
  | 5 => ("LikeTales$Answering", "partners", "[I", true)
  | 6 => ("LikeTales$Answering", "answers", "[I", true)
  | 7 => ("LikeTales$Answering", "likely", "[I", true)
  | 8 => ("LikeTales$Answering", "could", "[I", true)
  | 9 => ("LikeTales$Answering", "turned", "[I", true)
  | 10 => ("LikeTales$Answering", "one", "[I", true)
  | 11 => ("LikeTales$Answering", "near", "[I", true)
  | 12 => ("LikeTales$Answering", "having", "[I", true)
  | _ => ("LikeTales$Answering", "havingFree", "[I", true)
def tyX0 : Nat → FieldType := fun k => match k with
  | 0 => .object "LikeTales$Language"
  | 1 => .object "LikeTales$Net"
  | 2 => .object "LikeTales$Net"
  | 3 => .int
  | 4 => .object "LikeTales$Timing"
  | 5 => .array .int
  | 6 => .array .int
  | 7 => .array .int
  | 8 => .array .int
  | 9 => .array .int
  | 10 => .array .int
  | 11 => .array .int
  | 12 => .array .int
  | _ => .array .int
abbrev wsX00 : List Cond := u_ws RX0 TX0 14
theorem nmX0 : ∀ a, a < 14 → ∀ b, b < 14 → a ≠ b → (TX0 a).2.1 ≠ (TX0 b).2.1 := by decide +kernel
theorem tyX0_ok : ∀ k, k < 14 → parseFieldDescriptor (TX0 k).2.2.1 = some (tyX0 k) := by decide +kernel
abbrev cX0_init : ByteArray := prog_2_method_1_code
def yX0_init : MethodName := ⟨RX0, "<init>", "(LLikeTales$Language;)V"⟩
abbrev cX0_take : ByteArray := prog_2_method_2_code
def yX0_take : MethodName := ⟨RX0, "take", "(LLikeTales$Net;LLikeTales$Net;IZI)V"⟩
abbrev cX0_compareTie : ByteArray := prog_2_method_3_code
def yX0_compareTie : MethodName := ⟨RX0, "compareTie", "(II)V"⟩
abbrev cX0_noteEnds : ByteArray := prog_2_method_4_code
def yX0_noteEnds : MethodName := ⟨RX0, "noteEnds", "(I)V"⟩
abbrev cX0_readDigits : ByteArray := prog_2_method_5_code
def yX0_readDigits : MethodName := ⟨RX0, "readDigits", "(I)Z"⟩
abbrev cX0_settle : ByteArray := prog_2_method_6_code
def yX0_settle : MethodName := ⟨RX0, "settle", "()I"⟩
abbrev cX0_hope : ByteArray := prog_2_method_7_code
def yX0_hope : MethodName := ⟨RX0, "hope", "(I)I"⟩
abbrev cX0_noteFree : ByteArray := prog_2_method_8_code
def yX0_noteFree : MethodName := ⟨RX0, "noteFree", "(I)V"⟩
abbrev cX0_gain : ByteArray := prog_2_method_9_code
def yX0_gain : MethodName := ⟨RX0, "gain", "(IIII)I"⟩
abbrev cX0_reachable : ByteArray := prog_2_method_10_code
def yX0_reachable : MethodName := ⟨RX0, "reachable", "(I)I"⟩
abbrev cX0_reach : ByteArray := prog_2_method_11_code
def yX0_reach : MethodName := ⟨RX0, "reach", "(II)I"⟩
abbrev cX0_firstOf : ByteArray := prog_2_method_12_code
def yX0_firstOf : MethodName := ⟨RX0, "firstOf", "(I)I"⟩
abbrev cX0_spread : ByteArray := prog_2_method_13_code
def yX0_spread : MethodName := ⟨RX0, "spread", "(II)V"⟩
abbrev cX0_sortsShared : ByteArray := prog_2_method_14_code
def yX0_sortsShared : MethodName := ⟨RX0, "sortsShared", "()I"⟩
def RX1 : String := "LikeTales$Guesses"
def TX1 : u_T := fun k => match k with
  | 0 => ("LikeTales$Guesses", "from", "LLikeTales$Net;", true)
  | 1 => ("LikeTales$Guesses", "partners", "[I", true)
  | 2 => ("LikeTales$Guesses", "answers", "[I", true)
  | 3 => ("LikeTales$Guesses", "count", "I", false)
  | 4 => ("LikeTales$Guesses", "ties", "[I", true)
  | _ => ("LikeTales$Guesses", "numbers", "[I", true)
def tyX1 : Nat → FieldType := fun k => match k with
  | 0 => .object "LikeTales$Net"
  | 1 => .array .int
  | 2 => .array .int
  | 3 => .int
  | 4 => .array .int
  | _ => .array .int
abbrev wsX10 : List Cond := u_ws RX1 TX1 6
theorem nmX1 : ∀ a, a < 6 → ∀ b, b < 6 → a ≠ b → (TX1 a).2.1 ≠ (TX1 b).2.1 := by decide +kernel
theorem tyX1_ok : ∀ k, k < 6 → parseFieldDescriptor (TX1 k).2.2.1 = some (tyX1 k) := by decide +kernel
abbrev cX1_init : ByteArray := prog_3_method_1_code
def yX1_init : MethodName := ⟨RX1, "<init>", "(LLikeTales$Net;[I[I)V"⟩
abbrev cX1_gather : ByteArray := prog_3_method_2_code
def yX1_gather : MethodName := ⟨RX1, "gather", "()V"⟩
abbrev cX1_isGuess : ByteArray := prog_3_method_3_code
def yX1_isGuess : MethodName := ⟨RX1, "isGuess", "(I)Z"⟩
abbrev cX1_over : ByteArray := prog_3_method_4_code
def yX1_over : MethodName := ⟨RX1, "over", "(I)I"⟩
abbrev cX1_endOver : ByteArray := prog_3_method_5_code
def yX1_endOver : MethodName := ⟨RX1, "endOver", "(II)I"⟩
abbrev cX1_isHeld : ByteArray := prog_3_method_6_code
def yX1_isHeld : MethodName := ⟨RX1, "isHeld", "(ILLikeTales$Net;LLikeTales$Language;)Z"⟩
abbrev cX1_isAgainst : ByteArray := prog_3_method_7_code
def yX1_isAgainst : MethodName := ⟨RX1, "isAgainst", "(ILLikeTales$Net;LLikeTales$Language;)Z"⟩
abbrev cX1_isTold : ByteArray := prog_3_method_8_code
def yX1_isTold : MethodName := ⟨RX1, "isTold", "(IILLikeTales$Net;LLikeTales$Language;)Z"⟩
def RX2 : String := "LikeTales$Kept"
def TX2 : u_T := fun k => match k with
  | 0 => ("LikeTales$Kept", "isThere", "Z", false)
  | 1 => ("LikeTales$Kept", "level", "I", false)
  | 2 => ("LikeTales$Kept", "timed", "Z", false)
  | 3 => ("LikeTales$Kept", "from", "LLikeTales$Net;", true)
  | 4 => ("LikeTales$Kept", "to", "LLikeTales$Net;", true)
  | 5 => ("LikeTales$Kept", "partners", "[I", true)
  | 6 => ("LikeTales$Kept", "answers", "[I", true)
  | _ => ("LikeTales$Kept", "guesses", "LLikeTales$Guesses;", true)
def tyX2 : Nat → FieldType := fun k => match k with
  | 0 => .boolean
  | 1 => .int
  | 2 => .boolean
  | 3 => .object "LikeTales$Net"
  | 4 => .object "LikeTales$Net"
  | 5 => .array .int
  | 6 => .array .int
  | _ => .object "LikeTales$Guesses"
abbrev wsX20 : List Cond := u_ws RX2 TX2 8
theorem nmX2 : ∀ a, a < 8 → ∀ b, b < 8 → a ≠ b → (TX2 a).2.1 ≠ (TX2 b).2.1 := by decide +kernel
theorem tyX2_ok : ∀ k, k < 8 → parseFieldDescriptor (TX2 k).2.2.1 = some (tyX2 k) := by decide +kernel
abbrev cX2_init : ByteArray := prog_4_method_1_code
def yX2_init : MethodName := ⟨RX2, "<init>", "()V"⟩
abbrev cX2_take : ByteArray := prog_4_method_2_code
def yX2_take : MethodName := ⟨RX2, "take", "(LLikeTales$Net;LLikeTales$Net;IZ)V"⟩
abbrev cX2_takePairing : ByteArray := prog_4_method_3_code
def yX2_takePairing : MethodName := ⟨RX2, "takePairing", "([I[I)V"⟩
abbrev cX2_pairedThings : ByteArray := prog_4_method_4_code
def yX2_pairedThings : MethodName := ⟨RX2, "pairedThings", "()I"⟩
def RX3 : String := "LikeTales$Language"
def TX3 : u_T := fun k => match k with
  | 0 => ("LikeTales$Language", "ends", "[I", true)
  | 1 => ("LikeTales$Language", "even", "[Z", true)
  | 2 => ("LikeTales$Language", "wider", "[I", true)
  | _ => ("LikeTales$Language", "opposite", "[I", true)
def tyX3 : Nat → FieldType := fun k => match k with
  | 0 => .array .int
  | 1 => .array .boolean
  | 2 => .array .int
  | _ => .array .int
abbrev wsX30 : List Cond := u_ws RX3 TX3 4
theorem nmX3 : ∀ a, a < 4 → ∀ b, b < 4 → a ≠ b → (TX3 a).2.1 ≠ (TX3 b).2.1 := by decide +kernel
theorem tyX3_ok : ∀ k, k < 4 → parseFieldDescriptor (TX3 k).2.2.1 = some (tyX3 k) := by decide +kernel
abbrev cX3_init : ByteArray := prog_5_method_1_code
def yX3_init : MethodName := ⟨RX3, "<init>", "()V"⟩
abbrev cX3_isLinked : ByteArray := prog_5_method_2_code
def yX3_isLinked : MethodName := ⟨RX3, "isLinked", "(I)Z"⟩
abbrev cX3_mayStandOver : ByteArray := prog_5_method_3_code
def yX3_mayStandOver : MethodName := ⟨RX3, "mayStandOver", "(II)Z"⟩
abbrev cX3_oppose : ByteArray := prog_5_method_4_code
def yX3_oppose : MethodName := ⟨RX3, "oppose", "(II)V"⟩
abbrev cX3_loosen : ByteArray := prog_5_method_5_code
def yX3_loosen : MethodName := ⟨RX3, "loosen", "(I)V"⟩
abbrev cX3_above : ByteArray := prog_5_method_6_code
def yX3_above : MethodName := ⟨RX3, "above", "(II)I"⟩
abbrev cX3_meetingLevel : ByteArray := prog_5_method_7_code
def yX3_meetingLevel : MethodName := ⟨RX3, "meetingLevel", "(II)I"⟩
def RX4 : String := "LikeTales$Net"
def TX4 : u_T := fun k => match k with
  | 0 => ("LikeTales$Net", "things", "I", false)
  | 1 => ("LikeTales$Net", "ties", "I", false)
  | 2 => ("LikeTales$Net", "label", "I", false)
  | 3 => ("LikeTales$Net", "sorts", "[I", true)
  | 4 => ("LikeTales$Net", "kinds", "[I", true)
  | 5 => ("LikeTales$Net", "ends", "[I", true)
  | 6 => ("LikeTales$Net", "moments", "[I", true)
  | _ => ("LikeTales$Net", "heights", "[I", true)
def tyX4 : Nat → FieldType := fun k => match k with
  | 0 => .int
  | 1 => .int
  | 2 => .int
  | 3 => .array .int
  | 4 => .array .int
  | 5 => .array .int
  | 6 => .array .int
  | _ => .array .int
abbrev wsX40 : List Cond := u_ws RX4 TX4 8
theorem nmX4 : ∀ a, a < 8 → ∀ b, b < 8 → a ≠ b → (TX4 a).2.1 ≠ (TX4 b).2.1 := by decide +kernel
theorem tyX4_ok : ∀ k, k < 8 → parseFieldDescriptor (TX4 k).2.2.1 = some (tyX4 k) := by decide +kernel
abbrev cX4_init : ByteArray := prog_6_method_1_code
def yX4_init : MethodName := ⟨RX4, "<init>", "()V"⟩
abbrev cX4_empty : ByteArray := prog_6_method_2_code
def yX4_empty : MethodName := ⟨RX4, "empty", "(I)V"⟩
abbrev cX4_become : ByteArray := prog_6_method_3_code
def yX4_become : MethodName := ⟨RX4, "become", "(LLikeTales$Net;)V"⟩
abbrev cX4_hasEnds : ByteArray := prog_6_method_4_code
def yX4_hasEnds : MethodName := ⟨RX4, "hasEnds", "(IIII)Z"⟩
abbrev cX4_isEnd : ByteArray := prog_6_method_5_code
def yX4_isEnd : MethodName := ⟨RX4, "isEnd", "(I)Z"⟩
abbrev cX4_find : ByteArray := prog_6_method_6_code
def yX4_find : MethodName := ⟨RX4, "find", "(LLikeTales$Language;IIII)I"⟩
abbrev cX4_put : ByteArray := prog_6_method_7_code
def yX4_put : MethodName := ⟨RX4, "put", "(IIIII)I"⟩
abbrev cX4_heightOfEnd : ByteArray := prog_6_method_8_code
def yX4_heightOfEnd : MethodName := ⟨RX4, "heightOfEnd", "(I)I"⟩
abbrev cX4_greatestHeight : ByteArray := prog_6_method_9_code
def yX4_greatestHeight : MethodName := ⟨RX4, "greatestHeight", "()I"⟩
abbrev cX4_countOfKind : ByteArray := prog_6_method_10_code
def yX4_countOfKind : MethodName := ⟨RX4, "countOfKind", "(I)I"⟩
abbrev cX4_countOfMoments : ByteArray := prog_6_method_11_code
def yX4_countOfMoments : MethodName := ⟨RX4, "countOfMoments", "()I"⟩
def RX5 : String := "LikeTales$Search"
def TX5 : u_T := fun k => match k with
  | 0 => ("LikeTales$Search", "answering", "LLikeTales$Answering;", true)
  | 1 => ("LikeTales$Search", "partners", "[I", true)
  | 2 => ("LikeTales$Search", "from", "LLikeTales$Net;", false)
  | 3 => ("LikeTales$Search", "to", "LLikeTales$Net;", false)
  | 4 => ("LikeTales$Search", "countsSorts", "Z", false)
  | 5 => ("LikeTales$Search", "sameSort", "[I", true)
  | 6 => ("LikeTales$Search", "taken", "I", false)
  | 7 => ("LikeTales$Search", "spare", "I", false)
  | 8 => ("LikeTales$Search", "bestWorth", "I", false)
  | 9 => ("LikeTales$Search", "bestPairs", "I", false)
  | 10 => ("LikeTales$Search", "bestPartners", "[I", true)
  | 11 => ("LikeTales$Search", "isListing", "Z", false)
  | 12 => ("LikeTales$Search", "listed", "I", false)
  | _ => ("LikeTales$Search", "wanted", "I", false)
def tyX5 : Nat → FieldType := fun k => match k with
  | 0 => .object "LikeTales$Answering"
  | 1 => .array .int
  | 2 => .object "LikeTales$Net"
  | 3 => .object "LikeTales$Net"
  | 4 => .boolean
  | 5 => .array .int
  | 6 => .int
  | 7 => .int
  | 8 => .int
  | 9 => .int
  | 10 => .array .int
  | 11 => .boolean
  | 12 => .int
  | _ => .int
abbrev wsX50 : List Cond := u_ws RX5 TX5 14
theorem nmX5 : ∀ a, a < 14 → ∀ b, b < 14 → a ≠ b → (TX5 a).2.1 ≠ (TX5 b).2.1 := by decide +kernel
theorem tyX5_ok : ∀ k, k < 14 → parseFieldDescriptor (TX5 k).2.2.1 = some (tyX5 k) := by decide +kernel
abbrev cX5_init : ByteArray := prog_7_method_1_code
def yX5_init : MethodName := ⟨RX5, "<init>", "(LLikeTales$Answering;)V"⟩
abbrev cX5_likeness : ByteArray := prog_7_method_2_code
def yX5_likeness : MethodName := ⟨RX5, "likeness", "(LLikeTales$Net;LLikeTales$Net;IZ)I"⟩
abbrev cX5_list : ByteArray := prog_7_method_3_code
def yX5_list : MethodName := ⟨RX5, "list", "(I)I"⟩
abbrev cX5_digits : ByteArray := prog_7_method_4_code
def yX5_digits : MethodName := ⟨RX5, "digits", "()I"⟩
abbrev cX5_mostAnswering : ByteArray := prog_7_method_5_code
def yX5_mostAnswering : MethodName := ⟨RX5, "mostAnswering", "(LLikeTales$Net;LLikeTales$Net;Z)I"⟩
abbrev cX5_isSame : ByteArray := prog_7_method_6_code
def yX5_isSame : MethodName := ⟨RX5, "isSame", "(LLikeTales$Net;LLikeTales$Net;)Z"⟩
abbrev cX5_prepare : ByteArray := prog_7_method_7_code
def yX5_prepare : MethodName := ⟨RX5, "prepare", "(LLikeTales$Net;LLikeTales$Net;IZI)V"⟩
abbrev cX5_open : ByteArray := prog_7_method_8_code
def yX5_open : MethodName := ⟨RX5, "open", "()V"⟩
abbrev cX5_place : ByteArray := prog_7_method_9_code
def yX5_place : MethodName := ⟨RX5, "place", "(LLikeTales$Search;II)V"⟩
abbrev cX5_isHopeful : ByteArray := prog_7_method_10_code
def yX5_isHopeful : MethodName := ⟨RX5, "isHopeful", "(I)Z"⟩
abbrev cX5_sortHope : ByteArray := prog_7_method_11_code
def yX5_sortHope : MethodName := ⟨RX5, "sortHope", "(I)I"⟩
abbrev cX5_arrive : ByteArray := prog_7_method_12_code
def yX5_arrive : MethodName := ⟨RX5, "arrive", "()V"⟩
abbrev cX5_keepPartners : ByteArray := prog_7_method_13_code
def yX5_keepPartners : MethodName := ⟨RX5, "keepPartners", "()V"⟩
def RX6 : String := "LikeTales$Seeker"
def TX6 : u_T := fun k => match k with
  | 0 => ("LikeTales$Seeker", "tales", "[LLikeTales$Net;", true)
  | 1 => ("LikeTales$Seeker", "search", "LLikeTales$Search;", true)
  | 2 => ("LikeTales$Seeker", "bounds", "[I", true)
  | 3 => ("LikeTales$Seeker", "held", "I", false)
  | _ => ("LikeTales$Seeker", "bestWorth", "I", false)
def tyX6 : Nat → FieldType := fun k => match k with
  | 0 => .array (.object "LikeTales$Net")
  | 1 => .object "LikeTales$Search"
  | 2 => .array .int
  | 3 => .int
  | _ => .int
abbrev wsX60 : List Cond := u_ws RX6 TX6 5
theorem nmX6 : ∀ a, a < 5 → ∀ b, b < 5 → a ≠ b → (TX6 a).2.1 ≠ (TX6 b).2.1 := by decide +kernel
theorem tyX6_ok : ∀ k, k < 5 → parseFieldDescriptor (TX6 k).2.2.1 = some (tyX6 k) := by decide +kernel
abbrev cX6_init : ByteArray := prog_8_method_1_code
def yX6_init : MethodName := ⟨RX6, "<init>", "([LLikeTales$Net;LLikeTales$Search;)V"⟩
abbrev cX6_likest : ByteArray := prog_8_method_2_code
def yX6_likest : MethodName := ⟨RX6, "likest", "(IZ)I"⟩
abbrev cX6_greatestBound : ByteArray := prog_8_method_3_code
def yX6_greatestBound : MethodName := ⟨RX6, "greatestBound", "()I"⟩
abbrev cX6_boundOf : ByteArray := prog_8_method_4_code
def yX6_boundOf : MethodName := ⟨RX6, "boundOf", "(LLikeTales$Net;LLikeTales$Net;)I"⟩
abbrev cX6_countOfSort : ByteArray := prog_8_method_5_code
def yX6_countOfSort : MethodName := ⟨RX6, "countOfSort", "(LLikeTales$Net;I)I"⟩
def RX7 : String := "LikeTales$Timing"
def TX7 : u_T := fun k => match k with
  | 0 => ("LikeTales$Timing", "from", "LLikeTales$Net;", false)
  | 1 => ("LikeTales$Timing", "to", "LLikeTales$Net;", false)
  | 2 => ("LikeTales$Timing", "matters", "Z", false)
  | 3 => ("LikeTales$Timing", "atMoment", "[I", true)
  | 4 => ("LikeTales$Timing", "ahead", "[I", true)
  | 5 => ("LikeTales$Timing", "withMoments", "I", false)
  | 6 => ("LikeTales$Timing", "weights", "[I", true)
  | _ => ("LikeTales$Timing", "heaviest", "[I", true)
def tyX7 : Nat → FieldType := fun k => match k with
  | 0 => .object "LikeTales$Net"
  | 1 => .object "LikeTales$Net"
  | 2 => .boolean
  | 3 => .array .int
  | 4 => .array .int
  | 5 => .int
  | 6 => .array .int
  | _ => .array .int
abbrev wsX70 : List Cond := u_ws RX7 TX7 8
theorem nmX7 : ∀ a, a < 8 → ∀ b, b < 8 → a ≠ b → (TX7 a).2.1 ≠ (TX7 b).2.1 := by decide +kernel
theorem tyX7_ok : ∀ k, k < 8 → parseFieldDescriptor (TX7 k).2.2.1 = some (tyX7 k) := by decide +kernel
abbrev cX7_init : ByteArray := prog_9_method_1_code
def yX7_init : MethodName := ⟨RX7, "<init>", "()V"⟩
abbrev cX7_take : ByteArray := prog_9_method_2_code
def yX7_take : MethodName := ⟨RX7, "take", "(LLikeTales$Net;LLikeTales$Net;Z)V"⟩
abbrev cX7_inStep : ByteArray := prog_9_method_3_code
def yX7_inStep : MethodName := ⟨RX7, "inStep", "(II[I)I"⟩
abbrev cX7_outOfStep : ByteArray := prog_9_method_4_code
def yX7_outOfStep : MethodName := ⟨RX7, "outOfStep", "(III)I"⟩
abbrev cX7_isOrdered : ByteArray := prog_9_method_5_code
def yX7_isOrdered : MethodName := ⟨RX7, "isOrdered", "(II)Z"⟩
abbrev cX7_add : ByteArray := prog_9_method_6_code
def yX7_add : MethodName := ⟨RX7, "add", "(III)V"⟩
abbrev cX7_heaviestOrder : ByteArray := prog_9_method_7_code
def yX7_heaviestOrder : MethodName := ⟨RX7, "heaviestOrder", "()I"⟩
def RX8 : String := "LikeTales$Weaver"
def TX8 : u_T := fun k => match k with
  | 0 => ("LikeTales$Weaver", "language", "LLikeTales$Language;", true)
  | 1 => ("LikeTales$Weaver", "answering", "LLikeTales$Answering;", true)
  | 2 => ("LikeTales$Weaver", "made", "LLikeTales$Net;", true)
  | 3 => ("LikeTales$Weaver", "firstPartners", "[I", true)
  | 4 => ("LikeTales$Weaver", "firstAnswers", "[I", true)
  | 5 => ("LikeTales$Weaver", "newThings", "[I", true)
  | 6 => ("LikeTales$Weaver", "newTies", "[I", true)
  | 7 => ("LikeTales$Weaver", "leftTies", "[I", true)
  | _ => ("LikeTales$Weaver", "newEnds", "[I", true)
def tyX8 : Nat → FieldType := fun k => match k with
  | 0 => .object "LikeTales$Language"
  | 1 => .object "LikeTales$Answering"
  | 2 => .object "LikeTales$Net"
  | 3 => .array .int
  | 4 => .array .int
  | 5 => .array .int
  | 6 => .array .int
  | 7 => .array .int
  | _ => .array .int
abbrev wsX80 : List Cond := u_ws RX8 TX8 9
theorem nmX8 : ∀ a, a < 9 → ∀ b, b < 9 → a ≠ b → (TX8 a).2.1 ≠ (TX8 b).2.1 := by decide +kernel
theorem tyX8_ok : ∀ k, k < 9 → parseFieldDescriptor (TX8 k).2.2.1 = some (tyX8 k) := by decide +kernel
abbrev cX8_init : ByteArray := prog_10_method_1_code
def yX8_init : MethodName := ⟨RX8, "<init>", "(LLikeTales$Language;LLikeTales$Answering;)V"⟩
abbrev cX8_weaveCommon : ByteArray := prog_10_method_2_code
def yX8_weaveCommon : MethodName := ⟨RX8, "weaveCommon", "(LLikeTales$Net;LLikeTales$Net;)V"⟩
abbrev cX8_noteFirst : ByteArray := prog_10_method_3_code
def yX8_noteFirst : MethodName := ⟨RX8, "noteFirst", "(LLikeTales$Net;)V"⟩
abbrev cX8_weaveLeft : ByteArray := prog_10_method_4_code
def yX8_weaveLeft : MethodName := ⟨RX8, "weaveLeft", "(LLikeTales$Net;LLikeTales$Net;)V"⟩
abbrev cX8_bridge : ByteArray := prog_10_method_5_code
def yX8_bridge : MethodName := ⟨RX8, "bridge", "(LLikeTales$Net;)V"⟩
abbrev cX8_putWon : ByteArray := prog_10_method_6_code
def yX8_putWon : MethodName := ⟨RX8, "putWon", "(LLikeTales$Net;LLikeTales$Net;)Z"⟩
abbrev cX8_clear : ByteArray := prog_10_method_7_code
def yX8_clear : MethodName := ⟨RX8, "clear", "()V"⟩
abbrev cX8_bringEnds : ByteArray := prog_10_method_8_code
def yX8_bringEnds : MethodName := ⟨RX8, "bringEnds", "(LLikeTales$Net;I)Z"⟩
abbrev cX8_newEnd : ByteArray := prog_10_method_9_code
def yX8_newEnd : MethodName := ⟨RX8, "newEnd", "(I)I"⟩
abbrev cX8_findOrPut : ByteArray := prog_10_method_10_code
def yX8_findOrPut : MethodName := ⟨RX8, "findOrPut", "(II)I"⟩
def RX9 : String := "LikeTales"
def TX9 : u_T := fun k => match k with
  | 0 => ("LikeTales", "language", "LLikeTales$Language;", true)
  | 1 => ("LikeTales", "tales", "[LLikeTales$Net;", true)
  | 2 => ("LikeTales", "answering", "LLikeTales$Answering;", true)
  | 3 => ("LikeTales", "search", "LLikeTales$Search;", true)
  | 4 => ("LikeTales", "kept", "LLikeTales$Kept;", true)
  | 5 => ("LikeTales", "triedGuesses", "LLikeTales$Guesses;", true)
  | 6 => ("LikeTales", "weaver", "LLikeTales$Weaver;", true)
  | 7 => ("LikeTales", "seeker", "LLikeTales$Seeker;", true)
  | 8 => ("LikeTales", "timed", "Z", false)
  | 9 => ("LikeTales", "hasSought", "Z", false)
  | 10 => ("LikeTales", "soughtHeld", "I", false)
  | _ => ("LikeTales", "soughtWorth", "I", false)
def tyX9 : Nat → FieldType := fun k => match k with
  | 0 => .object "LikeTales$Language"
  | 1 => .array (.object "LikeTales$Net")
  | 2 => .object "LikeTales$Answering"
  | 3 => .object "LikeTales$Search"
  | 4 => .object "LikeTales$Kept"
  | 5 => .object "LikeTales$Guesses"
  | 6 => .object "LikeTales$Weaver"
  | 7 => .object "LikeTales$Seeker"
  | 8 => .boolean
  | 9 => .boolean
  | 10 => .int
  | _ => .int
abbrev wsX90 : List Cond := u_ws RX9 TX9 12
theorem nmX9 : ∀ a, a < 12 → ∀ b, b < 12 → a ≠ b → (TX9 a).2.1 ≠ (TX9 b).2.1 := by decide +kernel
theorem tyX9_ok : ∀ k, k < 12 → parseFieldDescriptor (TX9 k).2.2.1 = some (tyX9 k) := by decide +kernel
abbrev cX9_init : ByteArray := prog_1_method_1_code
def yX9_init : MethodName := ⟨RX9, "<init>", "()V"⟩
abbrev cX9_kind : ByteArray := prog_1_method_2_code
def yX9_kind : MethodName := ⟨RX9, "kind", "(IIZ)I"⟩
abbrev cX9_wider : ByteArray := prog_1_method_3_code
def yX9_wider : MethodName := ⟨RX9, "wider", "(II)I"⟩
abbrev cX9_opposite : ByteArray := prog_1_method_4_code
def yX9_opposite : MethodName := ⟨RX9, "opposite", "(II)I"⟩
abbrev cX9_ofKind : ByteArray := prog_1_method_5_code
def yX9_ofKind : MethodName := ⟨RX9, "ofKind", "(II)I"⟩
abbrev cX9_alike : ByteArray := prog_1_method_6_code
def yX9_alike : MethodName := ⟨RX9, "alike", "(II)I"⟩
abbrev cX9_timed : ByteArray := prog_1_method_7_code
def yX9_timed : MethodName := ⟨RX9, "timed", "(I)I"⟩
abbrev cX9_tale : ByteArray := prog_1_method_8_code
def yX9_tale : MethodName := ⟨RX9, "tale", "(II)I"⟩
abbrev cX9_sort : ByteArray := prog_1_method_9_code
def yX9_sort : MethodName := ⟨RX9, "sort", "(III)I"⟩
abbrev cX9_label : ByteArray := prog_1_method_10_code
def yX9_label : MethodName := ⟨RX9, "label", "(II)I"⟩
abbrev cX9_tie : ByteArray := prog_1_method_11_code
def yX9_tie : MethodName := ⟨RX9, "tie", "(IIIIII)I"⟩
abbrev cX9_ofTie : ByteArray := prog_1_method_12_code
def yX9_ofTie : MethodName := ⟨RX9, "ofTie", "(III)I"⟩
abbrev cX9_ofTale : ByteArray := prog_1_method_13_code
def yX9_ofTale : MethodName := ⟨RX9, "ofTale", "(II)I"⟩
abbrev cX9_copy : ByteArray := prog_1_method_14_code
def yX9_copy : MethodName := ⟨RX9, "copy", "(II)I"⟩
abbrev cX9_like : ByteArray := prog_1_method_15_code
def yX9_like : MethodName := ⟨RX9, "like", "(III)I"⟩
abbrev cX9_partner : ByteArray := prog_1_method_16_code
def yX9_partner : MethodName := ⟨RX9, "partner", "(I)I"⟩
abbrev cX9_answer : ByteArray := prog_1_method_17_code
def yX9_answer : MethodName := ⟨RX9, "answer", "(I)I"⟩
abbrev cX9_likes : ByteArray := prog_1_method_18_code
def yX9_likes : MethodName := ⟨RX9, "likes", "(IIII)I"⟩
abbrev cX9_worth : ByteArray := prog_1_method_19_code
def yX9_worth : MethodName := ⟨RX9, "worth", "(IIII)I"⟩
abbrev cX9_same : ByteArray := prog_1_method_20_code
def yX9_same : MethodName := ⟨RX9, "same", "(II)I"⟩
abbrev cX9_guess : ByteArray := prog_1_method_21_code
def yX9_guess : MethodName := ⟨RX9, "guess", "(I)I"⟩
abbrev cX9_ofGuess : ByteArray := prog_1_method_22_code
def yX9_ofGuess : MethodName := ⟨RX9, "ofGuess", "(II)I"⟩
abbrev cX9_giveUp : ByteArray := prog_1_method_23_code
def yX9_giveUp : MethodName := ⟨RX9, "giveUp", "()I"⟩
abbrev cX9_bound : ByteArray := prog_1_method_24_code
def yX9_bound : MethodName := ⟨RX9, "bound", "(II)I"⟩
abbrev cX9_seek : ByteArray := prog_1_method_25_code
def yX9_seek : MethodName := ⟨RX9, "seek", "(I)I"⟩
abbrev cX9_sought : ByteArray := prog_1_method_26_code
def yX9_sought : MethodName := ⟨RX9, "sought", "(I)I"⟩
abbrev cX9_common : ByteArray := prog_1_method_27_code
def yX9_common : MethodName := ⟨RX9, "common", "(IIII)I"⟩
abbrev cX9_series : ByteArray := prog_1_method_28_code
def yX9_series : MethodName := ⟨RX9, "series", "(IIII)I"⟩
abbrev cX9_leftOut : ByteArray := prog_1_method_29_code
def yX9_leftOut : MethodName := ⟨RX9, "leftOut", "(II)I"⟩
abbrev cX9_trial : ByteArray := prog_1_method_30_code
def yX9_trial : MethodName := ⟨RX9, "trial", "(I)I"⟩
abbrev cX9_isKind : ByteArray := prog_1_method_31_code
def yX9_isKind : MethodName := ⟨RX9, "isKind", "(I)Z"⟩
abbrev cX9_isTale : ByteArray := prog_1_method_32_code
def yX9_isTale : MethodName := ⟨RX9, "isTale", "(I)Z"⟩
abbrev cX9_isLevel : ByteArray := prog_1_method_33_code
def yX9_isLevel : MethodName := ⟨RX9, "isLevel", "(I)Z"⟩
abbrev cX9_isDigit : ByteArray := prog_1_method_34_code
def yX9_isDigit : MethodName := ⟨RX9, "isDigit", "(I)Z"⟩
abbrev cX9_orNone : ByteArray := prog_1_method_35_code
def yX9_orNone : MethodName := ⟨RX9, "orNone", "(I)I"⟩
abbrev cX9_refusedLikeness : ByteArray := prog_1_method_36_code
def yX9_refusedLikeness : MethodName := ⟨RX9, "refusedLikeness", "(III)I"⟩
abbrev cX9_tiesToldOf : ByteArray := prog_1_method_37_code
def yX9_tiesToldOf : MethodName := ⟨RX9, "tiesToldOf", "(I)I"⟩
abbrev cX9_isInUse : ByteArray := prog_1_method_38_code
def yX9_isInUse : MethodName := ⟨RX9, "isInUse", "(I)Z"⟩
abbrev cX9_isRight : ByteArray := prog_1_method_39_code
def yX9_isRight : MethodName := ⟨RX9, "isRight", "(II)Z"⟩
abbrev cX9_isPeaceWithout : ByteArray := prog_1_method_40_code
def yX9_isPeaceWithout : MethodName := ⟨RX9, "isPeaceWithout", "(I)Z"⟩
def RX10 : String := "LikeTalesModel"
def TX10 : u_T := fun k => match k with
  | 0 => ("LikeTalesModel", "ends", "[I", true)
  | 1 => ("LikeTalesModel", "isEven", "[Z", true)
  | 2 => ("LikeTalesModel", "wide", "[I", true)
  | 3 => ("LikeTalesModel", "against", "[I", true)
  | 4 => ("LikeTalesModel", "timed", "I", false)
  | 5 => ("LikeTalesModel", "things", "[I", true)
  | 6 => ("LikeTalesModel", "sorts", "[I", true)
  | 7 => ("LikeTalesModel", "labels", "[I", true)
  | 8 => ("LikeTalesModel", "ties", "[I", true)
  | 9 => ("LikeTalesModel", "tie", "[I", true)
  | 10 => ("LikeTalesModel", "row", "[I", true)
  | 11 => ("LikeTalesModel", "ans", "[I", true)
  | 12 => ("LikeTalesModel", "answered", "I", false)
  | 13 => ("LikeTalesModel", "best", "[I", true)
  | 14 => ("LikeTalesModel", "bestWorth", "I", false)
  | 15 => ("LikeTalesModel", "bestPairs", "I", false)
  | 16 => ("LikeTalesModel", "mostAnswered", "I", false)
  | 17 => ("LikeTalesModel", "isKept", "Z", false)
  | 18 => ("LikeTalesModel", "keptLevel", "I", false)
  | 19 => ("LikeTalesModel", "keptTimed", "Z", false)
  | 20 => ("LikeTalesModel", "keptRow", "[I", true)
  | 21 => ("LikeTalesModel", "keptAnswer", "[I", true)
  | 22 => ("LikeTalesModel", "guesses", "I", false)
  | 23 => ("LikeTalesModel", "guess", "[I", true)
  | 24 => ("LikeTalesModel", "numberOf", "[I", true)
  | 25 => ("LikeTalesModel", "held", "I", false)
  | 26 => ("LikeTalesModel", "likestWorth", "I", false)
  | 27 => ("LikeTalesModel", "hasSought", "Z", false)
  | 28 => ("LikeTalesModel", "soughtHeld", "I", false)
  | 29 => ("LikeTalesModel", "soughtWorth", "I", false)
  | 30 => ("LikeTalesModel", "newThing", "[I", true)
  | 31 => ("LikeTalesModel", "newTie", "[I", true)
  | 32 => ("LikeTalesModel", "firstRowOf", "[I", true)
  | 33 => ("LikeTalesModel", "firstAnswer", "[I", true)
  | 34 => ("LikeTalesModel", "left", "[I", true)
  | _ => ("LikeTalesModel", "won", "[I", true)
def tyX10 : Nat → FieldType := fun k => match k with
  | 0 => .array .int
  | 1 => .array .boolean
  | 2 => .array .int
  | 3 => .array .int
  | 4 => .int
  | 5 => .array .int
  | 6 => .array .int
  | 7 => .array .int
  | 8 => .array .int
  | 9 => .array .int
  | 10 => .array .int
  | 11 => .array .int
  | 12 => .int
  | 13 => .array .int
  | 14 => .int
  | 15 => .int
  | 16 => .int
  | 17 => .boolean
  | 18 => .int
  | 19 => .boolean
  | 20 => .array .int
  | 21 => .array .int
  | 22 => .int
  | 23 => .array .int
  | 24 => .array .int
  | 25 => .int
  | 26 => .int
  | 27 => .boolean
  | 28 => .int
  | 29 => .int
  | 30 => .array .int
  | 31 => .array .int
  | 32 => .array .int
  | 33 => .array .int
  | 34 => .array .int
  | _ => .array .int
abbrev wsX100 : List Cond := u_ws RX10 TX10 36
theorem nmX10 : ∀ a, a < 36 → ∀ b, b < 36 → a ≠ b → (TX10 a).2.1 ≠ (TX10 b).2.1 := by decide +kernel
theorem tyX10_ok : ∀ k, k < 36 → parseFieldDescriptor (TX10 k).2.2.1 = some (tyX10 k) := by decide +kernel
abbrev cX10_init : ByteArray := prog_12_method_1_code
def yX10_init : MethodName := ⟨RX10, "<init>", "()V"⟩
abbrev cX10_in : ByteArray := prog_12_method_2_code
def yX10_in : MethodName := ⟨RX10, "in", "(III)Z"⟩
abbrev cX10_isKind : ByteArray := prog_12_method_3_code
def yX10_isKind : MethodName := ⟨RX10, "isKind", "(I)Z"⟩
abbrev cX10_isTale : ByteArray := prog_12_method_4_code
def yX10_isTale : MethodName := ⟨RX10, "isTale", "(I)Z"⟩
abbrev cX10_at : ByteArray := prog_12_method_5_code
def yX10_at : MethodName := ⟨RX10, "at", "(II)I"⟩
abbrev cX10_tiesOf : ByteArray := prog_12_method_6_code
def yX10_tiesOf : MethodName := ⟨RX10, "tiesOf", "(I)I"⟩
abbrev cX10_isUsed : ByteArray := prog_12_method_7_code
def yX10_isUsed : MethodName := ⟨RX10, "isUsed", "(I)Z"⟩
abbrev cX10_isWide : ByteArray := prog_12_method_8_code
def yX10_isWide : MethodName := ⟨RX10, "isWide", "(I)Z"⟩
abbrev cX10_kind : ByteArray := prog_12_method_9_code
def yX10_kind : MethodName := ⟨RX10, "kind", "(IIZ)I"⟩
abbrev cX10_above : ByteArray := prog_12_method_10_code
def yX10_above : MethodName := ⟨RX10, "above", "(II)I"⟩
abbrev cX10_wider : ByteArray := prog_12_method_11_code
def yX10_wider : MethodName := ⟨RX10, "wider", "(II)I"⟩
abbrev cX10_free : ByteArray := prog_12_method_12_code
def yX10_free : MethodName := ⟨RX10, "free", "(I)V"⟩
abbrev cX10_opposite : ByteArray := prog_12_method_13_code
def yX10_opposite : MethodName := ⟨RX10, "opposite", "(II)I"⟩
abbrev cX10_ofKind : ByteArray := prog_12_method_14_code
def yX10_ofKind : MethodName := ⟨RX10, "ofKind", "(II)I"⟩
abbrev cX10_alikeAt : ByteArray := prog_12_method_15_code
def yX10_alikeAt : MethodName := ⟨RX10, "alikeAt", "(III)I"⟩
abbrev cX10_alike : ByteArray := prog_12_method_16_code
def yX10_alike : MethodName := ⟨RX10, "alike", "(II)I"⟩
abbrev cX10_timed : ByteArray := prog_12_method_17_code
def yX10_timed : MethodName := ⟨RX10, "timed", "(I)I"⟩
abbrev cX10_empty : ByteArray := prog_12_method_18_code
def yX10_empty : MethodName := ⟨RX10, "empty", "(II)V"⟩
abbrev cX10_tale : ByteArray := prog_12_method_19_code
def yX10_tale : MethodName := ⟨RX10, "tale", "(II)I"⟩
abbrev cX10_isThing : ByteArray := prog_12_method_20_code
def yX10_isThing : MethodName := ⟨RX10, "isThing", "(II)Z"⟩
abbrev cX10_sort : ByteArray := prog_12_method_21_code
def yX10_sort : MethodName := ⟨RX10, "sort", "(III)I"⟩
abbrev cX10_label : ByteArray := prog_12_method_22_code
def yX10_label : MethodName := ⟨RX10, "label", "(II)I"⟩
abbrev cX10_isEnd : ByteArray := prog_12_method_23_code
def yX10_isEnd : MethodName := ⟨RX10, "isEnd", "(II)Z"⟩
abbrev cX10_tieWith : ByteArray := prog_12_method_24_code
def yX10_tieWith : MethodName := ⟨RX10, "tieWith", "(IIIII)I"⟩
abbrev cX10_heightOf : ByteArray := prog_12_method_25_code
def yX10_heightOf : MethodName := ⟨RX10, "heightOf", "(IIIII)I"⟩
abbrev cX10_put : ByteArray := prog_12_method_26_code
def yX10_put : MethodName := ⟨RX10, "put", "(IIIIII)V"⟩
abbrev cX10_tie : ByteArray := prog_12_method_27_code
def yX10_tie : MethodName := ⟨RX10, "tie", "(IIIIII)I"⟩
abbrev cX10_ofTie : ByteArray := prog_12_method_28_code
def yX10_ofTie : MethodName := ⟨RX10, "ofTie", "(III)I"⟩
abbrev cX10_highest : ByteArray := prog_12_method_29_code
def yX10_highest : MethodName := ⟨RX10, "highest", "(I)I"⟩
abbrev cX10_ofTale : ByteArray := prog_12_method_30_code
def yX10_ofTale : MethodName := ⟨RX10, "ofTale", "(II)I"⟩
abbrev cX10_become : ByteArray := prog_12_method_31_code
def yX10_become : MethodName := ⟨RX10, "become", "(II)V"⟩
abbrev cX10_copy : ByteArray := prog_12_method_32_code
def yX10_copy : MethodName := ⟨RX10, "copy", "(II)I"⟩
abbrev cX10_endAnswers : ByteArray := prog_12_method_33_code
def yX10_endAnswers : MethodName := ⟨RX10, "endAnswers", "(II)Z"⟩
abbrev cX10_sign : ByteArray := prog_12_method_34_code
def yX10_sign : MethodName := ⟨RX10, "sign", "(I)I"⟩
abbrev cX10_goes : ByteArray := prog_12_method_35_code
def yX10_goes : MethodName := ⟨RX10, "goes", "(IIII)Z"⟩
abbrev cX10_tieAnswers : ByteArray := prog_12_method_36_code
def yX10_tieAnswers : MethodName := ⟨RX10, "tieAnswers", "(IIIII)Z"⟩
abbrev cX10_weigh : ByteArray := prog_12_method_37_code
def yX10_weigh : MethodName := ⟨RX10, "weigh", "(IIIZ)I"⟩
abbrev cX10_pairsOfRow : ByteArray := prog_12_method_38_code
def yX10_pairsOfRow : MethodName := ⟨RX10, "pairsOfRow", "(I)I"⟩
abbrev cX10_isPairing : ByteArray := prog_12_method_39_code
def yX10_isPairing : MethodName := ⟨RX10, "isPairing", "(I)Z"⟩
abbrev cX10_firstRow : ByteArray := prog_12_method_40_code
def yX10_firstRow : MethodName := ⟨RX10, "firstRow", "(II)V"⟩
abbrev cX10_nextRow : ByteArray := prog_12_method_41_code
def yX10_nextRow : MethodName := ⟨RX10, "nextRow", "(II)Z"⟩
abbrev cX10_isWeighed : ByteArray := prog_12_method_42_code
def yX10_isWeighed : MethodName := ⟨RX10, "isWeighed", "(IIZ)Z"⟩
abbrev cX10_likeness : ByteArray := prog_12_method_43_code
def yX10_likeness : MethodName := ⟨RX10, "likeness", "(IIIZ)I"⟩
abbrev cX10_isLevel : ByteArray := prog_12_method_44_code
def yX10_isLevel : MethodName := ⟨RX10, "isLevel", "(I)Z"⟩
abbrev cX10_like : ByteArray := prog_12_method_45_code
def yX10_like : MethodName := ⟨RX10, "like", "(III)I"⟩
abbrev cX10_partner : ByteArray := prog_12_method_46_code
def yX10_partner : MethodName := ⟨RX10, "partner", "(I)I"⟩
abbrev cX10_answer : ByteArray := prog_12_method_47_code
def yX10_answer : MethodName := ⟨RX10, "answer", "(I)I"⟩
abbrev cX10_digits : ByteArray := prog_12_method_48_code
def yX10_digits : MethodName := ⟨RX10, "digits", "(I)I"⟩
abbrev cX10_likes : ByteArray := prog_12_method_49_code
def yX10_likes : MethodName := ⟨RX10, "likes", "(IIII)I"⟩
abbrev cX10_worth : ByteArray := prog_12_method_50_code
def yX10_worth : MethodName := ⟨RX10, "worth", "(IIII)I"⟩
abbrev cX10_same : ByteArray := prog_12_method_51_code
def yX10_same : MethodName := ⟨RX10, "same", "(II)I"⟩
abbrev cX10_over : ByteArray := prog_12_method_52_code
def yX10_over : MethodName := ⟨RX10, "over", "(I)I"⟩
abbrev cX10_layGuesses : ByteArray := prog_12_method_53_code
def yX10_layGuesses : MethodName := ⟨RX10, "layGuesses", "()V"⟩
abbrev cX10_hasGuess : ByteArray := prog_12_method_54_code
def yX10_hasGuess : MethodName := ⟨RX10, "hasGuess", "(II)Z"⟩
abbrev cX10_isAgainst : ByteArray := prog_12_method_55_code
def yX10_isAgainst : MethodName := ⟨RX10, "isAgainst", "(I)Z"⟩
abbrev cX10_takeKept : ByteArray := prog_12_method_56_code
def yX10_takeKept : MethodName := ⟨RX10, "takeKept", "()V"⟩
abbrev cX10_guess : ByteArray := prog_12_method_57_code
def yX10_guess : MethodName := ⟨RX10, "guess", "(I)I"⟩
abbrev cX10_ofGuess : ByteArray := prog_12_method_58_code
def yX10_ofGuess : MethodName := ⟨RX10, "ofGuess", "(II)I"⟩
abbrev cX10_bits : ByteArray := prog_12_method_59_code
def yX10_bits : MethodName := ⟨RX10, "bits", "(I)I"⟩
abbrev cX10_speaks : ByteArray := prog_12_method_60_code
def yX10_speaks : MethodName := ⟨RX10, "speaks", "(I)Z"⟩
abbrev cX10_giveUp : ByteArray := prog_12_method_61_code
def yX10_giveUp : MethodName := ⟨RX10, "giveUp", "()I"⟩
abbrev cX10_boundOf : ByteArray := prog_12_method_62_code
def yX10_boundOf : MethodName := ⟨RX10, "boundOf", "(II)I"⟩
abbrev cX10_bound : ByteArray := prog_12_method_63_code
def yX10_bound : MethodName := ⟨RX10, "bound", "(II)I"⟩
abbrev cX10_likest : ByteArray := prog_12_method_64_code
def yX10_likest : MethodName := ⟨RX10, "likest", "(I)I"⟩
abbrev cX10_seek : ByteArray := prog_12_method_65_code
def yX10_seek : MethodName := ⟨RX10, "seek", "(I)I"⟩
abbrev cX10_sought : ByteArray := prog_12_method_66_code
def yX10_sought : MethodName := ⟨RX10, "sought", "(I)I"⟩
abbrev cX10_moved : ByteArray := prog_12_method_67_code
def yX10_moved : MethodName := ⟨RX10, "moved", "(I)I"⟩
abbrev cX10_add : ByteArray := prog_12_method_68_code
def yX10_add : MethodName := ⟨RX10, "add", "(IIIII)I"⟩
abbrev cX10_common : ByteArray := prog_12_method_69_code
def yX10_common : MethodName := ⟨RX10, "common", "(IIII)I"⟩
abbrev cX10_inMade : ByteArray := prog_12_method_70_code
def yX10_inMade : MethodName := ⟨RX10, "inMade", "(II)I"⟩
abbrev cX10_series : ByteArray := prog_12_method_71_code
def yX10_series : MethodName := ⟨RX10, "series", "(IIII)I"⟩
abbrev cX10_leftOut : ByteArray := prog_12_method_72_code
def yX10_leftOut : MethodName := ⟨RX10, "leftOut", "(II)I"⟩
abbrev cX10_trial : ByteArray := prog_12_method_73_code
def yX10_trial : MethodName := ⟨RX10, "trial", "(I)I"⟩
def RJ6 : String := "java/lang/Integer"
abbrev cJ6_bitCount_0f7a4 : ByteArray := prog_13_method_49_code
def yJ6_bitCount_0f7a4 : MethodName := ⟨RJ6, "bitCount", "(I)I"⟩
def RJ9 : String := "java/lang/Math"
abbrev cJ9_max_7cf53 : ByteArray := prog_14_method_65_code
def yJ9_max_7cf53 : MethodName := ⟨RJ9, "max", "(II)I"⟩
abbrev cJ9_min_7cf53 : ByteArray := prog_14_method_69_code
def yJ9_min_7cf53 : MethodName := ⟨RJ9, "min", "(II)I"⟩
def RJ10 : String := "java/lang/System"
def RL : String := "LikeTalesLaw"
abbrev cL_law : ByteArray := code
def yL_law : MethodName := ⟨RL, "law", "([I)Z"⟩
abbrev vwCl : List vw_C := [(RX0, TX0, 14), (RX1, TX1, 6), (RX2, TX2, 8), (RX3, TX3, 4), (RX4, TX4, 8), (RX5, TX5, 14), (RX6, TX6, 5), (RX7, TX7, 8), (RX8, TX8, 9), (RX9, TX9, 12), (RX10, TX10, 36)]
end
section
def wsL_law_r1 : List Cond := [Cond.classLink RL 7 RX9, Cond.instantiable RX9 12, Cond.initialized RX9, Cond.classLink RL 10 RX10, Cond.instantiable RX10 36, Cond.initialized RX10, Cond.methodLink RL 9 yX9_init, Cond.instanceMethod yX9_init, Cond.code yX9_init cX9_init 7 none, Cond.methodLink RX9 3 objectInit, Cond.instanceMethod objectInit, Cond.code objectInit ⟨#[0xb1]⟩ 1 none, Cond.fieldLink RX9 9 "LikeTales" "timed" "Z", Cond.fieldLink RX9 13 "LikeTales" "hasSought" "Z", Cond.fieldLink RX9 16 "LikeTales" "soughtHeld" "I", Cond.fieldLink RX9 20 "LikeTales" "soughtWorth" "I", Cond.classLink RX9 23 RX3, Cond.instantiable RX3 4, Cond.initialized RX3, Cond.classLink RX9 26 RX0, Cond.instantiable RX0 14, Cond.initialized RX0, Cond.classLink RX9 31 RX5, Cond.instantiable RX5 14]
def wsL_law_r2 : List Cond := [Cond.initialized RX5, Cond.classLink RX9 36 RX2, Cond.instantiable RX2 8, Cond.initialized RX2, Cond.classLink RX9 39 RX4, Cond.instantiable RX4 8, Cond.initialized RX4, Cond.fieldLink RX9 42 "LikeTales" "language" "LLikeTales$Language;", Cond.fieldLink RX9 46 "LikeTales" "tales" "[LLikeTales$Net;", Cond.fieldLink RX9 50 "LikeTales" "answering" "LLikeTales$Answering;", Cond.fieldLink RX9 54 "LikeTales" "search" "LLikeTales$Search;", Cond.fieldLink RX9 58 "LikeTales" "kept" "LLikeTales$Kept;", Cond.classLink RX9 62 RX1, Cond.instantiable RX1 6, Cond.initialized RX1, Cond.fieldLink RX9 64 "LikeTales$Kept" "from" "LLikeTales$Net;", Cond.fieldLink RX9 68 "LikeTales$Answering" "partners" "[I", Cond.fieldLink RX9 72 "LikeTales$Answering" "answers" "[I", Cond.fieldLink RX9 78 "LikeTales" "triedGuesses" "LLikeTales$Guesses;", Cond.classLink RX9 82 RX8, Cond.instantiable RX8 9, Cond.initialized RX8, Cond.fieldLink RX9 87 "LikeTales" "weaver" "LLikeTales$Weaver;", Cond.classLink RX9 91 RX6]
def wsL_law_r3 : List Cond := [Cond.instantiable RX6 5, Cond.initialized RX6, Cond.fieldLink RX9 96 "LikeTales" "seeker" "LLikeTales$Seeker;", Cond.methodLink RX9 25 yX3_init, Cond.instanceMethod yX3_init, Cond.code yX3_init cX3_init 2 none, Cond.methodLink RX3 3 objectInit, Cond.arrayClass .int, Cond.fieldLink RX3 9 "LikeTales$Language" "ends" "[I", Cond.arrayClass .boolean, Cond.fieldLink RX3 15 "LikeTales$Language" "even" "[Z", Cond.fieldLink RX3 19 "LikeTales$Language" "wider" "[I", Cond.fieldLink RX3 22 "LikeTales$Language" "opposite" "[I", Cond.methodLink RX9 28 yX0_init, Cond.instanceMethod yX0_init, Cond.code yX0_init cX0_init 2 none, Cond.methodLink RX0 3 objectInit, Cond.classLink RX0 9 RX4, Cond.fieldLink RX0 12 "LikeTales$Answering" "from" "LLikeTales$Net;", Cond.fieldLink RX0 18 "LikeTales$Answering" "to" "LLikeTales$Net;", Cond.fieldLink RX0 21 "LikeTales$Answering" "weighing" "I", Cond.classLink RX0 25 RX7, Cond.instantiable RX7 8, Cond.initialized RX7]
def wsL_law_r4 : List Cond := [Cond.fieldLink RX0 28 "LikeTales$Answering" "timing" "LLikeTales$Timing;", Cond.fieldLink RX0 32 "LikeTales$Answering" "partners" "[I", Cond.fieldLink RX0 36 "LikeTales$Answering" "answers" "[I", Cond.fieldLink RX0 39 "LikeTales$Answering" "likely" "[I", Cond.fieldLink RX0 42 "LikeTales$Answering" "could" "[I", Cond.fieldLink RX0 45 "LikeTales$Answering" "turned" "[I", Cond.fieldLink RX0 48 "LikeTales$Answering" "one" "[I", Cond.fieldLink RX0 51 "LikeTales$Answering" "near" "[I", Cond.fieldLink RX0 54 "LikeTales$Answering" "having" "[I", Cond.fieldLink RX0 57 "LikeTales$Answering" "havingFree" "[I", Cond.fieldLink RX0 60 "LikeTales$Answering" "language" "LLikeTales$Language;", Cond.instanceMethod yX4_init, Cond.code yX4_init cX4_init 1 none, Cond.methodLink RX4 3 objectInit, Cond.fieldLink RX4 9 "LikeTales$Net" "things" "I", Cond.fieldLink RX4 15 "LikeTales$Net" "ties" "I", Cond.fieldLink RX4 18 "LikeTales$Net" "label" "I", Cond.fieldLink RX4 21 "LikeTales$Net" "sorts" "[I", Cond.fieldLink RX4 25 "LikeTales$Net" "kinds" "[I", Cond.fieldLink RX4 28 "LikeTales$Net" "ends" "[I", Cond.fieldLink RX4 31 "LikeTales$Net" "moments" "[I", Cond.fieldLink RX4 34 "LikeTales$Net" "heights" "[I", Cond.instanceMethod yX7_init, Cond.code yX7_init cX7_init 1 none]
def wsL_law_r5 : List Cond := [Cond.methodLink RX7 3 objectInit, Cond.classLink RX7 9 RX4, Cond.fieldLink RX7 12 "LikeTales$Timing" "from" "LLikeTales$Net;", Cond.fieldLink RX7 18 "LikeTales$Timing" "to" "LLikeTales$Net;", Cond.fieldLink RX7 21 "LikeTales$Timing" "matters" "Z", Cond.fieldLink RX7 25 "LikeTales$Timing" "atMoment" "[I", Cond.fieldLink RX7 29 "LikeTales$Timing" "ahead" "[I", Cond.fieldLink RX7 32 "LikeTales$Timing" "withMoments" "I", Cond.fieldLink RX7 36 "LikeTales$Timing" "weights" "[I", Cond.fieldLink RX7 39 "LikeTales$Timing" "heaviest" "[I", Cond.methodLink RX9 33 yX5_init, Cond.instanceMethod yX5_init, Cond.code yX5_init cX5_init 2 none, Cond.methodLink RX5 3 objectInit, Cond.classLink RX5 9 RX4, Cond.fieldLink RX5 12 "LikeTales$Search" "from" "LLikeTales$Net;", Cond.fieldLink RX5 18 "LikeTales$Search" "to" "LLikeTales$Net;", Cond.fieldLink RX5 21 "LikeTales$Search" "countsSorts" "Z", Cond.fieldLink RX5 25 "LikeTales$Search" "sameSort" "[I", Cond.fieldLink RX5 29 "LikeTales$Search" "taken" "I", Cond.fieldLink RX5 33 "LikeTales$Search" "spare" "I", Cond.fieldLink RX5 36 "LikeTales$Search" "bestWorth" "I", Cond.fieldLink RX5 39 "LikeTales$Search" "bestPairs" "I", Cond.fieldLink RX5 42 "LikeTales$Search" "bestPartners" "[I"]
def wsL_law_r6 : List Cond := [Cond.fieldLink RX5 45 "LikeTales$Search" "isListing" "Z", Cond.fieldLink RX5 48 "LikeTales$Search" "listed" "I", Cond.fieldLink RX5 51 "LikeTales$Search" "wanted" "I", Cond.fieldLink RX5 54 "LikeTales$Search" "answering" "LLikeTales$Answering;", Cond.fieldLink RX5 58 "LikeTales$Answering" "partners" "[I", Cond.fieldLink RX5 63 "LikeTales$Search" "partners" "[I", Cond.methodLink RX9 38 yX2_init, Cond.instanceMethod yX2_init, Cond.code yX2_init cX2_init 4 none, Cond.methodLink RX2 3 objectInit, Cond.fieldLink RX2 9 "LikeTales$Kept" "isThere" "Z", Cond.fieldLink RX2 15 "LikeTales$Kept" "level" "I", Cond.fieldLink RX2 19 "LikeTales$Kept" "timed" "Z", Cond.classLink RX2 22 RX4, Cond.fieldLink RX2 25 "LikeTales$Kept" "to" "LLikeTales$Net;", Cond.fieldLink RX2 29 "LikeTales$Kept" "from" "LLikeTales$Net;", Cond.fieldLink RX2 32 "LikeTales$Kept" "partners" "[I", Cond.fieldLink RX2 36 "LikeTales$Kept" "answers" "[I", Cond.classLink RX2 39 RX1, Cond.fieldLink RX2 44 "LikeTales$Kept" "guesses" "LLikeTales$Guesses;", Cond.methodLink RX2 41 yX1_init, Cond.instanceMethod yX1_init, Cond.code yX1_init cX1_init 4 none, Cond.methodLink RX1 3 objectInit]
def wsL_law_r7 : List Cond := [Cond.fieldLink RX1 9 "LikeTales$Guesses" "count" "I", Cond.fieldLink RX1 15 "LikeTales$Guesses" "ties" "[I", Cond.fieldLink RX1 19 "LikeTales$Guesses" "numbers" "[I", Cond.fieldLink RX1 22 "LikeTales$Guesses" "from" "LLikeTales$Net;", Cond.fieldLink RX1 26 "LikeTales$Guesses" "partners" "[I", Cond.fieldLink RX1 29 "LikeTales$Guesses" "answers" "[I", Cond.methodLink RX9 75 yX1_init, Cond.methodLink RX9 84 yX8_init, Cond.instanceMethod yX8_init, Cond.code yX8_init cX8_init 3 none, Cond.methodLink RX8 3 objectInit, Cond.classLink RX8 9 RX4, Cond.fieldLink RX8 12 "LikeTales$Weaver" "made" "LLikeTales$Net;", Cond.fieldLink RX8 18 "LikeTales$Weaver" "firstPartners" "[I", Cond.fieldLink RX8 22 "LikeTales$Weaver" "firstAnswers" "[I", Cond.fieldLink RX8 25 "LikeTales$Weaver" "newThings" "[I", Cond.fieldLink RX8 28 "LikeTales$Weaver" "newTies" "[I", Cond.fieldLink RX8 31 "LikeTales$Weaver" "leftTies" "[I", Cond.fieldLink RX8 34 "LikeTales$Weaver" "newEnds" "[I", Cond.fieldLink RX8 37 "LikeTales$Weaver" "language" "LLikeTales$Language;", Cond.fieldLink RX8 41 "LikeTales$Weaver" "answering" "LLikeTales$Answering;", Cond.methodLink RX9 93 yX6_init, Cond.instanceMethod yX6_init, Cond.code yX6_init cX6_init 3 none]
def wsL_law_r8 : List Cond := [Cond.methodLink RX6 3 objectInit, Cond.fieldLink RX6 9 "LikeTales$Seeker" "bounds" "[I", Cond.fieldLink RX6 15 "LikeTales$Seeker" "held" "I", Cond.fieldLink RX6 19 "LikeTales$Seeker" "bestWorth" "I", Cond.fieldLink RX6 22 "LikeTales$Seeker" "tales" "[LLikeTales$Net;", Cond.fieldLink RX6 26 "LikeTales$Seeker" "search" "LLikeTales$Search;", Cond.methodLink RL 12 yX10_init, Cond.instanceMethod yX10_init, Cond.code yX10_init cX10_init 2 none, Cond.methodLink RX10 1 objectInit, Cond.fieldLink RX10 7 "LikeTalesModel" "ends" "[I", Cond.fieldLink RX10 13 "LikeTalesModel" "isEven" "[Z", Cond.fieldLink RX10 17 "LikeTalesModel" "wide" "[I", Cond.fieldLink RX10 20 "LikeTalesModel" "against" "[I", Cond.fieldLink RX10 23 "LikeTalesModel" "things" "[I", Cond.fieldLink RX10 26 "LikeTalesModel" "sorts" "[I", Cond.fieldLink RX10 29 "LikeTalesModel" "labels" "[I", Cond.fieldLink RX10 32 "LikeTalesModel" "ties" "[I", Cond.fieldLink RX10 35 "LikeTalesModel" "tie" "[I", Cond.fieldLink RX10 38 "LikeTalesModel" "row" "[I", Cond.fieldLink RX10 41 "LikeTalesModel" "ans" "[I", Cond.fieldLink RX10 44 "LikeTalesModel" "best" "[I", Cond.fieldLink RX10 47 "LikeTalesModel" "keptRow" "[I", Cond.fieldLink RX10 50 "LikeTalesModel" "keptAnswer" "[I"]
def wsL_law_r9 : List Cond := [Cond.fieldLink RX10 53 "LikeTalesModel" "guess" "[I", Cond.fieldLink RX10 56 "LikeTalesModel" "numberOf" "[I", Cond.fieldLink RX10 59 "LikeTalesModel" "newThing" "[I", Cond.fieldLink RX10 62 "LikeTalesModel" "newTie" "[I", Cond.fieldLink RX10 65 "LikeTalesModel" "firstRowOf" "[I", Cond.fieldLink RX10 68 "LikeTalesModel" "firstAnswer" "[I", Cond.fieldLink RX10 71 "LikeTalesModel" "left" "[I", Cond.fieldLink RX10 74 "LikeTalesModel" "won" "[I", Cond.methodLink RL 13 yX9_kind, Cond.instanceMethod yX9_kind, Cond.selects RX9 yX9_kind yX9_kind, Cond.code yX9_kind cX9_kind 5 (some .int), Cond.fieldLink RX9 110 "LikeTales$Language" "ends" "[I", Cond.fieldLink RX9 113 "LikeTales$Language" "even" "[Z", Cond.methodLink RX9 100 yX9_isKind, Cond.static yX9_isKind, Cond.code yX9_isKind cX9_isKind 1 (some .boolean), Cond.methodLink RX9 104 yX9_isInUse, Cond.instanceMethod yX9_isInUse, Cond.selects RX9 yX9_isInUse yX9_isInUse, Cond.code yX9_isInUse cX9_isInUse 2 (some .boolean), Cond.fieldLink RX9 202 "LikeTales$Kept" "to" "LLikeTales$Net;", Cond.methodLink RX9 135 yX9_tiesToldOf, Cond.instanceMethod yX9_tiesToldOf]
def wsL_law_r10 : List Cond := [Cond.selects RX9 yX9_tiesToldOf yX9_tiesToldOf, Cond.code yX9_tiesToldOf cX9_tiesToldOf 4 (some .int), Cond.methodLink RX9 316 yX4_countOfKind, Cond.instanceMethod yX4_countOfKind, Cond.selects RX4 yX4_countOfKind yX4_countOfKind, Cond.code yX4_countOfKind cX4_countOfKind 4 (some .int), Cond.methodLink RX9 107 yX3_isLinked, Cond.instanceMethod yX3_isLinked, Cond.selects RX3 yX3_isLinked yX3_isLinked, Cond.code yX3_isLinked cX3_isLinked 3 (some .boolean), Cond.methodLink RL 17 yX10_kind, Cond.instanceMethod yX10_kind, Cond.selects RX10 yX10_kind yX10_kind, Cond.code yX10_kind cX10_kind 5 (some .int), Cond.methodLink RX10 93 yX10_isKind, Cond.static yX10_isKind, Cond.code yX10_isKind cX10_isKind 1 (some .boolean), Cond.methodLink RX10 77 yX10_in, Cond.static yX10_in, Cond.code yX10_in cX10_in 3 (some .boolean), Cond.methodLink RX10 97 yX10_isUsed, Cond.instanceMethod yX10_isUsed, Cond.selects RX10 yX10_isUsed yX10_isUsed, Cond.code yX10_isUsed cX10_isUsed 5 (some .boolean)]
def wsL_law_r11 : List Cond := [Cond.fieldLink RX10 89 "LikeTalesModel" "isKept" "Z", Cond.methodLink RX10 85 yX10_tiesOf, Cond.instanceMethod yX10_tiesOf, Cond.selects RX10 yX10_tiesOf yX10_tiesOf, Cond.code yX10_tiesOf cX10_tiesOf 5 (some .int), Cond.methodLink RX10 81 yX10_at, Cond.static yX10_at, Cond.code yX10_at cX10_at 2 (some .int), Cond.methodLink RX10 100 yX10_isWide, Cond.instanceMethod yX10_isWide, Cond.selects RX10 yX10_isWide yX10_isWide, Cond.code yX10_isWide cX10_isWide 4 (some .boolean), Cond.methodLink RL 18 yX9_wider, Cond.instanceMethod yX9_wider, Cond.selects RX9 yX9_wider yX9_wider, Cond.code yX9_wider cX9_wider 4 (some .int), Cond.fieldLink RX9 121 "LikeTales$Language" "wider" "[I", Cond.methodLink RX9 117 yX3_mayStandOver, Cond.instanceMethod yX3_mayStandOver, Cond.selects RX3 yX3_mayStandOver yX3_mayStandOver, Cond.code yX3_mayStandOver cX3_mayStandOver 5 (some .boolean), Cond.methodLink RX9 124 yX9_orNone, Cond.static yX9_orNone, Cond.code yX9_orNone cX9_orNone 1 (some .int)]
def wsL_law_r12 : List Cond := [Cond.methodLink RL 22 yX10_wider, Cond.instanceMethod yX10_wider, Cond.selects RX10 yX10_wider yX10_wider, Cond.code yX10_wider cX10_wider 5 (some .int), Cond.methodLink RL 23 yX9_opposite, Cond.instanceMethod yX9_opposite, Cond.selects RX9 yX9_opposite yX9_opposite, Cond.code yX9_opposite cX9_opposite 3 (some .int), Cond.methodLink RX9 128 yX3_oppose, Cond.instanceMethod yX3_oppose, Cond.selects RX3 yX3_oppose yX3_oppose, Cond.code yX3_oppose cX3_oppose 3 none, Cond.methodLink RX3 25 yX3_loosen, Cond.instanceMethod yX3_loosen, Cond.selects RX3 yX3_loosen yX3_loosen, Cond.code yX3_loosen cX3_loosen 3 none, Cond.methodLink RL 26 yX10_opposite, Cond.instanceMethod yX10_opposite, Cond.selects RX10 yX10_opposite yX10_opposite, Cond.code yX10_opposite cX10_opposite 3 (some .int), Cond.methodLink RX10 103 yX10_free, Cond.instanceMethod yX10_free, Cond.selects RX10 yX10_free yX10_free, Cond.code yX10_free cX10_free 2 none]
def wsL_law_r13 : List Cond := [Cond.methodLink RL 27 yX9_ofKind, Cond.instanceMethod yX9_ofKind, Cond.selects RX9 yX9_ofKind yX9_ofKind, Cond.code yX9_ofKind cX9_ofKind 3 (some .int), Cond.fieldLink RX9 132 "LikeTales$Language" "opposite" "[I", Cond.methodLink RL 30 yX10_ofKind, Cond.instanceMethod yX10_ofKind, Cond.selects RX10 yX10_ofKind yX10_ofKind, Cond.code yX10_ofKind cX10_ofKind 3 (some .int), Cond.methodLink RL 31 yX9_alike, Cond.instanceMethod yX9_alike, Cond.selects RX9 yX9_alike yX9_alike, Cond.code yX9_alike cX9_alike 3 (some .int), Cond.methodLink RX9 138 yX3_meetingLevel, Cond.instanceMethod yX3_meetingLevel, Cond.selects RX3 yX3_meetingLevel yX3_meetingLevel, Cond.code yX3_meetingLevel cX3_meetingLevel 4 (some .int), Cond.methodLink RX3 29 yX3_above, Cond.instanceMethod yX3_above, Cond.selects RX3 yX3_above yX3_above, Cond.code yX3_above cX3_above 5 (some .int), Cond.methodLink RL 34 yX10_alike, Cond.instanceMethod yX10_alike, Cond.selects RX10 yX10_alike yX10_alike]
def wsL_law_r14 : List Cond := [Cond.code yX10_alike cX10_alike 3 (some .int), Cond.methodLink RX10 110 yX10_alikeAt, Cond.instanceMethod yX10_alikeAt, Cond.selects RX10 yX10_alikeAt yX10_alikeAt, Cond.code yX10_alikeAt cX10_alikeAt 5 (some .int), Cond.methodLink RX10 107 yX10_above, Cond.instanceMethod yX10_above, Cond.selects RX10 yX10_above yX10_above, Cond.code yX10_above cX10_above 5 (some .int), Cond.methodLink RL 35 yX9_timed, Cond.instanceMethod yX9_timed, Cond.selects RX9 yX9_timed yX9_timed, Cond.code yX9_timed cX9_timed 3 (some .int), Cond.methodLink RL 39 yX10_timed, Cond.instanceMethod yX10_timed, Cond.selects RX10 yX10_timed yX10_timed, Cond.code yX10_timed cX10_timed 3 (some .int), Cond.fieldLink RX10 114 "LikeTalesModel" "timed" "I", Cond.methodLink RL 40 yX9_tale, Cond.instanceMethod yX9_tale, Cond.selects RX9 yX9_tale yX9_tale, Cond.code yX9_tale cX9_tale 3 (some .int), Cond.methodLink RX9 142 yX9_isTale, Cond.static yX9_isTale]
def wsL_law_r15 : List Cond := [Cond.code yX9_isTale cX9_isTale 1 (some .boolean), Cond.methodLink RX9 145 yX4_empty, Cond.instanceMethod yX4_empty, Cond.selects RX4 yX4_empty yX4_empty, Cond.code yX4_empty cX4_empty 3 none, Cond.methodLink RL 43 yX10_tale, Cond.instanceMethod yX10_tale, Cond.selects RX10 yX10_tale yX10_tale, Cond.code yX10_tale cX10_tale 3 (some .int), Cond.methodLink RX10 118 yX10_isTale, Cond.static yX10_isTale, Cond.code yX10_isTale cX10_isTale 1 (some .boolean), Cond.methodLink RX10 121 yX10_empty, Cond.instanceMethod yX10_empty, Cond.selects RX10 yX10_empty yX10_empty, Cond.code yX10_empty cX10_empty 4 none, Cond.methodLink RL 44 yX9_sort, Cond.instanceMethod yX9_sort, Cond.selects RX9 yX9_sort yX9_sort, Cond.code yX9_sort cX9_sort 5 (some .int), Cond.fieldLink RX9 149 "LikeTales$Net" "things" "I", Cond.fieldLink RX9 155 "LikeTales$Net" "sorts" "[I", Cond.methodLink RX9 152 yX9_isDigit, Cond.static yX9_isDigit]
def wsL_law_r16 : List Cond := [Cond.code yX9_isDigit cX9_isDigit 1 (some .boolean), Cond.methodLink RL 48 yX10_sort, Cond.instanceMethod yX10_sort, Cond.selects RX10 yX10_sort yX10_sort, Cond.code yX10_sort cX10_sort 5 (some .int), Cond.methodLink RX10 125 yX10_isThing, Cond.instanceMethod yX10_isThing, Cond.selects RX10 yX10_isThing yX10_isThing, Cond.code yX10_isThing cX10_isThing 3 (some .boolean), Cond.methodLink RL 49 yX9_label, Cond.instanceMethod yX9_label, Cond.selects RX9 yX9_label yX9_label, Cond.code yX9_label cX9_label 4 (some .int), Cond.fieldLink RX9 158 "LikeTales$Net" "label" "I", Cond.methodLink RL 52 yX10_label, Cond.instanceMethod yX10_label, Cond.selects RX10 yX10_label yX10_label, Cond.code yX10_label cX10_label 4 (some .int), Cond.methodLink RL 53 yX9_tie, Cond.instanceMethod yX9_tie, Cond.selects RX9 yX9_tie yX9_tie, Cond.code yX9_tie cX9_tie 9 (some .int), Cond.fieldLink RX9 165 "LikeTales$Net" "ties" "I", Cond.methodLink RX9 161 yX4_hasEnds]
def wsL_law_r17 : List Cond := [Cond.instanceMethod yX4_hasEnds, Cond.selects RX4 yX4_hasEnds yX4_hasEnds, Cond.code yX4_hasEnds cX4_hasEnds 5 (some .boolean), Cond.methodLink RX4 43 yX4_isEnd, Cond.instanceMethod yX4_isEnd, Cond.selects RX4 yX4_isEnd yX4_isEnd, Cond.code yX4_isEnd cX4_isEnd 2 (some .boolean), Cond.methodLink RX9 168 yX4_find, Cond.instanceMethod yX4_find, Cond.selects RX4 yX4_find yX4_find, Cond.code yX4_find cX4_find 10 (some .int), Cond.fieldLink RX4 47 "LikeTales$Language" "even" "[Z", Cond.methodLink RX9 172 yX4_put, Cond.instanceMethod yX4_put, Cond.selects RX4 yX4_put yX4_put, Cond.code yX4_put cX4_put 7 (some .int), Cond.methodLink RX4 57 Lib.Math.max.name, Cond.static Lib.Math.max.name, Cond.initialized "java/lang/Math", Cond.code Lib.Math.max.name Lib.Math.max.code 2 (some .int), Cond.methodLink RX4 53 yX4_heightOfEnd, Cond.instanceMethod yX4_heightOfEnd, Cond.selects RX4 yX4_heightOfEnd yX4_heightOfEnd, Cond.code yX4_heightOfEnd cX4_heightOfEnd 2 (some .int)]
def wsL_law_r18 : List Cond := [Cond.methodLink RL 57 yX10_tie, Cond.instanceMethod yX10_tie, Cond.selects RX10 yX10_tie yX10_tie, Cond.code yX10_tie cX10_tie 8 (some .int), Cond.methodLink RX10 133 yX10_isEnd, Cond.instanceMethod yX10_isEnd, Cond.selects RX10 yX10_isEnd yX10_isEnd, Cond.code yX10_isEnd cX10_isEnd 3 (some .boolean), Cond.methodLink RX10 136 yX10_tieWith, Cond.instanceMethod yX10_tieWith, Cond.selects RX10 yX10_tieWith yX10_tieWith, Cond.code yX10_tieWith cX10_tieWith 10 (some .int), Cond.methodLink RX10 139 yX10_put, Cond.instanceMethod yX10_put, Cond.selects RX10 yX10_put yX10_put, Cond.code yX10_put cX10_put 8 none, Cond.methodLink RX10 129 yX10_heightOf, Cond.instanceMethod yX10_heightOf, Cond.selects RX10 yX10_heightOf yX10_heightOf, Cond.code yX10_heightOf cX10_heightOf 10 (some .int), Cond.methodLink RL 58 yX9_ofTie, Cond.instanceMethod yX9_ofTie, Cond.selects RX9 yX9_ofTie yX9_ofTie, Cond.code yX9_ofTie cX9_ofTie 5 (some .int)]
def wsL_law_r19 : List Cond := [Cond.fieldLink RX9 176 "LikeTales$Net" "kinds" "[I", Cond.fieldLink RX9 179 "LikeTales$Net" "ends" "[I", Cond.fieldLink RX9 180 "LikeTales$Net" "moments" "[I", Cond.fieldLink RX9 183 "LikeTales$Net" "heights" "[I", Cond.methodLink RL 61 yX10_ofTie, Cond.instanceMethod yX10_ofTie, Cond.selects RX10 yX10_ofTie yX10_ofTie, Cond.code yX10_ofTie cX10_ofTie 4 (some .int), Cond.methodLink RL 62 yX9_ofTale, Cond.instanceMethod yX9_ofTale, Cond.selects RX9 yX9_ofTale yX9_ofTale, Cond.code yX9_ofTale cX9_ofTale 4 (some .int), Cond.methodLink RX9 186 yX4_greatestHeight, Cond.instanceMethod yX4_greatestHeight, Cond.selects RX4 yX4_greatestHeight yX4_greatestHeight, Cond.code yX4_greatestHeight cX4_greatestHeight 3 (some .int), Cond.methodLink RL 65 yX10_ofTale, Cond.instanceMethod yX10_ofTale, Cond.selects RX10 yX10_ofTale yX10_ofTale, Cond.code yX10_ofTale cX10_ofTale 3 (some .int), Cond.methodLink RX10 143 yX10_highest, Cond.instanceMethod yX10_highest, Cond.selects RX10 yX10_highest yX10_highest, Cond.code yX10_highest cX10_highest 4 (some .int)]
def wsL_law_r20 : List Cond := [Cond.methodLink RL 66 yX9_copy, Cond.instanceMethod yX9_copy, Cond.selects RX9 yX9_copy yX9_copy, Cond.code yX9_copy cX9_copy 3 (some .int), Cond.methodLink RX9 190 yX4_become, Cond.instanceMethod yX4_become, Cond.selects RX4 yX4_become yX4_become, Cond.code yX4_become cX4_become 2 none, Cond.methodLink RX4 37 arraycopyName, Cond.native arraycopyName, Cond.static arraycopyName, Cond.initialized "java/lang/System", Cond.methodLink RL 69 yX10_copy, Cond.instanceMethod yX10_copy, Cond.selects RX10 yX10_copy yX10_copy, Cond.code yX10_copy cX10_copy 3 (some .int), Cond.methodLink RX10 146 yX10_become, Cond.instanceMethod yX10_become, Cond.selects RX10 yX10_become yX10_become, Cond.code yX10_become cX10_become 4 none, Cond.methodLink RL 70 yX9_like, Cond.instanceMethod yX9_like, Cond.selects RX9 yX9_like yX9_like, Cond.code yX9_like cX9_like 6 (some .int)]
def wsL_law_r21 : List Cond := [Cond.methodLink RX9 194 yX9_refusedLikeness, Cond.static yX9_refusedLikeness, Cond.code yX9_refusedLikeness cX9_refusedLikeness 3 (some .int), Cond.methodLink RX9 287 yX9_isLevel, Cond.static yX9_isLevel, Cond.code yX9_isLevel cX9_isLevel 1 (some .boolean), Cond.methodLink RX9 198 yX2_take, Cond.instanceMethod yX2_take, Cond.selects RX2 yX2_take yX2_take, Cond.code yX2_take cX2_take 5 none, Cond.methodLink RX2 48 yX4_become, Cond.methodLink RX9 205 yX5_likeness, Cond.instanceMethod yX5_likeness, Cond.selects RX5 yX5_likeness yX5_likeness, Cond.code yX5_likeness cX5_likeness 5 (some .int), Cond.methodLink RX5 72 arraycopyName, Cond.methodLink RX5 64 yX5_prepare, Cond.instanceMethod yX5_prepare, Cond.selects RX5 yX5_prepare yX5_prepare, Cond.code yX5_prepare cX5_prepare 8 none, Cond.fieldLink RX5 94 "LikeTales$Answering" "timing" "LLikeTales$Timing;", Cond.fieldLink RX5 98 "LikeTales$Timing" "matters" "Z", Cond.fieldLink RX5 85 "LikeTales$Net" "things" "I", Cond.methodLink RX5 103 Lib.Math.max.name]
def wsL_law_r22 : List Cond := [Cond.fieldLink RX5 109 "LikeTales$Net" "sorts" "[I", Cond.methodLink RX5 91 yX0_take, Cond.instanceMethod yX0_take, Cond.selects RX0 yX0_take yX0_take, Cond.code yX0_take cX0_take 7 none, Cond.fieldLink RX0 68 "LikeTales$Net" "ties" "I", Cond.methodLink RX0 64 yX7_take, Cond.instanceMethod yX7_take, Cond.selects RX7 yX7_take yX7_take, Cond.code yX7_take cX7_take 6 none, Cond.fieldLink RX7 46 "LikeTales$Net" "ties" "I", Cond.fieldLink RX7 49 "LikeTales$Net" "moments" "[I", Cond.methodLink RX7 42 yX4_countOfMoments, Cond.instanceMethod yX4_countOfMoments, Cond.selects RX4 yX4_countOfMoments yX4_countOfMoments, Cond.code yX4_countOfMoments cX4_countOfMoments 3 (some .int), Cond.methodLink RX0 71 yX0_compareTie, Cond.instanceMethod yX0_compareTie, Cond.selects RX0 yX0_compareTie yX0_compareTie, Cond.code yX0_compareTie cX0_compareTie 8 none, Cond.fieldLink RX0 79 "LikeTales$Net" "kinds" "[I", Cond.fieldLink RX0 88 "LikeTales$Net" "moments" "[I", Cond.fieldLink RX0 91 "LikeTales$Language" "even" "[Z", Cond.methodLink RX0 82 yX3_meetingLevel]
def wsL_law_r23 : List Cond := [Cond.methodLink RX0 75 yX0_noteEnds, Cond.instanceMethod yX0_noteEnds, Cond.selects RX0 yX0_noteEnds yX0_noteEnds, Cond.code yX0_noteEnds cX0_noteEnds 4 none, Cond.fieldLink RX0 95 "LikeTales$Net" "ends" "[I", Cond.methodLink RX5 82 yX5_open, Cond.instanceMethod yX5_open, Cond.selects RX5 yX5_open yX5_open, Cond.code yX5_open cX5_open 2 none, Cond.methodLink RX5 68 yX5_place, Cond.static yX5_place, Cond.code yX5_place cX5_place 4 none, Cond.methodLink RX5 112 yX5_arrive, Cond.instanceMethod yX5_arrive, Cond.selects RX5 yX5_arrive yX5_arrive, Cond.code yX5_arrive cX5_arrive 3 none, Cond.methodLink RX5 78 yX0_settle, Cond.instanceMethod yX0_settle, Cond.selects RX0 yX0_settle yX0_settle, Cond.code yX0_settle cX0_settle 6 (some .int), Cond.fieldLink RX0 105 "LikeTales$Timing" "matters" "Z", Cond.fieldLink RX0 116 "LikeTales$Net" "heights" "[I", Cond.methodLink RX0 101 yX0_reachable, Cond.instanceMethod yX0_reachable]
def wsL_law_r24 : List Cond := [Cond.selects RX0 yX0_reachable yX0_reachable, Cond.code yX0_reachable cX0_reachable 6 (some .int), Cond.methodLink RX0 142 yX0_reach, Cond.instanceMethod yX0_reach, Cond.selects RX0 yX0_reach yX0_reach, Cond.code yX0_reach cX0_reach 7 (some .int), Cond.methodLink RX0 109 yX7_inStep, Cond.instanceMethod yX7_inStep, Cond.selects RX7 yX7_inStep yX7_inStep, Cond.code yX7_inStep cX7_inStep 6 (some .int), Cond.methodLink RX7 52 yX7_outOfStep, Cond.instanceMethod yX7_outOfStep, Cond.selects RX7 yX7_outOfStep yX7_outOfStep, Cond.code yX7_outOfStep cX7_outOfStep 8 (some .int), Cond.methodLink RX0 113 yX0_firstOf, Cond.instanceMethod yX0_firstOf, Cond.selects RX0 yX0_firstOf yX0_firstOf, Cond.code yX0_firstOf cX0_firstOf 3 (some .int), Cond.methodLink RX0 119 yX0_gain, Cond.instanceMethod yX0_gain, Cond.selects RX0 yX0_gain yX0_gain, Cond.code yX0_gain cX0_gain 5 (some .int), Cond.methodLink RX5 131 yX5_sortHope, Cond.instanceMethod yX5_sortHope]
def wsL_law_r25 : List Cond := [Cond.selects RX5 yX5_sortHope yX5_sortHope, Cond.code yX5_sortHope cX5_sortHope 6 (some .int), Cond.methodLink RX5 119 yJ6_bitCount_0f7a4, Cond.static yJ6_bitCount_0f7a4, Cond.initialized RJ6, Cond.code yJ6_bitCount_0f7a4 cJ6_bitCount_0f7a4 1 (some .int), Cond.constant RJ6 265 (1431655765), Cond.constant RJ6 266 (858993459), Cond.constant RJ6 267 (252645135), Cond.methodLink RX5 134 yX5_keepPartners, Cond.instanceMethod yX5_keepPartners, Cond.selects RX5 yX5_keepPartners yX5_keepPartners, Cond.code yX5_keepPartners cX5_keepPartners 1 none, Cond.methodLink RX5 115 yX5_isHopeful, Cond.instanceMethod yX5_isHopeful, Cond.selects RX5 yX5_isHopeful yX5_isHopeful, Cond.code yX5_isHopeful cX5_isHopeful 4 (some .boolean), Cond.methodLink RX5 125 Lib.Math.min.name, Cond.static Lib.Math.min.name, Cond.code Lib.Math.min.name Lib.Math.min.code 2 (some .int), Cond.methodLink RX5 128 yX0_hope, Cond.instanceMethod yX0_hope, Cond.selects RX0 yX0_hope yX0_hope, Cond.code yX0_hope cX0_hope 9 (some .int)]
def wsL_law_r26 : List Cond := [Cond.methodLink RX0 137 Lib.Math.min.name, Cond.methodLink RX0 123 yX0_noteFree, Cond.instanceMethod yX0_noteFree, Cond.selects RX0 yX0_noteFree yX0_noteFree, Cond.code yX0_noteFree cX0_noteFree 5 none, Cond.fieldLink RX0 98 "LikeTales$Net" "things" "I", Cond.methodLink RX0 126 yX7_isOrdered, Cond.instanceMethod yX7_isOrdered, Cond.selects RX7 yX7_isOrdered yX7_isOrdered, Cond.code yX7_isOrdered cX7_isOrdered 3 (some .boolean), Cond.methodLink RX0 130 yX0_spread, Cond.instanceMethod yX0_spread, Cond.selects RX0 yX0_spread yX0_spread, Cond.code yX0_spread cX0_spread 5 none, Cond.fieldLink RX0 145 "LikeTales$Timing" "atMoment" "[I", Cond.methodLink RX0 148 yX7_add, Cond.instanceMethod yX7_add, Cond.selects RX7 yX7_add yX7_add, Cond.code yX7_add cX7_add 5 none, Cond.methodLink RX0 133 yX7_heaviestOrder, Cond.instanceMethod yX7_heaviestOrder, Cond.selects RX7 yX7_heaviestOrder yX7_heaviestOrder, Cond.code yX7_heaviestOrder cX7_heaviestOrder 4 (some .int), Cond.methodLink RX7 56 Lib.Math.max.name]
def wsL_law_r27 : List Cond := [Cond.methodLink RX9 209 yX2_takePairing, Cond.instanceMethod yX2_takePairing, Cond.selects RX2 yX2_takePairing yX2_takePairing, Cond.code yX2_takePairing cX2_takePairing 3 none, Cond.methodLink RX2 52 arraycopyName, Cond.methodLink RX2 58 yX1_gather, Cond.instanceMethod yX1_gather, Cond.selects RX1 yX1_gather yX1_gather, Cond.code yX1_gather cX1_gather 2 none, Cond.fieldLink RX1 32 "LikeTales$Net" "ties" "I", Cond.methodLink RX1 36 yX1_isGuess, Cond.instanceMethod yX1_isGuess, Cond.selects RX1 yX1_isGuess yX1_isGuess, Cond.code yX1_isGuess cX1_isGuess 4 (some .boolean), Cond.fieldLink RX1 40 "LikeTales$Net" "ends" "[I", Cond.methodLink RX1 43 yX1_over, Cond.instanceMethod yX1_over, Cond.selects RX1 yX1_over yX1_over, Cond.code yX1_over cX1_over 3 (some .int), Cond.methodLink RL 73 yX10_like, Cond.instanceMethod yX10_like, Cond.selects RX10 yX10_like yX10_like, Cond.code yX10_like cX10_like 6 (some .int), Cond.fieldLink RX10 201 "LikeTalesModel" "keptLevel" "I"]
def wsL_law_r28 : List Cond := [Cond.fieldLink RX10 204 "LikeTalesModel" "keptTimed" "Z", Cond.methodLink RX10 195 yX10_isLevel, Cond.static yX10_isLevel, Cond.code yX10_isLevel cX10_isLevel 1 (some .boolean), Cond.methodLink RX10 198 yX10_likeness, Cond.instanceMethod yX10_likeness, Cond.selects RX10 yX10_likeness yX10_likeness, Cond.code yX10_likeness cX10_likeness 9 (some .int), Cond.fieldLink RX10 172 "LikeTalesModel" "bestWorth" "I", Cond.fieldLink RX10 175 "LikeTalesModel" "bestPairs" "I", Cond.fieldLink RX10 178 "LikeTalesModel" "mostAnswered" "I", Cond.fieldLink RX10 155 "LikeTalesModel" "answered" "I", Cond.methodLink RX10 181 yX10_firstRow, Cond.instanceMethod yX10_firstRow, Cond.selects RX10 yX10_firstRow yX10_firstRow, Cond.code yX10_firstRow cX10_firstRow 4 none, Cond.methodLink RX10 184 yX10_isWeighed, Cond.instanceMethod yX10_isWeighed, Cond.selects RX10 yX10_isWeighed yX10_isWeighed, Cond.code yX10_isWeighed cX10_isWeighed 5 (some .boolean), Cond.methodLink RX10 166 yX10_isPairing, Cond.instanceMethod yX10_isPairing, Cond.selects RX10 yX10_isPairing yX10_isPairing, Cond.code yX10_isPairing cX10_isPairing 5 (some .boolean)]
def wsL_law_r29 : List Cond := [Cond.methodLink RX10 169 yX10_pairsOfRow, Cond.instanceMethod yX10_pairsOfRow, Cond.selects RX10 yX10_pairsOfRow yX10_pairsOfRow, Cond.code yX10_pairsOfRow cX10_pairsOfRow 4 (some .int), Cond.methodLink RX10 188 yX10_weigh, Cond.instanceMethod yX10_weigh, Cond.selects RX10 yX10_weigh yX10_weigh, Cond.code yX10_weigh cX10_weigh 10 (some .int), Cond.methodLink RX10 158 yX10_tieAnswers, Cond.instanceMethod yX10_tieAnswers, Cond.selects RX10 yX10_tieAnswers yX10_tieAnswers, Cond.code yX10_tieAnswers cX10_tieAnswers 12 (some .boolean), Cond.methodLink RX10 152 yX10_endAnswers, Cond.instanceMethod yX10_endAnswers, Cond.selects RX10 yX10_endAnswers yX10_endAnswers, Cond.code yX10_endAnswers cX10_endAnswers 3 (some .boolean), Cond.methodLink RX10 162 yX10_goes, Cond.instanceMethod yX10_goes, Cond.selects RX10 yX10_goes yX10_goes, Cond.code yX10_goes cX10_goes 11 (some .boolean), Cond.methodLink RX10 149 yX10_sign, Cond.static yX10_sign, Cond.code yX10_sign cX10_sign 1 (some .int), Cond.methodLink RX10 192 yX10_nextRow]
def wsL_law_r30 : List Cond := [Cond.instanceMethod yX10_nextRow, Cond.selects RX10 yX10_nextRow yX10_nextRow, Cond.code yX10_nextRow cX10_nextRow 4 (some .boolean), Cond.methodLink RL 74 yX9_partner, Cond.instanceMethod yX9_partner, Cond.selects RX9 yX9_partner yX9_partner, Cond.code yX9_partner cX9_partner 2 (some .int), Cond.fieldLink RX9 213 "LikeTales$Kept" "isThere" "Z", Cond.fieldLink RX9 216 "LikeTales$Kept" "partners" "[I", Cond.methodLink RL 77 yX10_partner, Cond.instanceMethod yX10_partner, Cond.selects RX10 yX10_partner yX10_partner, Cond.code yX10_partner cX10_partner 2 (some .int), Cond.methodLink RL 78 yX9_answer, Cond.instanceMethod yX9_answer, Cond.selects RX9 yX9_answer yX9_answer, Cond.code yX9_answer cX9_answer 2 (some .int), Cond.fieldLink RX9 217 "LikeTales$Kept" "answers" "[I", Cond.methodLink RL 81 yX10_answer, Cond.instanceMethod yX10_answer, Cond.selects RX10 yX10_answer yX10_answer, Cond.code yX10_answer cX10_answer 2 (some .int), Cond.methodLink RL 82 yX9_likes, Cond.instanceMethod yX9_likes]
def wsL_law_r31 : List Cond := [Cond.selects RX9 yX9_likes yX9_likes, Cond.code yX9_likes cX9_likes 7 (some .int), Cond.methodLink RX9 218 yX5_list, Cond.instanceMethod yX5_list, Cond.selects RX5 yX5_list yX5_list, Cond.code yX5_list cX5_list 2 (some .int), Cond.methodLink RX9 221 yX5_digits, Cond.instanceMethod yX5_digits, Cond.selects RX5 yX5_digits yX5_digits, Cond.code yX5_digits cX5_digits 3 (some .int), Cond.methodLink RL 86 yX10_likes, Cond.instanceMethod yX10_likes, Cond.selects RX10 yX10_likes yX10_likes, Cond.code yX10_likes cX10_likes 9 (some .int), Cond.methodLink RX10 207 yX10_digits, Cond.instanceMethod yX10_digits, Cond.selects RX10 yX10_digits yX10_digits, Cond.code yX10_digits cX10_digits 4 (some .int), Cond.methodLink RL 87 yX9_worth, Cond.instanceMethod yX9_worth, Cond.selects RX9 yX9_worth yX9_worth, Cond.code yX9_worth cX9_worth 6 (some .int), Cond.methodLink RX9 224 yX0_take, Cond.methodLink RX9 227 yX0_readDigits]
def wsL_law_r32 : List Cond := [Cond.instanceMethod yX0_readDigits, Cond.selects RX0 yX0_readDigits yX0_readDigits, Cond.code yX0_readDigits cX0_readDigits 7 (some .boolean), Cond.methodLink RX9 230 yX0_settle, Cond.methodLink RX9 233 yX0_sortsShared, Cond.instanceMethod yX0_sortsShared, Cond.selects RX0 yX0_sortsShared yX0_sortsShared, Cond.code yX0_sortsShared cX0_sortsShared 4 (some .int), Cond.fieldLink RX0 152 "LikeTales$Net" "sorts" "[I", Cond.methodLink RL 90 yX10_worth, Cond.instanceMethod yX10_worth, Cond.selects RX10 yX10_worth yX10_worth, Cond.code yX10_worth cX10_worth 8 (some .int), Cond.methodLink RL 91 yX9_same, Cond.instanceMethod yX9_same, Cond.selects RX9 yX9_same yX9_same, Cond.code yX9_same cX9_same 6 (some .int), Cond.methodLink RX9 236 yX5_isSame, Cond.instanceMethod yX5_isSame, Cond.selects RX5 yX5_isSame yX5_isSame, Cond.code yX5_isSame cX5_isSame 4 (some .boolean), Cond.fieldLink RX5 88 "LikeTales$Net" "ties" "I", Cond.methodLink RL 94 yX10_same, Cond.instanceMethod yX10_same]
def wsL_law_r33 : List Cond := [Cond.selects RX10 yX10_same yX10_same, Cond.code yX10_same cX10_same 6 (some .int), Cond.methodLink RL 95 yX9_guess, Cond.instanceMethod yX9_guess, Cond.selects RX9 yX9_guess yX9_guess, Cond.code yX9_guess cX9_guess 3 (some .int), Cond.fieldLink RX9 240 "LikeTales$Kept" "guesses" "LLikeTales$Guesses;", Cond.fieldLink RX9 243 "LikeTales$Guesses" "count" "I", Cond.fieldLink RX9 246 "LikeTales$Guesses" "ties" "[I", Cond.methodLink RL 98 yX10_guess, Cond.instanceMethod yX10_guess, Cond.selects RX10 yX10_guess yX10_guess, Cond.code yX10_guess cX10_guess 2 (some .int), Cond.fieldLink RX10 210 "LikeTalesModel" "guesses" "I", Cond.methodLink RX10 222 yX10_takeKept, Cond.instanceMethod yX10_takeKept, Cond.selects RX10 yX10_takeKept yX10_takeKept, Cond.code yX10_takeKept cX10_takeKept 2 none, Cond.methodLink RX10 219 yX10_layGuesses, Cond.instanceMethod yX10_layGuesses, Cond.selects RX10 yX10_layGuesses yX10_layGuesses, Cond.code yX10_layGuesses cX10_layGuesses 5 none, Cond.methodLink RX10 213 yX10_over, Cond.instanceMethod yX10_over]
def wsL_law_r34 : List Cond := [Cond.selects RX10 yX10_over yX10_over, Cond.code yX10_over cX10_over 3 (some .int), Cond.methodLink RL 99 yX9_ofGuess, Cond.instanceMethod yX9_ofGuess, Cond.selects RX9 yX9_ofGuess yX9_ofGuess, Cond.code yX9_ofGuess cX9_ofGuess 5 (some .int), Cond.methodLink RX9 248 yX1_endOver, Cond.instanceMethod yX1_endOver, Cond.selects RX1 yX1_endOver yX1_endOver, Cond.code yX1_endOver cX1_endOver 3 (some .int), Cond.methodLink RX9 251 yX1_isHeld, Cond.instanceMethod yX1_isHeld, Cond.selects RX1 yX1_isHeld yX1_isHeld, Cond.code yX1_isHeld cX1_isHeld 4 (some .boolean), Cond.fieldLink RX1 47 "LikeTales$Net" "kinds" "[I", Cond.methodLink RX1 50 yX1_isTold, Cond.instanceMethod yX1_isTold, Cond.selects RX1 yX1_isTold yX1_isTold, Cond.code yX1_isTold cX1_isTold 5 (some .boolean), Cond.methodLink RX1 59 yX1_endOver, Cond.methodLink RX1 63 yX4_find, Cond.methodLink RX9 255 yX1_isAgainst, Cond.instanceMethod yX1_isAgainst, Cond.selects RX1 yX1_isAgainst yX1_isAgainst]
def wsL_law_r35 : List Cond := [Cond.code yX1_isAgainst cX1_isAgainst 5 (some .boolean), Cond.fieldLink RX1 54 "LikeTales$Language" "opposite" "[I", Cond.methodLink RL 102 yX10_ofGuess, Cond.instanceMethod yX10_ofGuess, Cond.selects RX10 yX10_ofGuess yX10_ofGuess, Cond.code yX10_ofGuess cX10_ofGuess 4 (some .int), Cond.methodLink RX10 216 yX10_hasGuess, Cond.instanceMethod yX10_hasGuess, Cond.selects RX10 yX10_hasGuess yX10_hasGuess, Cond.code yX10_hasGuess cX10_hasGuess 4 (some .boolean), Cond.methodLink RX10 225 yX10_isAgainst, Cond.instanceMethod yX10_isAgainst, Cond.selects RX10 yX10_isAgainst yX10_isAgainst, Cond.code yX10_isAgainst cX10_isAgainst 2 (some .boolean), Cond.methodLink RL 103 yX9_giveUp, Cond.instanceMethod yX9_giveUp, Cond.selects RX9 yX9_giveUp yX9_giveUp, Cond.code yX9_giveUp cX9_giveUp 6 (some .int), Cond.fieldLink RX9 258 "LikeTales$Kept" "level" "I", Cond.fieldLink RX9 261 "LikeTales$Kept" "timed" "Z", Cond.methodLink RX9 262 yX2_pairedThings, Cond.instanceMethod yX2_pairedThings, Cond.selects RX2 yX2_pairedThings yX2_pairedThings, Cond.code yX2_pairedThings cX2_pairedThings 3 (some .int)]
def wsL_law_r36 : List Cond := [Cond.fieldLink RX2 61 "LikeTales$Net" "things" "I", Cond.methodLink RX9 265 yJ6_bitCount_0f7a4, Cond.methodLink RX9 270 yX9_isPeaceWithout, Cond.instanceMethod yX9_isPeaceWithout, Cond.selects RX9 yX9_isPeaceWithout yX9_isPeaceWithout, Cond.code yX9_isPeaceWithout cX9_isPeaceWithout 3 (some .boolean), Cond.methodLink RX9 319 yX1_gather, Cond.methodLink RL 107 yX10_giveUp, Cond.instanceMethod yX10_giveUp, Cond.selects RX10 yX10_giveUp yX10_giveUp, Cond.code yX10_giveUp cX10_giveUp 5 (some .int), Cond.methodLink RX10 228 yX10_bits, Cond.static yX10_bits, Cond.code yX10_bits cX10_bits 3 (some .int), Cond.methodLink RX10 231 yX10_speaks, Cond.instanceMethod yX10_speaks, Cond.selects RX10 yX10_speaks yX10_speaks, Cond.code yX10_speaks cX10_speaks 4 (some .boolean), Cond.methodLink RL 108 yX9_bound, Cond.instanceMethod yX9_bound, Cond.selects RX9 yX9_bound yX9_bound, Cond.code yX9_bound cX9_bound 3 (some .int), Cond.methodLink RX9 273 yX6_boundOf, Cond.static yX6_boundOf]
def wsL_law_r37 : List Cond := [Cond.code yX6_boundOf cX6_boundOf 6 (some .int), Cond.fieldLink RX6 30 "LikeTales$Net" "ties" "I", Cond.fieldLink RX6 49 "LikeTales$Net" "kinds" "[I", Cond.fieldLink RX6 52 "LikeTales$Net" "heights" "[I", Cond.methodLink RX6 55 Lib.Math.max.name, Cond.methodLink RX6 65 Lib.Math.min.name, Cond.methodLink RX6 61 yX4_countOfKind, Cond.methodLink RX6 68 yX6_countOfSort, Cond.static yX6_countOfSort, Cond.code yX6_countOfSort cX6_countOfSort 4 (some .int), Cond.fieldLink RX6 72 "LikeTales$Net" "things" "I", Cond.fieldLink RX6 75 "LikeTales$Net" "sorts" "[I", Cond.methodLink RL 111 yX10_bound, Cond.instanceMethod yX10_bound, Cond.selects RX10 yX10_bound yX10_bound, Cond.code yX10_bound cX10_bound 3 (some .int), Cond.methodLink RX10 234 yX10_boundOf, Cond.instanceMethod yX10_boundOf, Cond.selects RX10 yX10_boundOf yX10_boundOf, Cond.code yX10_boundOf cX10_boundOf 10 (some .int), Cond.methodLink RL 112 yX9_seek, Cond.instanceMethod yX9_seek, Cond.selects RX9 yX9_seek yX9_seek, Cond.code yX9_seek cX9_seek 3 (some .int)]
def wsL_law_r38 : List Cond := [Cond.fieldLink RX9 281 "LikeTales$Seeker" "held" "I", Cond.fieldLink RX9 284 "LikeTales$Seeker" "bestWorth" "I", Cond.methodLink RX9 277 yX6_likest, Cond.instanceMethod yX6_likest, Cond.selects RX6 yX6_likest yX6_likest, Cond.code yX6_likest cX6_likest 7 (some .int), Cond.methodLink RX6 35 yX6_boundOf, Cond.methodLink RX6 39 yX6_greatestBound, Cond.instanceMethod yX6_greatestBound, Cond.selects RX6 yX6_greatestBound yX6_greatestBound, Cond.code yX6_greatestBound cX6_greatestBound 3 (some .int), Cond.methodLink RX6 43 yX5_likeness, Cond.methodLink RL 115 yX10_seek, Cond.instanceMethod yX10_seek, Cond.selects RX10 yX10_seek yX10_seek, Cond.code yX10_seek cX10_seek 3 (some .int), Cond.fieldLink RX10 246 "LikeTalesModel" "hasSought" "Z", Cond.fieldLink RX10 237 "LikeTalesModel" "held" "I", Cond.fieldLink RX10 249 "LikeTalesModel" "soughtHeld" "I", Cond.fieldLink RX10 240 "LikeTalesModel" "likestWorth" "I", Cond.fieldLink RX10 252 "LikeTalesModel" "soughtWorth" "I", Cond.methodLink RX10 243 yX10_likest, Cond.instanceMethod yX10_likest, Cond.selects RX10 yX10_likest yX10_likest]
def wsL_law_r39 : List Cond := [Cond.code yX10_likest cX10_likest 8 (some .int), Cond.methodLink RL 116 yX9_sought, Cond.instanceMethod yX9_sought, Cond.selects RX9 yX9_sought yX9_sought, Cond.code yX9_sought cX9_sought 2 (some .int), Cond.methodLink RL 119 yX10_sought, Cond.instanceMethod yX10_sought, Cond.selects RX10 yX10_sought yX10_sought, Cond.code yX10_sought cX10_sought 2 (some .int), Cond.methodLink RL 120 yX9_common, Cond.instanceMethod yX9_common, Cond.selects RX9 yX9_common yX9_common, Cond.code yX9_common cX9_common 5 (some .int), Cond.fieldLink RX9 294 "LikeTales$Weaver" "made" "LLikeTales$Net;", Cond.methodLink RX9 290 yX8_weaveCommon, Cond.instanceMethod yX8_weaveCommon, Cond.selects RX8 yX8_weaveCommon yX8_weaveCommon, Cond.code yX8_weaveCommon cX8_weaveCommon 6 none, Cond.fieldLink RX8 52 "LikeTales$Net" "things" "I", Cond.fieldLink RX8 56 "LikeTales$Answering" "partners" "[I", Cond.fieldLink RX8 61 "LikeTales$Net" "sorts" "[I", Cond.fieldLink RX8 64 "LikeTales$Net" "ties" "I", Cond.fieldLink RX8 67 "LikeTales$Answering" "answers" "[I", Cond.fieldLink RX8 74 "LikeTales$Net" "kinds" "[I"]
def wsL_law_r40 : List Cond := [Cond.methodLink RX8 83 Lib.Math.max.name, Cond.methodLink RX8 45 yX8_clear, Cond.instanceMethod yX8_clear, Cond.selects RX8 yX8_clear yX8_clear, Cond.code yX8_clear cX8_clear 2 none, Cond.methodLink RX8 48 yX4_empty, Cond.methodLink RX8 70 yX8_bringEnds, Cond.instanceMethod yX8_bringEnds, Cond.selects RX8 yX8_bringEnds yX8_bringEnds, Cond.code yX8_bringEnds cX8_bringEnds 5 (some .boolean), Cond.fieldLink RX8 106 "LikeTales$Net" "ends" "[I", Cond.methodLink RX8 109 yX8_newEnd, Cond.instanceMethod yX8_newEnd, Cond.selects RX8 yX8_newEnd yX8_newEnd, Cond.code yX8_newEnd cX8_newEnd 4 (some .int), Cond.methodLink RX8 77 yX3_meetingLevel, Cond.methodLink RX8 88 yX3_above, Cond.methodLink RX8 91 yX8_findOrPut, Cond.instanceMethod yX8_findOrPut, Cond.selects RX8 yX8_findOrPut yX8_findOrPut, Cond.code yX8_findOrPut cX8_findOrPut 4 (some .int), Cond.methodLink RX8 113 yX4_find, Cond.methodLink RX8 117 yX4_put, Cond.methodLink RL 123 yX10_common]
def wsL_law_r41 : List Cond := [Cond.instanceMethod yX10_common, Cond.selects RX10 yX10_common yX10_common, Cond.code yX10_common cX10_common 9 (some .int), Cond.methodLink RX10 255 yX10_moved, Cond.instanceMethod yX10_moved, Cond.selects RX10 yX10_moved yX10_moved, Cond.code yX10_moved cX10_moved 2 (some .int), Cond.methodLink RX10 258 yX10_add, Cond.instanceMethod yX10_add, Cond.selects RX10 yX10_add yX10_add, Cond.code yX10_add cX10_add 7 (some .int), Cond.methodLink RL 124 yX9_series, Cond.instanceMethod yX9_series, Cond.selects RX9 yX9_series yX9_series, Cond.code yX9_series cX9_series 5 (some .int), Cond.methodLink RX9 297 yX8_noteFirst, Cond.instanceMethod yX8_noteFirst, Cond.selects RX8 yX8_noteFirst yX8_noteFirst, Cond.code yX8_noteFirst cX8_noteFirst 3 none, Cond.methodLink RX9 300 yX8_weaveLeft, Cond.instanceMethod yX8_weaveLeft, Cond.selects RX8 yX8_weaveLeft yX8_weaveLeft, Cond.code yX8_weaveLeft cX8_weaveLeft 6 none, Cond.fieldLink RX8 94 "LikeTales$Net" "label" "I"]
def wsL_law_r42 : List Cond := [Cond.fieldLink RX8 97 "LikeTales$Net" "moments" "[I", Cond.methodLink RX8 100 arraycopyName, Cond.methodLink RX9 303 yX8_bridge, Cond.instanceMethod yX8_bridge, Cond.selects RX8 yX8_bridge yX8_bridge, Cond.code yX8_bridge cX8_bridge 3 none, Cond.methodLink RX9 306 yX8_putWon, Cond.instanceMethod yX8_putWon, Cond.selects RX8 yX8_putWon yX8_putWon, Cond.code yX8_putWon cX8_putWon 5 (some .boolean), Cond.methodLink RL 127 yX10_series, Cond.instanceMethod yX10_series, Cond.selects RX10 yX10_series yX10_series, Cond.code yX10_series cX10_series 13 (some .int), Cond.methodLink RX10 261 yX10_inMade, Cond.instanceMethod yX10_inMade, Cond.selects RX10 yX10_inMade yX10_inMade, Cond.code yX10_inMade cX10_inMade 4 (some .int), Cond.methodLink RL 128 yX9_leftOut, Cond.instanceMethod yX9_leftOut, Cond.selects RX9 yX9_leftOut yX9_leftOut, Cond.code yX9_leftOut cX9_leftOut 3 (some .int), Cond.methodLink RX9 309 yX5_mostAnswering, Cond.instanceMethod yX5_mostAnswering]
def wsL_law_r43 : List Cond := [Cond.selects RX5 yX5_mostAnswering yX5_mostAnswering, Cond.code yX5_mostAnswering cX5_mostAnswering 4 (some .int), Cond.methodLink RL 131 yX10_leftOut, Cond.instanceMethod yX10_leftOut, Cond.selects RX10 yX10_leftOut yX10_leftOut, Cond.code yX10_leftOut cX10_leftOut 3 (some .int), Cond.methodLink RL 132 yX9_trial, Cond.instanceMethod yX9_trial, Cond.selects RX9 yX9_trial yX9_trial, Cond.code yX9_trial cX9_trial 6 (some .int), Cond.methodLink RX9 313 yX9_isRight, Cond.instanceMethod yX9_isRight, Cond.selects RX9 yX9_isRight yX9_isRight, Cond.code yX9_isRight cX9_isRight 3 (some .boolean), Cond.methodLink RL 135 yX10_trial, Cond.instanceMethod yX10_trial, Cond.selects RX10 yX10_trial yX10_trial, Cond.code yX10_trial cX10_trial 7 (some .int)]
def wsL_law : List Cond := (wsL_law_r1 ++ (wsL_law_r2 ++ (wsL_law_r3 ++ (wsL_law_r4 ++ (wsL_law_r5 ++ (wsL_law_r6 ++ (wsL_law_r7 ++ (wsL_law_r8 ++ (wsL_law_r9 ++ (wsL_law_r10 ++ (wsL_law_r11 ++ (wsL_law_r12 ++ (wsL_law_r13 ++ (wsL_law_r14 ++ (wsL_law_r15 ++ (wsL_law_r16 ++ (wsL_law_r17 ++ (wsL_law_r18 ++ (wsL_law_r19 ++ (wsL_law_r20 ++ (wsL_law_r21 ++ (wsL_law_r22 ++ (wsL_law_r23 ++ (wsL_law_r24 ++ (wsL_law_r25 ++ (wsL_law_r26 ++ (wsL_law_r27 ++ (wsL_law_r28 ++ (wsL_law_r29 ++ (wsL_law_r30 ++ (wsL_law_r31 ++ (wsL_law_r32 ++ (wsL_law_r33 ++ (wsL_law_r34 ++ (wsL_law_r35 ++ (wsL_law_r36 ++ (wsL_law_r37 ++ (wsL_law_r38 ++ (wsL_law_r39 ++ (wsL_law_r40 ++ (wsL_law_r41 ++ (wsL_law_r42 ++ wsL_law_r43)))))))))))))))))))))))))))))))))))))))))) ++ wsX90 ++ wsX100 ++ wsX30 ++ wsX00 ++ wsX50 ++ wsX20 ++ wsX40 ++ wsX10 ++ wsX80 ++ wsX60 ++ wsX70 ++ ([] : List Cond)
def jch : List (List Cond) := [k2_sels lw_privs, tables_1_1, tables_1_2, tables_1_3, tables_1_4, tables_1_5, tables_1_6]
theorem jch_sub : ∀ c ∈ jch, ∀ w ∈ c, w ∈ lw_tbl := by
  intro c hc w hw
  unfold lw_tbl tables_1
  simp only [jch, List.mem_cons, List.not_mem_nil, or_false] at hc
  simp only [List.mem_append]
  rcases hc with rfl | rfl | rfl | rfl | rfl | rfl | rfl <;> simp [hw]
theorem jin_of {ws : List Cond} (ps : List (Nat × Nat)) (h : ws = ps.filterMap (fun q => (jch.getD q.1 [])[q.2]?)) : ∀ w ∈ ws, w ∈ lw_tbl := by
  intro w hw
  rw [h] at hw
  obtain ⟨q, -, h3⟩ := List.mem_filterMap.mp hw
  have h4 := List.mem_of_getElem? h3
  rw [List.getD_eq_getElem?_getD] at h4
  cases hc : jch[q.1]? with
  | none => rw [hc] at h4; cases h4
  | some c =>
    rw [hc] at h4
    exact jch_sub c (List.mem_of_getElem? hc) w h4
theorem jr_1 : ∀ w ∈ wsL_law_r1, w ∈ lw_tbl := jin_of [(1, 15), (1, 16), (1, 1), (4, 178), (4, 179), (1, 11), (1, 17), (1, 18), (1, 19), (1, 20), (1, 21), (1, 22), (2, 162), (2, 163), (2, 164), (2, 165), (1, 23), (1, 24), (1, 2), (1, 51), (1, 52), (1, 3), (1, 209), (1, 210)] rfl
theorem jr_2 : ∀ w ∈ wsL_law_r2, w ∈ lw_tbl := jin_of [(1, 6), (2, 20), (2, 21), (1, 7), (2, 88), (1, 58), (1, 4), (2, 154), (2, 155), (2, 156), (2, 157), (2, 158), (2, 91), (2, 29), (1, 8), (2, 62), (1, 168), (1, 171), (2, 159), (2, 93), (2, 94), (1, 9), (2, 160), (2, 130)] rfl
theorem jr_3 : ∀ w ∈ wsL_law_r3, w ∈ lw_tbl := jin_of [(2, 131), (1, 10), (2, 161), (1, 25), (1, 26), (1, 27), (1, 28), (1, 49), (1, 29), (1, 50), (1, 31), (1, 35), (1, 37), (1, 53), (1, 54), (1, 55), (1, 56), (1, 57), (1, 161), (1, 162), (1, 163), (1, 124), (1, 125), (1, 5)] rfl
theorem jr_4 : ∀ w ∈ wsL_law_r4, w ∈ lw_tbl := jin_of [(1, 164), (1, 166), (1, 170), (1, 173), (1, 174), (1, 175), (1, 176), (1, 177), (1, 178), (1, 179), (1, 160), (1, 60), (1, 61), (1, 62), (1, 63), (1, 70), (1, 78), (1, 81), (1, 87), (1, 93), (1, 98), (1, 103), (1, 127), (1, 128)] rfl
theorem jr_5 : ∀ w ∈ wsL_law_r5, w ∈ lw_tbl := jin_of [(1, 129), (1, 130), (1, 132), (1, 133), (1, 134), (1, 137), (1, 139), (1, 140), (1, 141), (1, 142), (1, 211), (1, 212), (1, 213), (1, 214), (1, 215), (1, 219), (1, 220), (1, 221), (1, 222), (1, 223), (1, 224), (1, 225), (1, 226), (1, 227)] rfl
theorem jr_6 : ∀ w ∈ wsL_law_r6, w ∈ lw_tbl := jin_of [(1, 228), (1, 229), (1, 230), (1, 217), (1, 167), (1, 218), (2, 22), (2, 23), (2, 24), (2, 25), (2, 55), (2, 57), (2, 59), (2, 26), (2, 63), (2, 61), (2, 65), (2, 67), (2, 28), (2, 69), (2, 30), (2, 31), (2, 32), (2, 33)] rfl
theorem jr_7 : ∀ w ∈ wsL_law_r7, w ∈ lw_tbl := jin_of [(2, 37), (2, 39), (2, 41), (2, 34), (2, 35), (2, 36), (2, 92), (2, 95), (2, 96), (2, 97), (2, 98), (2, 99), (2, 103), (2, 105), (2, 106), (2, 107), (2, 108), (2, 109), (2, 110), (2, 101), (2, 102), (2, 132), (2, 133), (2, 134)] rfl
theorem jr_8 : ∀ w ∈ wsL_law_r8, w ∈ lw_tbl := jin_of [(2, 135), (2, 138), (2, 139), (2, 141), (2, 136), (2, 137), (4, 180), (4, 181), (4, 182), (4, 183), (4, 184), (4, 185), (4, 186), (4, 187), (4, 189), (4, 190), (4, 191), (4, 192), (4, 193), (4, 194), (4, 195), (4, 197), (4, 204), (4, 205)] rfl
theorem jr_9 : ∀ w ∈ wsL_law_r9, w ∈ lw_tbl := jin_of [(4, 207), (4, 208), (4, 214), (4, 215), (4, 216), (4, 217), (4, 218), (4, 219), (2, 191), (2, 192), (2, 193), (2, 194), (1, 30), (1, 32), (2, 195), (2, 196), (2, 197), (2, 198), (2, 200), (0, 0), (2, 201), (2, 64), (2, 202), (2, 204)] rfl
theorem jr_10 : ∀ w ∈ wsL_law_r10, w ∈ lw_tbl := jin_of [(0, 1), (2, 205), (2, 206), (2, 207), (2, 208), (2, 209), (2, 210), (2, 211), (2, 212), (2, 213), (5, 53), (5, 54), (5, 55), (5, 56), (5, 57), (5, 58), (5, 59), (5, 60), (5, 61), (5, 62), (5, 63), (5, 65), (0, 30), (5, 66)] rfl
theorem jr_11 : ∀ w ∈ wsL_law_r11, w ∈ lw_tbl := jin_of [(4, 201), (5, 67), (5, 69), (0, 31), (5, 70), (5, 71), (5, 72), (5, 73), (5, 74), (5, 76), (0, 32), (5, 77), (2, 214), (2, 215), (2, 216), (2, 217), (1, 36), (2, 218), (2, 219), (2, 220), (2, 221), (2, 222), (2, 223), (2, 224)] rfl
theorem jr_12 : ∀ w ∈ wsL_law_r12, w ∈ lw_tbl := jin_of [(5, 78), (5, 79), (5, 80), (5, 81), (2, 225), (2, 226), (2, 227), (2, 228), (2, 229), (2, 230), (2, 231), (2, 232), (2, 233), (2, 235), (0, 2), (2, 236), (5, 82), (5, 83), (5, 84), (5, 85), (5, 86), (5, 88), (0, 33), (5, 89)] rfl
theorem jr_13 : ∀ w ∈ wsL_law_r13, w ∈ lw_tbl := jin_of [(2, 237), (2, 238), (2, 239), (3, 0), (1, 38), (5, 90), (5, 91), (5, 92), (5, 93), (3, 1), (3, 2), (3, 3), (3, 4), (3, 5), (3, 6), (3, 7), (3, 8), (3, 9), (3, 10), (3, 11), (3, 12), (5, 94), (5, 95), (5, 96)] rfl
theorem jr_14 : ∀ w ∈ wsL_law_r14, w ∈ lw_tbl := jin_of [(5, 97), (5, 98), (5, 100), (0, 34), (5, 101), (5, 102), (5, 104), (0, 35), (5, 105), (3, 13), (3, 14), (3, 15), (3, 16), (5, 106), (5, 107), (5, 108), (5, 109), (4, 188), (3, 17), (3, 18), (3, 19), (3, 20), (3, 21), (3, 22)] rfl
theorem jr_15 : ∀ w ∈ wsL_law_r15, w ∈ lw_tbl := jin_of [(3, 23), (3, 24), (3, 25), (3, 26), (3, 27), (5, 110), (5, 111), (5, 112), (5, 113), (5, 114), (5, 115), (5, 116), (5, 117), (5, 119), (0, 36), (5, 120), (3, 28), (3, 29), (3, 30), (3, 31), (1, 69), (1, 85), (3, 32), (3, 33)] rfl
theorem jr_16 : ∀ w ∈ wsL_law_r16, w ∈ lw_tbl := jin_of [(3, 34), (5, 121), (5, 122), (5, 123), (5, 124), (5, 125), (5, 127), (0, 37), (5, 128), (3, 35), (3, 36), (3, 37), (3, 38), (1, 80), (5, 129), (5, 130), (5, 131), (5, 132), (3, 39), (3, 40), (3, 41), (3, 42), (1, 77), (3, 43)] rfl
theorem jr_17 : ∀ w ∈ wsL_law_r17, w ∈ lw_tbl := jin_of [(3, 44), (3, 45), (3, 46), (3, 47), (3, 49), (0, 3), (3, 50), (3, 51), (3, 52), (3, 53), (3, 54), (1, 34), (3, 55), (3, 56), (3, 57), (3, 58), (3, 63), (3, 64), (1, 12), (3, 65), (3, 59), (3, 61), (0, 4), (3, 62)] rfl
theorem jr_18 : ∀ w ∈ wsL_law_r18, w ∈ lw_tbl := jin_of [(5, 133), (5, 134), (5, 135), (5, 136), (5, 137), (5, 139), (0, 38), (5, 140), (5, 141), (5, 143), (0, 39), (5, 144), (5, 145), (5, 147), (0, 40), (5, 148), (5, 149), (5, 151), (0, 41), (5, 152), (3, 66), (3, 67), (3, 68), (3, 69)] rfl
theorem jr_19 : ∀ w ∈ wsL_law_r19, w ∈ lw_tbl := jin_of [(1, 92), (1, 97), (1, 102), (1, 106), (5, 153), (5, 154), (5, 155), (5, 156), (3, 70), (3, 71), (3, 72), (3, 73), (3, 74), (3, 75), (3, 76), (3, 77), (5, 157), (5, 158), (5, 159), (5, 160), (5, 161), (5, 163), (0, 42), (5, 164)] rfl
theorem jr_20 : ∀ w ∈ wsL_law_r20, w ∈ lw_tbl := jin_of [(3, 78), (3, 79), (3, 80), (3, 81), (3, 82), (3, 83), (3, 84), (3, 85), (3, 86), (3, 88), (3, 87), (1, 13), (5, 165), (5, 166), (5, 167), (5, 168), (5, 169), (5, 171), (0, 43), (5, 172), (3, 89), (3, 90), (3, 91), (3, 92)] rfl
theorem jr_21 : ∀ w ∈ wsL_law_r21, w ∈ lw_tbl := jin_of [(3, 93), (3, 94), (3, 95), (3, 96), (3, 97), (3, 98), (3, 99), (3, 100), (3, 101), (3, 102), (3, 103), (3, 104), (3, 105), (3, 106), (3, 107), (3, 187), (3, 108), (3, 110), (0, 5), (3, 111), (1, 165), (1, 136), (1, 65), (3, 133)] rfl
theorem jr_22 : ∀ w ∈ wsL_law_r22, w ∈ lw_tbl := jin_of [(1, 84), (3, 112), (3, 113), (3, 114), (3, 115), (1, 73), (3, 116), (3, 117), (3, 118), (3, 119), (1, 74), (1, 99), (3, 120), (3, 121), (3, 122), (3, 123), (3, 124), (3, 126), (0, 6), (3, 127), (1, 89), (1, 100), (1, 33), (3, 128)] rfl
theorem jr_23 : ∀ w ∈ wsL_law_r23, w ∈ lw_tbl := jin_of [(3, 129), (3, 131), (0, 7), (3, 132), (1, 95), (3, 134), (3, 136), (0, 8), (3, 137), (3, 138), (3, 139), (3, 140), (3, 141), (3, 143), (0, 9), (3, 144), (3, 145), (3, 146), (3, 147), (3, 148), (1, 135), (1, 105), (3, 149), (3, 151)] rfl
theorem jr_24 : ∀ w ∈ wsL_law_r24, w ∈ lw_tbl := jin_of [(0, 10), (3, 152), (3, 153), (3, 155), (0, 11), (3, 156), (3, 157), (3, 158), (3, 159), (3, 160), (3, 161), (3, 163), (0, 12), (3, 164), (3, 165), (3, 167), (0, 13), (3, 168), (3, 169), (3, 171), (0, 14), (3, 172), (3, 173), (3, 175)] rfl
theorem jr_25 : ∀ w ∈ wsL_law_r25, w ∈ lw_tbl := jin_of [(0, 15), (3, 176), (3, 177), (3, 178), (1, 14), (3, 179), (3, 180), (3, 181), (3, 182), (3, 183), (3, 185), (0, 16), (3, 186), (3, 188), (3, 190), (0, 17), (3, 191), (3, 192), (3, 193), (3, 194), (3, 195), (3, 196), (3, 197), (3, 198)] rfl
theorem jr_26 : ∀ w ∈ wsL_law_r26, w ∈ lw_tbl := jin_of [(3, 220), (3, 199), (3, 201), (0, 18), (3, 202), (1, 68), (3, 203), (3, 204), (3, 205), (3, 206), (3, 207), (3, 209), (0, 19), (3, 210), (1, 138), (3, 211), (3, 212), (3, 213), (3, 214), (3, 215), (3, 216), (3, 217), (3, 218), (3, 219)] rfl
theorem jr_27 : ∀ w ∈ wsL_law_r27, w ∈ lw_tbl := jin_of [(3, 221), (3, 222), (3, 223), (3, 224), (3, 225), (3, 226), (3, 227), (3, 228), (3, 229), (1, 71), (3, 230), (3, 232), (0, 20), (3, 233), (1, 94), (3, 234), (3, 236), (0, 21), (3, 237), (5, 173), (5, 174), (5, 175), (5, 176), (4, 202)] rfl
theorem jr_28 : ∀ w ∈ wsL_law_r28, w ∈ lw_tbl := jin_of [(4, 203), (5, 177), (5, 178), (5, 179), (5, 180), (5, 182), (0, 44), (5, 183), (4, 198), (4, 199), (4, 200), (4, 196), (5, 184), (5, 186), (0, 45), (5, 187), (5, 188), (5, 190), (0, 46), (5, 191), (5, 192), (5, 194), (0, 47), (5, 195)] rfl
theorem jr_29 : ∀ w ∈ wsL_law_r29, w ∈ lw_tbl := jin_of [(5, 196), (5, 198), (0, 48), (5, 199), (5, 200), (5, 202), (0, 49), (5, 203), (5, 204), (5, 206), (0, 50), (5, 207), (5, 208), (5, 210), (0, 51), (5, 211), (5, 212), (5, 214), (0, 52), (5, 215), (5, 216), (5, 217), (5, 218), (5, 219)] rfl
theorem jr_30 : ∀ w ∈ wsL_law_r30, w ∈ lw_tbl := jin_of [(5, 221), (0, 53), (5, 222), (3, 238), (3, 239), (4, 0), (4, 1), (2, 56), (2, 66), (5, 223), (5, 224), (5, 225), (5, 226), (4, 2), (4, 3), (4, 4), (4, 5), (2, 68), (5, 227), (5, 228), (5, 229), (5, 230), (4, 6), (4, 7)] rfl
theorem jr_31 : ∀ w ∈ wsL_law_r31, w ∈ lw_tbl := jin_of [(4, 8), (4, 9), (4, 10), (4, 11), (4, 12), (4, 13), (4, 14), (4, 15), (4, 16), (4, 17), (5, 231), (5, 232), (5, 233), (5, 234), (5, 235), (5, 237), (0, 54), (5, 238), (4, 18), (4, 19), (4, 20), (4, 21), (4, 22), (4, 23)] rfl
theorem jr_32 : ∀ w ∈ wsL_law_r32, w ∈ lw_tbl := jin_of [(4, 24), (4, 25), (4, 26), (4, 27), (4, 28), (4, 29), (4, 30), (4, 31), (1, 86), (5, 239), (6, 0), (6, 1), (6, 2), (4, 32), (4, 33), (4, 34), (4, 35), (4, 36), (4, 37), (4, 38), (4, 39), (1, 76), (6, 3), (6, 4)] rfl
theorem jr_33 : ∀ w ∈ wsL_law_r33, w ∈ lw_tbl := jin_of [(6, 5), (6, 6), (4, 40), (4, 41), (4, 42), (4, 43), (2, 70), (2, 38), (2, 40), (6, 7), (6, 8), (6, 9), (6, 10), (4, 206), (6, 11), (6, 13), (0, 55), (6, 14), (6, 15), (6, 17), (0, 56), (6, 18), (6, 19), (6, 21)] rfl
theorem jr_34 : ∀ w ∈ wsL_law_r34, w ∈ lw_tbl := jin_of [(0, 57), (6, 22), (4, 44), (4, 45), (4, 46), (4, 47), (4, 48), (4, 49), (4, 50), (4, 51), (4, 52), (4, 53), (4, 54), (4, 55), (1, 91), (4, 56), (4, 58), (0, 22), (4, 59), (4, 60), (4, 61), (4, 62), (4, 63), (4, 64)] rfl
theorem jr_35 : ∀ w ∈ wsL_law_r35, w ∈ lw_tbl := jin_of [(4, 65), (1, 39), (6, 23), (6, 24), (6, 25), (6, 26), (6, 27), (6, 29), (0, 58), (6, 30), (6, 31), (6, 33), (0, 59), (6, 34), (4, 66), (4, 67), (4, 68), (4, 69), (2, 58), (2, 60), (4, 70), (4, 71), (4, 72), (4, 73)] rfl
theorem jr_36 : ∀ w ∈ wsL_law_r36, w ∈ lw_tbl := jin_of [(1, 66), (4, 74), (4, 75), (4, 77), (0, 23), (4, 78), (4, 79), (6, 35), (6, 36), (6, 37), (6, 38), (6, 39), (6, 40), (6, 41), (6, 42), (6, 44), (0, 60), (6, 45), (4, 80), (4, 81), (4, 82), (4, 83), (4, 84), (4, 85)] rfl
theorem jr_37 : ∀ w ∈ wsL_law_r37, w ∈ lw_tbl := jin_of [(4, 86), (1, 72), (1, 90), (1, 104), (4, 87), (4, 89), (4, 88), (4, 90), (4, 91), (4, 92), (1, 67), (1, 83), (6, 46), (6, 47), (6, 48), (6, 49), (6, 50), (6, 52), (0, 61), (6, 53), (4, 93), (4, 94), (4, 95), (4, 96)] rfl
theorem jr_38 : ∀ w ∈ wsL_law_r38, w ∈ lw_tbl := jin_of [(2, 140), (2, 142), (4, 97), (4, 98), (4, 99), (4, 100), (4, 101), (4, 102), (4, 104), (0, 24), (4, 105), (4, 106), (6, 54), (6, 55), (6, 56), (6, 57), (4, 211), (4, 209), (4, 212), (4, 210), (4, 213), (6, 58), (6, 60), (0, 62)] rfl
theorem jr_39 : ∀ w ∈ wsL_law_r39, w ∈ lw_tbl := jin_of [(6, 61), (4, 107), (4, 108), (4, 109), (4, 110), (6, 62), (6, 63), (6, 64), (6, 65), (4, 111), (4, 112), (4, 113), (4, 114), (2, 104), (4, 115), (4, 116), (4, 117), (4, 118), (1, 64), (1, 169), (1, 82), (1, 75), (1, 172), (1, 88)] rfl
theorem jr_40 : ∀ w ∈ wsL_law_r40, w ∈ lw_tbl := jin_of [(4, 133), (4, 119), (4, 121), (0, 25), (4, 122), (4, 123), (4, 124), (4, 126), (0, 26), (4, 127), (1, 96), (4, 128), (4, 130), (0, 27), (4, 131), (4, 132), (4, 134), (4, 135), (4, 137), (0, 28), (4, 138), (4, 139), (4, 140), (6, 66)] rfl
theorem jr_41 : ∀ w ∈ wsL_law_r41, w ∈ lw_tbl := jin_of [(6, 67), (6, 68), (6, 69), (6, 70), (6, 72), (0, 63), (6, 73), (6, 74), (6, 76), (0, 64), (6, 77), (4, 141), (4, 142), (4, 143), (4, 144), (4, 145), (4, 146), (4, 147), (4, 148), (4, 149), (4, 150), (4, 151), (4, 152), (1, 79)] rfl
theorem jr_42 : ∀ w ∈ wsL_law_r42, w ∈ lw_tbl := jin_of [(1, 101), (4, 153), (4, 154), (4, 155), (4, 156), (4, 157), (4, 158), (4, 159), (4, 160), (4, 161), (6, 78), (6, 79), (6, 80), (6, 81), (6, 82), (6, 84), (0, 65), (6, 85), (4, 162), (4, 163), (4, 164), (4, 165), (4, 166), (4, 167)] rfl
theorem jr_43 : ∀ w ∈ wsL_law_r43, w ∈ lw_tbl := jin_of [(4, 168), (4, 169), (6, 86), (6, 87), (6, 88), (6, 89), (4, 170), (4, 171), (4, 172), (4, 173), (4, 174), (4, 176), (0, 29), (4, 177), (6, 90), (6, 91), (6, 92), (6, 93)] rfl
theorem jru_9 : ∀ w ∈ wsX90, w ∈ lw_tbl := jin_of [(2, 166), (2, 168), (2, 170), (2, 172), (2, 174), (2, 176), (2, 178), (2, 180), (2, 182), (2, 184), (2, 186), (2, 188)] rfl
theorem jru_10 : ∀ w ∈ wsX100, w ∈ lw_tbl := jin_of [(4, 220), (4, 222), (4, 224), (4, 226), (4, 228), (4, 230), (4, 232), (4, 234), (4, 236), (4, 238), (5, 0), (5, 2), (5, 4), (5, 6), (5, 8), (5, 10), (5, 12), (5, 14), (5, 16), (5, 18), (5, 20), (5, 22), (5, 24), (5, 26), (5, 28), (5, 30), (5, 32), (5, 34), (5, 36), (5, 38), (5, 40), (5, 42), (5, 44), (5, 46), (5, 48), (5, 50)] rfl
theorem jru_3 : ∀ w ∈ wsX30, w ∈ lw_tbl := jin_of [(1, 40), (1, 42), (1, 44), (1, 46)] rfl
theorem jru_0 : ∀ w ∈ wsX00, w ∈ lw_tbl := jin_of [(1, 180), (1, 182), (1, 184), (1, 186), (1, 188), (1, 190), (1, 192), (1, 194), (1, 196), (1, 198), (1, 200), (1, 202), (1, 204), (1, 206)] rfl
theorem jru_5 : ∀ w ∈ wsX50, w ∈ lw_tbl := jin_of [(1, 231), (1, 233), (1, 235), (1, 237), (1, 239), (2, 1), (2, 3), (2, 5), (2, 7), (2, 9), (2, 11), (2, 13), (2, 15), (2, 17)] rfl
theorem jru_2 : ∀ w ∈ wsX20, w ∈ lw_tbl := jin_of [(2, 71), (2, 73), (2, 75), (2, 77), (2, 79), (2, 81), (2, 83), (2, 85)] rfl
theorem jru_4 : ∀ w ∈ wsX40, w ∈ lw_tbl := jin_of [(1, 107), (1, 109), (1, 111), (1, 113), (1, 115), (1, 117), (1, 119), (1, 121)] rfl
theorem jru_1 : ∀ w ∈ wsX10, w ∈ lw_tbl := jin_of [(2, 42), (2, 44), (2, 46), (2, 48), (2, 50), (2, 52)] rfl
theorem jru_8 : ∀ w ∈ wsX80, w ∈ lw_tbl := jin_of [(2, 111), (2, 113), (2, 115), (2, 117), (2, 119), (2, 121), (2, 123), (2, 125), (2, 127)] rfl
theorem jru_6 : ∀ w ∈ wsX60, w ∈ lw_tbl := jin_of [(2, 143), (2, 145), (2, 147), (2, 149), (2, 151)] rfl
theorem jru_7 : ∀ w ∈ wsX70, w ∈ lw_tbl := jin_of [(1, 143), (1, 145), (1, 147), (1, 149), (1, 151), (1, 153), (1, 155), (1, 157)] rfl
def jwc : List (List Cond) := [wsL_law_r1, wsL_law_r2, wsL_law_r3, wsL_law_r4, wsL_law_r5, wsL_law_r6, wsL_law_r7, wsL_law_r8, wsL_law_r9, wsL_law_r10, wsL_law_r11, wsL_law_r12, wsL_law_r13, wsL_law_r14, wsL_law_r15, wsL_law_r16, wsL_law_r17, wsL_law_r18, wsL_law_r19, wsL_law_r20, wsL_law_r21, wsL_law_r22, wsL_law_r23, wsL_law_r24, wsL_law_r25, wsL_law_r26, wsL_law_r27, wsL_law_r28, wsL_law_r29, wsL_law_r30, wsL_law_r31, wsL_law_r32, wsL_law_r33, wsL_law_r34, wsL_law_r35, wsL_law_r36, wsL_law_r37, wsL_law_r38, wsL_law_r39, wsL_law_r40, wsL_law_r41, wsL_law_r42, wsL_law_r43]
def jwU : List (List Cond) := [wsX90, wsX100, wsX30, wsX00, wsX50, wsX20, wsX40, wsX10, wsX80, wsX60, wsX70]
theorem wsL_eq : wsL_law = jwc.flatten ++ jwU.flatten := by
  simp only [jwc, jwU, wsL_law, List.flatten_cons, List.flatten_nil, List.append_assoc, List.append_nil]
theorem jr_all : ∀ c ∈ jwc, ∀ w ∈ c, w ∈ lw_tbl := by
  intro c hc
  simp only [jwc, List.mem_cons, List.not_mem_nil, or_false] at hc
  rcases hc with rfl | rfl | rfl | rfl | rfl | rfl | rfl | rfl | rfl | rfl | rfl | rfl | rfl | rfl | rfl | rfl | rfl | rfl | rfl | rfl | rfl | rfl | rfl | rfl | rfl | rfl | rfl | rfl | rfl | rfl | rfl | rfl | rfl | rfl | rfl | rfl | rfl | rfl | rfl | rfl | rfl | rfl | rfl
  · exact jr_1
  · exact jr_2
  · exact jr_3
  · exact jr_4
  · exact jr_5
  · exact jr_6
  · exact jr_7
  · exact jr_8
  · exact jr_9
  · exact jr_10
  · exact jr_11
  · exact jr_12
  · exact jr_13
  · exact jr_14
  · exact jr_15
  · exact jr_16
  · exact jr_17
  · exact jr_18
  · exact jr_19
  · exact jr_20
  · exact jr_21
  · exact jr_22
  · exact jr_23
  · exact jr_24
  · exact jr_25
  · exact jr_26
  · exact jr_27
  · exact jr_28
  · exact jr_29
  · exact jr_30
  · exact jr_31
  · exact jr_32
  · exact jr_33
  · exact jr_34
  · exact jr_35
  · exact jr_36
  · exact jr_37
  · exact jr_38
  · exact jr_39
  · exact jr_40
  · exact jr_41
  · exact jr_42
  · exact jr_43
theorem jru_all : ∀ c ∈ jwU, ∀ w ∈ c, w ∈ lw_tbl := by
  intro c hc
  simp only [jwU, List.mem_cons, List.not_mem_nil, or_false] at hc
  rcases hc with rfl | rfl | rfl | rfl | rfl | rfl | rfl | rfl | rfl | rfl | rfl
  · exact jru_9
  · exact jru_10
  · exact jru_3
  · exact jru_0
  · exact jru_5
  · exact jru_2
  · exact jru_4
  · exact jru_1
  · exact jru_8
  · exact jru_6
  · exact jru_7
theorem wsL_law_in : ∀ w ∈ wsL_law, w ∈ lw_tbl := by
  intro w hw
  rw [wsL_eq] at hw
  rcases List.mem_append.mp hw with h | h
  · obtain ⟨c, hc, hw⟩ := List.mem_flatten.mp h
    exact jr_all c hc w hw
  · obtain ⟨c, hc, hw⟩ := List.mem_flatten.mp h
    exact jru_all c hc w hw
end
section
/-! THE METHODS AS LISTS OF RESOLVED INSTRUCTIONS: (place, instruction, length, four numbers) -/
abbrev jO : Type := Instr × Nat × Nat × Nat × Nat × Nat
/-- LikeTales.kind(IIZ)I -/
def kX9_kind : List (Nat × jO) := [(0, .iload_n 1, 1, 0, 0, 0, 0), (1, .invokestatic 100, 3, 29, 1, 2, 0), (4, .ifCond .ne 5, 3, 0, 0, 0, 0), (7, .iconst (-1), 1, 0, 0, 0, 0), (8, .ireturn, 1, 0, 0, 0, 0), (9, .iload_n 2, 1, 0, 0, 0, 0), (10, .iconst 1, 1, 0, 0, 0, 0), (11, .if_icmp .lt 8, 3, 0, 0, 0, 0), (14, .iload_n 2, 1, 0, 0, 0, 0), (15, .iconst 3, 1, 0, 0, 0, 0), (16, .if_icmp .le 6, 3, 0, 0, 0, 0), (19, .bipush (-2), 2, 0, 0, 0, 0), (21, .ireturn, 1, 0, 0, 0, 0), (22, .aload_n 0, 1, 0, 0, 0, 0), (23, .iload_n 1, 1, 0, 0, 0, 0), (24, .invokevirtual 104, 3, 36, 2, 0, 1), (27, .ifCond .ne 14, 3, 0, 0, 0, 0), (30, .aload_n 0, 1, 0, 0, 0, 0), (31, .getfield 42, 3, 9, 0, 1, 0), (34, .iload_n 1, 1, 0, 0, 0, 0), (35, .invokevirtual 107, 3, 134, 2, 0, 2), (38, .ifCond .eq 6, 3, 0, 0, 0, 0), (41, .bipush (-3), 2, 0, 0, 0, 0), (43, .ireturn, 1, 0, 0, 0, 0), (44, .aload_n 0, 1, 0, 0, 0, 0), (45, .getfield 42, 3, 9, 0, 1, 0), (48, .getfield 110, 3, 3, 0, 1, 1), (51, .iload_n 1, 1, 0, 0, 0, 0), (52, .iaload, 1, 0, 0, 0, 0), (53, .istore 4, 2, 0, 0, 0, 0), (55, .aload_n 0, 1, 0, 0, 0, 0), (56, .getfield 42, 3, 9, 0, 1, 0), (59, .getfield 110, 3, 3, 0, 1, 1), (62, .iload_n 1, 1, 0, 0, 0, 0), (63, .iload_n 2, 1, 0, 0, 0, 0), (64, .iastore, 1, 0, 0, 0, 0), (65, .aload_n 0, 1, 0, 0, 0, 0), (66, .getfield 42, 3, 9, 0, 1, 0), (69, .getfield 113, 3, 3, 1, 1, 2), (72, .iload_n 1, 1, 0, 0, 0, 0), (73, .iload_n 3, 1, 0, 0, 0, 0), (74, .ifCond .eq 12, 3, 0, 0, 0, 0), (77, .iload_n 2, 1, 0, 0, 0, 0), (78, .iconst 2, 1, 0, 0, 0, 0), (79, .if_icmp .ne 7, 3, 0, 0, 0, 0), (82, .iconst 1, 1, 0, 0, 0, 0), (83, .goto 4, 3, 0, 0, 0, 0), (86, .iconst 0, 1, 0, 0, 0, 0), (87, .bastore, 1, 0, 0, 0, 0), (88, .iload 4, 2, 0, 0, 0, 0), (90, .ireturn, 1, 0, 0, 0, 0)]
/-- LikeTales.wider(II)I -/
def kX9_wider : List (Nat × jO) := [(0, .iload_n 1, 1, 0, 0, 0, 0), (1, .invokestatic 100, 3, 29, 1, 2, 0), (4, .ifCond .eq 15, 3, 0, 0, 0, 0), (7, .iload_n 2, 1, 0, 0, 0, 0), (8, .iconst (-1), 1, 0, 0, 0, 0), (9, .if_icmp .eq 12, 3, 0, 0, 0, 0), (12, .iload_n 2, 1, 0, 0, 0, 0), (13, .invokestatic 100, 3, 29, 1, 2, 0), (16, .ifCond .ne 5, 3, 0, 0, 0, 0), (19, .iconst (-1), 1, 0, 0, 0, 0), (20, .ireturn, 1, 0, 0, 0, 0), (21, .aload_n 0, 1, 0, 0, 0, 0), (22, .iload_n 1, 1, 0, 0, 0, 0), (23, .invokevirtual 104, 3, 36, 2, 0, 1), (26, .ifCond .eq 6, 3, 0, 0, 0, 0), (29, .bipush (-3), 2, 0, 0, 0, 0), (31, .ireturn, 1, 0, 0, 0, 0), (32, .iload_n 2, 1, 0, 0, 0, 0), (33, .iconst (-1), 1, 0, 0, 0, 0), (34, .if_icmp .eq 18, 3, 0, 0, 0, 0), (37, .aload_n 0, 1, 0, 0, 0, 0), (38, .getfield 42, 3, 9, 0, 1, 0), (41, .iload_n 2, 1, 0, 0, 0, 0), (42, .iload_n 1, 1, 0, 0, 0, 0), (43, .invokevirtual 117, 3, 135, 3, 0, 3), (46, .ifCond .ne 6, 3, 0, 0, 0, 0), (49, .bipush (-5), 2, 0, 0, 0, 0), (51, .ireturn, 1, 0, 0, 0, 0), (52, .aload_n 0, 1, 0, 0, 0, 0), (53, .getfield 42, 3, 9, 0, 1, 0), (56, .getfield 121, 3, 3, 2, 1, 3), (59, .iload_n 1, 1, 0, 0, 0, 0), (60, .iaload, 1, 0, 0, 0, 0), (61, .istore_n 3, 1, 0, 0, 0, 0), (62, .aload_n 0, 1, 0, 0, 0, 0), (63, .getfield 42, 3, 9, 0, 1, 0), (66, .getfield 121, 3, 3, 2, 1, 3), (69, .iload_n 1, 1, 0, 0, 0, 0), (70, .iload_n 2, 1, 0, 0, 0, 0), (71, .iastore, 1, 0, 0, 0, 0), (72, .iload_n 3, 1, 0, 0, 0, 0), (73, .invokestatic 124, 3, 33, 1, 2, 4), (76, .ireturn, 1, 0, 0, 0, 0)]
/-- LikeTales.opposite(II)I -/
def kX9_opposite : List (Nat × jO) := [(0, .iload_n 1, 1, 0, 0, 0, 0), (1, .invokestatic 100, 3, 29, 1, 2, 0), (4, .ifCond .eq 10, 3, 0, 0, 0, 0), (7, .iload_n 2, 1, 0, 0, 0, 0), (8, .invokestatic 100, 3, 29, 1, 2, 0), (11, .ifCond .ne 5, 3, 0, 0, 0, 0), (14, .iconst (-1), 1, 0, 0, 0, 0), (15, .ireturn, 1, 0, 0, 0, 0), (16, .aload_n 0, 1, 0, 0, 0, 0), (17, .getfield 42, 3, 9, 0, 1, 0), (20, .getfield 110, 3, 3, 0, 1, 1), (23, .iload_n 1, 1, 0, 0, 0, 0), (24, .iaload, 1, 0, 0, 0, 0), (25, .aload_n 0, 1, 0, 0, 0, 0), (26, .getfield 42, 3, 9, 0, 1, 0), (29, .getfield 110, 3, 3, 0, 1, 1), (32, .iload_n 2, 1, 0, 0, 0, 0), (33, .iaload, 1, 0, 0, 0, 0), (34, .if_icmp .eq 6, 3, 0, 0, 0, 0), (37, .bipush (-5), 2, 0, 0, 0, 0), (39, .ireturn, 1, 0, 0, 0, 0), (40, .aload_n 0, 1, 0, 0, 0, 0), (41, .getfield 42, 3, 9, 0, 1, 0), (44, .iload_n 1, 1, 0, 0, 0, 0), (45, .iload_n 2, 1, 0, 0, 0, 0), (46, .invokevirtual 128, 3, 136, 3, 1, 5), (49, .iconst 1, 1, 0, 0, 0, 0), (50, .ireturn, 1, 0, 0, 0, 0)]
/-- LikeTales.ofKind(II)I -/
def kX9_ofKind : List (Nat × jO) := [(0, .iload_n 1, 1, 0, 0, 0, 0), (1, .invokestatic 100, 3, 29, 1, 2, 0), (4, .ifCond .ne 5, 3, 0, 0, 0, 0), (7, .iconst (-1), 1, 0, 0, 0, 0), (8, .ireturn, 1, 0, 0, 0, 0), (9, .iload_n 2, 1, 0, 0, 0, 0), (10, .tableswitch 94 0 4 #[34, 44, 62, 75, 88], 34, 0, 0, 0, 0), (44, .aload_n 0, 1, 0, 0, 0, 0), (45, .getfield 42, 3, 9, 0, 1, 0), (48, .getfield 110, 3, 3, 0, 1, 1), (51, .iload_n 1, 1, 0, 0, 0, 0), (52, .iaload, 1, 0, 0, 0, 0), (53, .ireturn, 1, 0, 0, 0, 0), (54, .aload_n 0, 1, 0, 0, 0, 0), (55, .getfield 42, 3, 9, 0, 1, 0), (58, .getfield 113, 3, 3, 1, 1, 2), (61, .iload_n 1, 1, 0, 0, 0, 0), (62, .baload, 1, 0, 0, 0, 0), (63, .ifCond .eq 7, 3, 0, 0, 0, 0), (66, .iconst 1, 1, 0, 0, 0, 0), (67, .goto 4, 3, 0, 0, 0, 0), (70, .iconst 0, 1, 0, 0, 0, 0), (71, .ireturn, 1, 0, 0, 0, 0), (72, .aload_n 0, 1, 0, 0, 0, 0), (73, .getfield 42, 3, 9, 0, 1, 0), (76, .getfield 121, 3, 3, 2, 1, 3), (79, .iload_n 1, 1, 0, 0, 0, 0), (80, .iaload, 1, 0, 0, 0, 0), (81, .invokestatic 124, 3, 33, 1, 2, 4), (84, .ireturn, 1, 0, 0, 0, 0), (85, .aload_n 0, 1, 0, 0, 0, 0), (86, .getfield 42, 3, 9, 0, 1, 0), (89, .getfield 132, 3, 3, 3, 1, 4), (92, .iload_n 1, 1, 0, 0, 0, 0), (93, .iaload, 1, 0, 0, 0, 0), (94, .invokestatic 124, 3, 33, 1, 2, 4), (97, .ireturn, 1, 0, 0, 0, 0), (98, .aload_n 0, 1, 0, 0, 0, 0), (99, .iload_n 1, 1, 0, 0, 0, 0), (100, .invokevirtual 135, 3, 35, 2, 0, 6), (103, .ireturn, 1, 0, 0, 0, 0), (104, .bipush (-2), 2, 0, 0, 0, 0), (106, .ireturn, 1, 0, 0, 0, 0)]
/-- LikeTales.alike(II)I -/
def kX9_alike : List (Nat × jO) := [(0, .iload_n 1, 1, 0, 0, 0, 0), (1, .invokestatic 100, 3, 29, 1, 2, 0), (4, .ifCond .eq 10, 3, 0, 0, 0, 0), (7, .iload_n 2, 1, 0, 0, 0, 0), (8, .invokestatic 100, 3, 29, 1, 2, 0), (11, .ifCond .ne 5, 3, 0, 0, 0, 0), (14, .iconst (-1), 1, 0, 0, 0, 0), (15, .ireturn, 1, 0, 0, 0, 0), (16, .aload_n 0, 1, 0, 0, 0, 0), (17, .getfield 42, 3, 9, 0, 1, 0), (20, .iload_n 1, 1, 0, 0, 0, 0), (21, .iload_n 2, 1, 0, 0, 0, 0), (22, .invokevirtual 138, 3, 139, 3, 0, 7), (25, .invokestatic 124, 3, 33, 1, 2, 4), (28, .ireturn, 1, 0, 0, 0, 0)]
/-- LikeTales.timed(I)I -/
def kX9_timed : List (Nat × jO) := [(0, .iload_n 1, 1, 0, 0, 0, 0), (1, .ifCond .eq 11, 3, 0, 0, 0, 0), (4, .iload_n 1, 1, 0, 0, 0, 0), (5, .iconst 1, 1, 0, 0, 0, 0), (6, .if_icmp .eq 6, 3, 0, 0, 0, 0), (9, .bipush (-2), 2, 0, 0, 0, 0), (11, .ireturn, 1, 0, 0, 0, 0), (12, .aload_n 0, 1, 0, 0, 0, 0), (13, .getfield 9, 3, 9, 8, 4, 5), (16, .ifCond .eq 7, 3, 0, 0, 0, 0), (19, .iconst 1, 1, 0, 0, 0, 0), (20, .goto 4, 3, 0, 0, 0, 0), (23, .iconst 0, 1, 0, 0, 0, 0), (24, .istore_n 2, 1, 0, 0, 0, 0), (25, .aload_n 0, 1, 0, 0, 0, 0), (26, .iload_n 1, 1, 0, 0, 0, 0), (27, .iconst 1, 1, 0, 0, 0, 0), (28, .if_icmp .ne 7, 3, 0, 0, 0, 0), (31, .iconst 1, 1, 0, 0, 0, 0), (32, .goto 4, 3, 0, 0, 0, 0), (35, .iconst 0, 1, 0, 0, 0, 0), (36, .putfield 9, 3, 9, 8, 4, 5), (39, .iload_n 2, 1, 0, 0, 0, 0), (40, .ireturn, 1, 0, 0, 0, 0)]
/-- LikeTales.tale(II)I -/
def kX9_tale : List (Nat × jO) := [(0, .iload_n 1, 1, 0, 0, 0, 0), (1, .invokestatic 142, 3, 30, 1, 2, 8), (4, .ifCond .ne 5, 3, 0, 0, 0, 0), (7, .iconst (-1), 1, 0, 0, 0, 0), (8, .ireturn, 1, 0, 0, 0, 0), (9, .iload_n 2, 1, 0, 0, 0, 0), (10, .ifCond .lt 9, 3, 0, 0, 0, 0), (13, .iload_n 2, 1, 0, 0, 0, 0), (14, .bipush 6, 2, 0, 0, 0, 0), (16, .if_icmp .le 6, 3, 0, 0, 0, 0), (19, .bipush (-2), 2, 0, 0, 0, 0), (21, .ireturn, 1, 0, 0, 0, 0), (22, .aload_n 0, 1, 0, 0, 0, 0), (23, .getfield 46, 3, 9, 1, 1, 6), (26, .iload_n 1, 1, 0, 0, 0, 0), (27, .aaload, 1, 0, 0, 0, 0), (28, .iload_n 2, 1, 0, 0, 0, 0), (29, .invokevirtual 145, 3, 140, 2, 1, 9), (32, .iconst 1, 1, 0, 0, 0, 0), (33, .ireturn, 1, 0, 0, 0, 0)]
/-- LikeTales.sort(III)I -/
def kX9_sort : List (Nat × jO) := [(0, .iload_n 1, 1, 0, 0, 0, 0), (1, .invokestatic 142, 3, 30, 1, 2, 8), (4, .ifCond .eq 20, 3, 0, 0, 0, 0), (7, .iload_n 2, 1, 0, 0, 0, 0), (8, .ifCond .lt 16, 3, 0, 0, 0, 0), (11, .iload_n 2, 1, 0, 0, 0, 0), (12, .aload_n 0, 1, 0, 0, 0, 0), (13, .getfield 46, 3, 9, 1, 1, 6), (16, .iload_n 1, 1, 0, 0, 0, 0), (17, .aaload, 1, 0, 0, 0, 0), (18, .getfield 149, 3, 4, 0, 0, 7), (21, .if_icmp .lt 5, 3, 0, 0, 0, 0), (24, .iconst (-1), 1, 0, 0, 0, 0), (25, .ireturn, 1, 0, 0, 0, 0), (26, .iload_n 3, 1, 0, 0, 0, 0), (27, .invokestatic 152, 3, 32, 1, 2, 10), (30, .ifCond .ne 6, 3, 0, 0, 0, 0), (33, .bipush (-2), 2, 0, 0, 0, 0), (35, .ireturn, 1, 0, 0, 0, 0), (36, .aload_n 0, 1, 0, 0, 0, 0), (37, .getfield 46, 3, 9, 1, 1, 6), (40, .iload_n 1, 1, 0, 0, 0, 0), (41, .aaload, 1, 0, 0, 0, 0), (42, .getfield 155, 3, 4, 3, 1, 8), (45, .iload_n 2, 1, 0, 0, 0, 0), (46, .iaload, 1, 0, 0, 0, 0), (47, .istore 4, 2, 0, 0, 0, 0), (49, .aload_n 0, 1, 0, 0, 0, 0), (50, .getfield 46, 3, 9, 1, 1, 6), (53, .iload_n 1, 1, 0, 0, 0, 0), (54, .aaload, 1, 0, 0, 0, 0), (55, .getfield 155, 3, 4, 3, 1, 8), (58, .iload_n 2, 1, 0, 0, 0, 0), (59, .iload_n 3, 1, 0, 0, 0, 0), (60, .iastore, 1, 0, 0, 0, 0), (61, .iload 4, 2, 0, 0, 0, 0), (63, .ireturn, 1, 0, 0, 0, 0)]
/-- LikeTales.label(II)I -/
def kX9_label : List (Nat × jO) := [(0, .iload_n 1, 1, 0, 0, 0, 0), (1, .invokestatic 142, 3, 30, 1, 2, 8), (4, .ifCond .ne 5, 3, 0, 0, 0, 0), (7, .iconst (-1), 1, 0, 0, 0, 0), (8, .ireturn, 1, 0, 0, 0, 0), (9, .iload_n 2, 1, 0, 0, 0, 0), (10, .invokestatic 152, 3, 32, 1, 2, 10), (13, .ifCond .ne 6, 3, 0, 0, 0, 0), (16, .bipush (-2), 2, 0, 0, 0, 0), (18, .ireturn, 1, 0, 0, 0, 0), (19, .aload_n 0, 1, 0, 0, 0, 0), (20, .getfield 46, 3, 9, 1, 1, 6), (23, .iload_n 1, 1, 0, 0, 0, 0), (24, .aaload, 1, 0, 0, 0, 0), (25, .getfield 158, 3, 4, 2, 0, 9), (28, .istore_n 3, 1, 0, 0, 0, 0), (29, .aload_n 0, 1, 0, 0, 0, 0), (30, .getfield 46, 3, 9, 1, 1, 6), (33, .iload_n 1, 1, 0, 0, 0, 0), (34, .aaload, 1, 0, 0, 0, 0), (35, .iload_n 2, 1, 0, 0, 0, 0), (36, .putfield 158, 3, 4, 2, 0, 9), (39, .iload_n 3, 1, 0, 0, 0, 0), (40, .ireturn, 1, 0, 0, 0, 0)]
/-- LikeTales.tie(IIIIII)I -/
def kX9_tie : List (Nat × jO) := [(0, .iload_n 1, 1, 0, 0, 0, 0), (1, .invokestatic 142, 3, 30, 1, 2, 8), (4, .ifCond .eq 10, 3, 0, 0, 0, 0), (7, .iload_n 2, 1, 0, 0, 0, 0), (8, .invokestatic 100, 3, 29, 1, 2, 0), (11, .ifCond .ne 5, 3, 0, 0, 0, 0), (14, .iconst (-1), 1, 0, 0, 0, 0), (15, .ireturn, 1, 0, 0, 0, 0), (16, .aload_n 0, 1, 0, 0, 0, 0), (17, .getfield 46, 3, 9, 1, 1, 6), (20, .iload_n 1, 1, 0, 0, 0, 0), (21, .aaload, 1, 0, 0, 0, 0), (22, .astore 7, 2, 0, 0, 0, 0), (24, .iload 6, 2, 0, 0, 0, 0), (26, .iconst (-1), 1, 0, 0, 0, 0), (27, .if_icmp .eq 11, 3, 0, 0, 0, 0), (30, .iload 6, 2, 0, 0, 0, 0), (32, .invokestatic 152, 3, 32, 1, 2, 10), (35, .ifCond .eq 7, 3, 0, 0, 0, 0), (38, .iconst 1, 1, 0, 0, 0, 0), (39, .goto 4, 3, 0, 0, 0, 0), (42, .iconst 0, 1, 0, 0, 0, 0), (43, .istore 8, 2, 0, 0, 0, 0), (45, .iload 8, 2, 0, 0, 0, 0), (47, .ifCond .eq 25, 3, 0, 0, 0, 0), (50, .aload 7, 2, 0, 0, 0, 0), (52, .aload_n 0, 1, 0, 0, 0, 0), (53, .getfield 42, 3, 9, 0, 1, 0), (56, .getfield 110, 3, 3, 0, 1, 1), (59, .iload_n 2, 1, 0, 0, 0, 0), (60, .iaload, 1, 0, 0, 0, 0), (61, .iload_n 3, 1, 0, 0, 0, 0), (62, .iload 4, 2, 0, 0, 0, 0), (64, .iload 5, 2, 0, 0, 0, 0), (66, .invokevirtual 161, 3, 142, 5, 0, 11), (69, .ifCond .ne 6, 3, 0, 0, 0, 0), (72, .bipush (-2), 2, 0, 0, 0, 0), (74, .ireturn, 1, 0, 0, 0, 0), (75, .aload 7, 2, 0, 0, 0, 0), (77, .getfield 165, 3, 4, 1, 0, 10), (80, .bipush 14, 2, 0, 0, 0, 0), (82, .if_icmp .lt 6, 3, 0, 0, 0, 0), (85, .bipush (-4), 2, 0, 0, 0, 0), (87, .ireturn, 1, 0, 0, 0, 0), (88, .aload 7, 2, 0, 0, 0, 0), (90, .aload_n 0, 1, 0, 0, 0, 0), (91, .getfield 42, 3, 9, 0, 1, 0), (94, .iload_n 2, 1, 0, 0, 0, 0), (95, .iload_n 3, 1, 0, 0, 0, 0), (96, .iload 4, 2, 0, 0, 0, 0), (98, .iload 5, 2, 0, 0, 0, 0), (100, .invokevirtual 168, 3, 144, 6, 0, 12), (103, .iconst (-1), 1, 0, 0, 0, 0), (104, .if_icmp .eq 6, 3, 0, 0, 0, 0), (107, .bipush (-5), 2, 0, 0, 0, 0), (109, .ireturn, 1, 0, 0, 0, 0), (110, .aload 7, 2, 0, 0, 0, 0), (112, .iload_n 2, 1, 0, 0, 0, 0), (113, .iload_n 3, 1, 0, 0, 0, 0), (114, .iload 4, 2, 0, 0, 0, 0), (116, .iload 5, 2, 0, 0, 0, 0), (118, .iload 6, 2, 0, 0, 0, 0), (120, .invokevirtual 172, 3, 145, 6, 0, 13), (123, .ireturn, 1, 0, 0, 0, 0)]
/-- LikeTales.ofTie(III)I -/
def kX9_ofTie : List (Nat × jO) := [(0, .iload_n 1, 1, 0, 0, 0, 0), (1, .invokestatic 142, 3, 30, 1, 2, 8), (4, .ifCond .eq 20, 3, 0, 0, 0, 0), (7, .iload_n 2, 1, 0, 0, 0, 0), (8, .ifCond .lt 16, 3, 0, 0, 0, 0), (11, .iload_n 2, 1, 0, 0, 0, 0), (12, .aload_n 0, 1, 0, 0, 0, 0), (13, .getfield 46, 3, 9, 1, 1, 6), (16, .iload_n 1, 1, 0, 0, 0, 0), (17, .aaload, 1, 0, 0, 0, 0), (18, .getfield 165, 3, 4, 1, 0, 10), (21, .if_icmp .lt 5, 3, 0, 0, 0, 0), (24, .iconst (-1), 1, 0, 0, 0, 0), (25, .ireturn, 1, 0, 0, 0, 0), (26, .aload_n 0, 1, 0, 0, 0, 0), (27, .getfield 46, 3, 9, 1, 1, 6), (30, .iload_n 1, 1, 0, 0, 0, 0), (31, .aaload, 1, 0, 0, 0, 0), (32, .astore 4, 2, 0, 0, 0, 0), (34, .iload_n 3, 1, 0, 0, 0, 0), (35, .tableswitch 78 0 5 #[37, 45, 45, 45, 62, 70], 37, 0, 0, 0, 0), (72, .aload 4, 2, 0, 0, 0, 0), (74, .getfield 176, 3, 4, 4, 1, 11), (77, .iload_n 2, 1, 0, 0, 0, 0), (78, .iaload, 1, 0, 0, 0, 0), (79, .ireturn, 1, 0, 0, 0, 0), (80, .aload 4, 2, 0, 0, 0, 0), (82, .getfield 179, 3, 4, 5, 1, 12), (85, .iload_n 2, 1, 0, 0, 0, 0), (86, .iconst 3, 1, 0, 0, 0, 0), (87, .imul, 1, 0, 0, 0, 0), (88, .iload_n 3, 1, 0, 0, 0, 0), (89, .iadd, 1, 0, 0, 0, 0), (90, .iconst 1, 1, 0, 0, 0, 0), (91, .isub, 1, 0, 0, 0, 0), (92, .iaload, 1, 0, 0, 0, 0), (93, .invokestatic 124, 3, 33, 1, 2, 4), (96, .ireturn, 1, 0, 0, 0, 0), (97, .aload 4, 2, 0, 0, 0, 0), (99, .getfield 180, 3, 4, 6, 1, 13), (102, .iload_n 2, 1, 0, 0, 0, 0), (103, .iaload, 1, 0, 0, 0, 0), (104, .ireturn, 1, 0, 0, 0, 0), (105, .aload 4, 2, 0, 0, 0, 0), (107, .getfield 183, 3, 4, 7, 1, 14), (110, .iload_n 2, 1, 0, 0, 0, 0), (111, .iaload, 1, 0, 0, 0, 0), (112, .ireturn, 1, 0, 0, 0, 0), (113, .bipush (-2), 2, 0, 0, 0, 0), (115, .ireturn, 1, 0, 0, 0, 0)]
/-- LikeTales.ofTale(II)I -/
def kX9_ofTale : List (Nat × jO) := [(0, .iload_n 1, 1, 0, 0, 0, 0), (1, .invokestatic 142, 3, 30, 1, 2, 8), (4, .ifCond .ne 5, 3, 0, 0, 0, 0), (7, .iconst (-1), 1, 0, 0, 0, 0), (8, .ireturn, 1, 0, 0, 0, 0), (9, .aload_n 0, 1, 0, 0, 0, 0), (10, .getfield 46, 3, 9, 1, 1, 6), (13, .iload_n 1, 1, 0, 0, 0, 0), (14, .aaload, 1, 0, 0, 0, 0), (15, .astore_n 3, 1, 0, 0, 0, 0), (16, .iload_n 2, 1, 0, 0, 0, 0), (17, .bipush 10, 2, 0, 0, 0, 0), (19, .if_icmp .lt 34, 3, 0, 0, 0, 0), (22, .iload_n 2, 1, 0, 0, 0, 0), (23, .bipush 16, 2, 0, 0, 0, 0), (25, .if_icmp .ge 28, 3, 0, 0, 0, 0), (28, .iload_n 2, 1, 0, 0, 0, 0), (29, .bipush 10, 2, 0, 0, 0, 0), (31, .isub, 1, 0, 0, 0, 0), (32, .aload_n 3, 1, 0, 0, 0, 0), (33, .getfield 149, 3, 4, 0, 0, 7), (36, .if_icmp .ge 15, 3, 0, 0, 0, 0), (39, .aload_n 3, 1, 0, 0, 0, 0), (40, .getfield 155, 3, 4, 3, 1, 8), (43, .iload_n 2, 1, 0, 0, 0, 0), (44, .bipush 10, 2, 0, 0, 0, 0), (46, .isub, 1, 0, 0, 0, 0), (47, .iaload, 1, 0, 0, 0, 0), (48, .goto 4, 3, 0, 0, 0, 0), (51, .iconst (-1), 1, 0, 0, 0, 0), (52, .ireturn, 1, 0, 0, 0, 0), (53, .iload_n 2, 1, 0, 0, 0, 0), (54, .tableswitch 50 0 3 #[30, 35, 40, 45], 30, 0, 0, 0, 0), (84, .aload_n 3, 1, 0, 0, 0, 0), (85, .getfield 149, 3, 4, 0, 0, 7), (88, .ireturn, 1, 0, 0, 0, 0), (89, .aload_n 3, 1, 0, 0, 0, 0), (90, .getfield 165, 3, 4, 1, 0, 10), (93, .ireturn, 1, 0, 0, 0, 0), (94, .aload_n 3, 1, 0, 0, 0, 0), (95, .getfield 158, 3, 4, 2, 0, 9), (98, .ireturn, 1, 0, 0, 0, 0), (99, .aload_n 3, 1, 0, 0, 0, 0), (100, .invokevirtual 186, 3, 147, 1, 0, 14), (103, .ireturn, 1, 0, 0, 0, 0), (104, .bipush (-2), 2, 0, 0, 0, 0), (106, .ireturn, 1, 0, 0, 0, 0)]
/-- LikeTales.copy(II)I -/
def kX9_copy : List (Nat × jO) := [(0, .iload_n 1, 1, 0, 0, 0, 0), (1, .invokestatic 142, 3, 30, 1, 2, 8), (4, .ifCond .eq 10, 3, 0, 0, 0, 0), (7, .iload_n 2, 1, 0, 0, 0, 0), (8, .invokestatic 142, 3, 30, 1, 2, 8), (11, .ifCond .ne 5, 3, 0, 0, 0, 0), (14, .iconst (-1), 1, 0, 0, 0, 0), (15, .ireturn, 1, 0, 0, 0, 0), (16, .aload_n 0, 1, 0, 0, 0, 0), (17, .getfield 46, 3, 9, 1, 1, 6), (20, .iload_n 2, 1, 0, 0, 0, 0), (21, .aaload, 1, 0, 0, 0, 0), (22, .aload_n 0, 1, 0, 0, 0, 0), (23, .getfield 46, 3, 9, 1, 1, 6), (26, .iload_n 1, 1, 0, 0, 0, 0), (27, .aaload, 1, 0, 0, 0, 0), (28, .invokevirtual 190, 3, 141, 2, 1, 15), (31, .aload_n 0, 1, 0, 0, 0, 0), (32, .getfield 46, 3, 9, 1, 1, 6), (35, .iload_n 2, 1, 0, 0, 0, 0), (36, .aaload, 1, 0, 0, 0, 0), (37, .getfield 165, 3, 4, 1, 0, 10), (40, .ireturn, 1, 0, 0, 0, 0)]
/-- LikeTales.like(III)I -/
def kX9_like : List (Nat × jO) := [(0, .iload_n 1, 1, 0, 0, 0, 0), (1, .iload_n 2, 1, 0, 0, 0, 0), (2, .iload_n 3, 1, 0, 0, 0, 0), (3, .invokestatic 194, 3, 34, 3, 2, 16), (6, .istore 4, 2, 0, 0, 0, 0), (8, .iload 4, 2, 0, 0, 0, 0), (10, .ifCond .eq 6, 3, 0, 0, 0, 0), (13, .iload 4, 2, 0, 0, 0, 0), (15, .ireturn, 1, 0, 0, 0, 0), (16, .aload_n 0, 1, 0, 0, 0, 0), (17, .getfield 58, 3, 9, 4, 1, 15), (20, .aload_n 0, 1, 0, 0, 0, 0), (21, .getfield 46, 3, 9, 1, 1, 6), (24, .iload_n 1, 1, 0, 0, 0, 0), (25, .aaload, 1, 0, 0, 0, 0), (26, .aload_n 0, 1, 0, 0, 0, 0), (27, .getfield 46, 3, 9, 1, 1, 6), (30, .iload_n 2, 1, 0, 0, 0, 0), (31, .aaload, 1, 0, 0, 0, 0), (32, .iload_n 3, 1, 0, 0, 0, 0), (33, .aload_n 0, 1, 0, 0, 0, 0), (34, .getfield 9, 3, 9, 8, 4, 5), (37, .invokevirtual 198, 3, 131, 5, 1, 17), (40, .aload_n 0, 1, 0, 0, 0, 0), (41, .getfield 54, 3, 9, 3, 1, 16), (44, .aload_n 0, 1, 0, 0, 0, 0), (45, .getfield 58, 3, 9, 4, 1, 15), (48, .getfield 64, 3, 2, 3, 1, 17), (51, .aload_n 0, 1, 0, 0, 0, 0), (52, .getfield 58, 3, 9, 4, 1, 15), (55, .getfield 202, 3, 2, 4, 1, 18), (58, .iload_n 3, 1, 0, 0, 0, 0), (59, .aload_n 0, 1, 0, 0, 0, 0), (60, .getfield 9, 3, 9, 8, 4, 5), (63, .invokevirtual 205, 3, 150, 5, 0, 18), (66, .istore 5, 2, 0, 0, 0, 0), (68, .aload_n 0, 1, 0, 0, 0, 0), (69, .getfield 58, 3, 9, 4, 1, 15), (72, .aload_n 0, 1, 0, 0, 0, 0), (73, .getfield 50, 3, 9, 2, 1, 19), (76, .getfield 68, 3, 0, 5, 1, 20), (79, .aload_n 0, 1, 0, 0, 0, 0), (80, .getfield 50, 3, 9, 2, 1, 19), (83, .getfield 72, 3, 0, 6, 1, 21), (86, .invokevirtual 209, 3, 132, 3, 1, 19), (89, .iload 5, 2, 0, 0, 0, 0), (91, .ireturn, 1, 0, 0, 0, 0)]
/-- LikeTales.partner(I)I -/
def kX9_partner : List (Nat × jO) := [(0, .aload_n 0, 1, 0, 0, 0, 0), (1, .getfield 58, 3, 9, 4, 1, 15), (4, .getfield 213, 3, 2, 0, 4, 22), (7, .ifCond .ne 6, 3, 0, 0, 0, 0), (10, .bipush (-3), 2, 0, 0, 0, 0), (12, .ireturn, 1, 0, 0, 0, 0), (13, .iload_n 1, 1, 0, 0, 0, 0), (14, .ifCond .lt 17, 3, 0, 0, 0, 0), (17, .iload_n 1, 1, 0, 0, 0, 0), (18, .aload_n 0, 1, 0, 0, 0, 0), (19, .getfield 58, 3, 9, 4, 1, 15), (22, .getfield 64, 3, 2, 3, 1, 17), (25, .getfield 149, 3, 4, 0, 0, 7), (28, .if_icmp .lt 5, 3, 0, 0, 0, 0), (31, .iconst (-1), 1, 0, 0, 0, 0), (32, .ireturn, 1, 0, 0, 0, 0), (33, .aload_n 0, 1, 0, 0, 0, 0), (34, .getfield 58, 3, 9, 4, 1, 15), (37, .getfield 216, 3, 2, 5, 1, 23), (40, .iload_n 1, 1, 0, 0, 0, 0), (41, .iaload, 1, 0, 0, 0, 0), (42, .invokestatic 124, 3, 33, 1, 2, 4), (45, .ireturn, 1, 0, 0, 0, 0)]
/-- LikeTales.answer(I)I -/
def kX9_answer : List (Nat × jO) := [(0, .aload_n 0, 1, 0, 0, 0, 0), (1, .getfield 58, 3, 9, 4, 1, 15), (4, .getfield 213, 3, 2, 0, 4, 22), (7, .ifCond .ne 6, 3, 0, 0, 0, 0), (10, .bipush (-3), 2, 0, 0, 0, 0), (12, .ireturn, 1, 0, 0, 0, 0), (13, .iload_n 1, 1, 0, 0, 0, 0), (14, .ifCond .lt 17, 3, 0, 0, 0, 0), (17, .iload_n 1, 1, 0, 0, 0, 0), (18, .aload_n 0, 1, 0, 0, 0, 0), (19, .getfield 58, 3, 9, 4, 1, 15), (22, .getfield 64, 3, 2, 3, 1, 17), (25, .getfield 165, 3, 4, 1, 0, 10), (28, .if_icmp .lt 5, 3, 0, 0, 0, 0), (31, .iconst (-1), 1, 0, 0, 0, 0), (32, .ireturn, 1, 0, 0, 0, 0), (33, .aload_n 0, 1, 0, 0, 0, 0), (34, .getfield 58, 3, 9, 4, 1, 15), (37, .getfield 217, 3, 2, 6, 1, 24), (40, .iload_n 1, 1, 0, 0, 0, 0), (41, .iaload, 1, 0, 0, 0, 0), (42, .invokestatic 124, 3, 33, 1, 2, 4), (45, .ireturn, 1, 0, 0, 0, 0)]
/-- LikeTales.likes(IIII)I -/
def kX9_likes : List (Nat × jO) := [(0, .iload_n 1, 1, 0, 0, 0, 0), (1, .iload_n 2, 1, 0, 0, 0, 0), (2, .iload_n 3, 1, 0, 0, 0, 0), (3, .invokestatic 194, 3, 34, 3, 2, 16), (6, .istore 5, 2, 0, 0, 0, 0), (8, .iload 5, 2, 0, 0, 0, 0), (10, .ifCond .eq 6, 3, 0, 0, 0, 0), (13, .iload 5, 2, 0, 0, 0, 0), (15, .ireturn, 1, 0, 0, 0, 0), (16, .iload 4, 2, 0, 0, 0, 0), (18, .iconst (-1), 1, 0, 0, 0, 0), (19, .if_icmp .ge 6, 3, 0, 0, 0, 0), (22, .bipush (-6), 2, 0, 0, 0, 0), (24, .ireturn, 1, 0, 0, 0, 0), (25, .aload_n 0, 1, 0, 0, 0, 0), (26, .getfield 54, 3, 9, 3, 1, 16), (29, .aload_n 0, 1, 0, 0, 0, 0), (30, .getfield 46, 3, 9, 1, 1, 6), (33, .iload_n 1, 1, 0, 0, 0, 0), (34, .aaload, 1, 0, 0, 0, 0), (35, .aload_n 0, 1, 0, 0, 0, 0), (36, .getfield 46, 3, 9, 1, 1, 6), (39, .iload_n 2, 1, 0, 0, 0, 0), (40, .aaload, 1, 0, 0, 0, 0), (41, .iload_n 3, 1, 0, 0, 0, 0), (42, .aload_n 0, 1, 0, 0, 0, 0), (43, .getfield 9, 3, 9, 8, 4, 5), (46, .invokevirtual 205, 3, 150, 5, 0, 18), (49, .pop, 1, 0, 0, 0, 0), (50, .aload_n 0, 1, 0, 0, 0, 0), (51, .getfield 54, 3, 9, 3, 1, 16), (54, .iload 4, 2, 0, 0, 0, 0), (56, .invokevirtual 218, 3, 151, 2, 0, 20), (59, .istore 6, 2, 0, 0, 0, 0), (61, .iload 4, 2, 0, 0, 0, 0), (63, .iconst (-1), 1, 0, 0, 0, 0), (64, .if_icmp .ne 6, 3, 0, 0, 0, 0), (67, .iload 6, 2, 0, 0, 0, 0), (69, .ireturn, 1, 0, 0, 0, 0), (70, .iload 4, 2, 0, 0, 0, 0), (72, .iload 6, 2, 0, 0, 0, 0), (74, .if_icmp .ge 13, 3, 0, 0, 0, 0), (77, .aload_n 0, 1, 0, 0, 0, 0), (78, .getfield 54, 3, 9, 3, 1, 16), (81, .invokevirtual 221, 3, 152, 1, 0, 21), (84, .goto 5, 3, 0, 0, 0, 0), (87, .bipush (-6), 2, 0, 0, 0, 0), (89, .ireturn, 1, 0, 0, 0, 0)]
/-- LikeTales.worth(IIII)I -/
def kX9_worth : List (Nat × jO) := [(0, .iload_n 1, 1, 0, 0, 0, 0), (1, .iload_n 2, 1, 0, 0, 0, 0), (2, .iload_n 3, 1, 0, 0, 0, 0), (3, .invokestatic 194, 3, 34, 3, 2, 16), (6, .istore 5, 2, 0, 0, 0, 0), (8, .iload 5, 2, 0, 0, 0, 0), (10, .ifCond .eq 6, 3, 0, 0, 0, 0), (13, .iload 5, 2, 0, 0, 0, 0), (15, .ireturn, 1, 0, 0, 0, 0), (16, .aload_n 0, 1, 0, 0, 0, 0), (17, .getfield 50, 3, 9, 2, 1, 19), (20, .aload_n 0, 1, 0, 0, 0, 0), (21, .getfield 46, 3, 9, 1, 1, 6), (24, .iload_n 1, 1, 0, 0, 0, 0), (25, .aaload, 1, 0, 0, 0, 0), (26, .aload_n 0, 1, 0, 0, 0, 0), (27, .getfield 46, 3, 9, 1, 1, 6), (30, .iload_n 2, 1, 0, 0, 0, 0), (31, .aaload, 1, 0, 0, 0, 0), (32, .iload_n 3, 1, 0, 0, 0, 0), (33, .aload_n 0, 1, 0, 0, 0, 0), (34, .getfield 9, 3, 9, 8, 4, 5), (37, .iconst 0, 1, 0, 0, 0, 0), (38, .invokevirtual 224, 3, 111, 6, 1, 22), (41, .aload_n 0, 1, 0, 0, 0, 0), (42, .getfield 50, 3, 9, 2, 1, 19), (45, .iload 4, 2, 0, 0, 0, 0), (47, .invokevirtual 227, 3, 114, 2, 0, 23), (50, .ifCond .ne 6, 3, 0, 0, 0, 0), (53, .bipush (-2), 2, 0, 0, 0, 0), (55, .ireturn, 1, 0, 0, 0, 0), (56, .aload_n 0, 1, 0, 0, 0, 0), (57, .getfield 50, 3, 9, 2, 1, 19), (60, .invokevirtual 230, 3, 115, 1, 0, 24), (63, .aload_n 0, 1, 0, 0, 0, 0), (64, .getfield 50, 3, 9, 2, 1, 19), (67, .invokevirtual 233, 3, 123, 1, 0, 25), (70, .iadd, 1, 0, 0, 0, 0), (71, .ireturn, 1, 0, 0, 0, 0)]
/-- LikeTales.same(II)I -/
def kX9_same : List (Nat × jO) := [(0, .iload_n 1, 1, 0, 0, 0, 0), (1, .invokestatic 142, 3, 30, 1, 2, 8), (4, .ifCond .eq 10, 3, 0, 0, 0, 0), (7, .iload_n 2, 1, 0, 0, 0, 0), (8, .invokestatic 142, 3, 30, 1, 2, 8), (11, .ifCond .ne 5, 3, 0, 0, 0, 0), (14, .iconst (-1), 1, 0, 0, 0, 0), (15, .ireturn, 1, 0, 0, 0, 0), (16, .aload_n 0, 1, 0, 0, 0, 0), (17, .getfield 46, 3, 9, 1, 1, 6), (20, .iload_n 1, 1, 0, 0, 0, 0), (21, .aaload, 1, 0, 0, 0, 0), (22, .astore_n 3, 1, 0, 0, 0, 0), (23, .aload_n 0, 1, 0, 0, 0, 0), (24, .getfield 46, 3, 9, 1, 1, 6), (27, .iload_n 2, 1, 0, 0, 0, 0), (28, .aaload, 1, 0, 0, 0, 0), (29, .astore 4, 2, 0, 0, 0, 0), (31, .aload_n 3, 1, 0, 0, 0, 0), (32, .getfield 149, 3, 4, 0, 0, 7), (35, .aload 4, 2, 0, 0, 0, 0), (37, .getfield 149, 3, 4, 0, 0, 7), (40, .if_icmp .ne 19, 3, 0, 0, 0, 0), (43, .aload_n 3, 1, 0, 0, 0, 0), (44, .getfield 165, 3, 4, 1, 0, 10), (47, .aload 4, 2, 0, 0, 0, 0), (49, .getfield 165, 3, 4, 1, 0, 10), (52, .if_icmp .ne 7, 3, 0, 0, 0, 0), (55, .iconst 1, 1, 0, 0, 0, 0), (56, .goto 4, 3, 0, 0, 0, 0), (59, .iconst 0, 1, 0, 0, 0, 0), (60, .istore 5, 2, 0, 0, 0, 0), (62, .iload 5, 2, 0, 0, 0, 0), (64, .ifCond .eq 20, 3, 0, 0, 0, 0), (67, .aload_n 0, 1, 0, 0, 0, 0), (68, .getfield 54, 3, 9, 3, 1, 16), (71, .aload_n 3, 1, 0, 0, 0, 0), (72, .aload 4, 2, 0, 0, 0, 0), (74, .invokevirtual 236, 3, 154, 3, 0, 26), (77, .ifCond .eq 7, 3, 0, 0, 0, 0), (80, .iconst 1, 1, 0, 0, 0, 0), (81, .goto 4, 3, 0, 0, 0, 0), (84, .iconst 0, 1, 0, 0, 0, 0), (85, .ireturn, 1, 0, 0, 0, 0)]
/-- LikeTales.guess(I)I -/
def kX9_guess : List (Nat × jO) := [(0, .aload_n 0, 1, 0, 0, 0, 0), (1, .getfield 58, 3, 9, 4, 1, 15), (4, .getfield 213, 3, 2, 0, 4, 22), (7, .ifCond .ne 6, 3, 0, 0, 0, 0), (10, .bipush (-3), 2, 0, 0, 0, 0), (12, .ireturn, 1, 0, 0, 0, 0), (13, .aload_n 0, 1, 0, 0, 0, 0), (14, .getfield 58, 3, 9, 4, 1, 15), (17, .getfield 240, 3, 2, 7, 1, 25), (20, .astore_n 2, 1, 0, 0, 0, 0), (21, .iload_n 1, 1, 0, 0, 0, 0), (22, .iconst (-1), 1, 0, 0, 0, 0), (23, .if_icmp .ne 8, 3, 0, 0, 0, 0), (26, .aload_n 2, 1, 0, 0, 0, 0), (27, .getfield 243, 3, 1, 3, 0, 26), (30, .ireturn, 1, 0, 0, 0, 0), (31, .iload_n 1, 1, 0, 0, 0, 0), (32, .ifCond .lt 11, 3, 0, 0, 0, 0), (35, .iload_n 1, 1, 0, 0, 0, 0), (36, .aload_n 2, 1, 0, 0, 0, 0), (37, .getfield 243, 3, 1, 3, 0, 26), (40, .if_icmp .lt 8, 3, 0, 0, 0, 0), (43, .bipush (-6), 2, 0, 0, 0, 0), (45, .goto 9, 3, 0, 0, 0, 0), (48, .aload_n 2, 1, 0, 0, 0, 0), (49, .getfield 246, 3, 1, 4, 1, 27), (52, .iload_n 1, 1, 0, 0, 0, 0), (53, .iaload, 1, 0, 0, 0, 0), (54, .ireturn, 1, 0, 0, 0, 0)]
/-- LikeTales.ofGuess(II)I -/
def kX9_ofGuess : List (Nat × jO) := [(0, .aload_n 0, 1, 0, 0, 0, 0), (1, .getfield 58, 3, 9, 4, 1, 15), (4, .getfield 213, 3, 2, 0, 4, 22), (7, .ifCond .ne 6, 3, 0, 0, 0, 0), (10, .bipush (-3), 2, 0, 0, 0, 0), (12, .ireturn, 1, 0, 0, 0, 0), (13, .iload_n 2, 1, 0, 0, 0, 0), (14, .ifCond .lt 8, 3, 0, 0, 0, 0), (17, .iload_n 2, 1, 0, 0, 0, 0), (18, .iconst 4, 1, 0, 0, 0, 0), (19, .if_icmp .le 6, 3, 0, 0, 0, 0), (22, .bipush (-2), 2, 0, 0, 0, 0), (24, .ireturn, 1, 0, 0, 0, 0), (25, .aload_n 0, 1, 0, 0, 0, 0), (26, .getfield 58, 3, 9, 4, 1, 15), (29, .getfield 240, 3, 2, 7, 1, 25), (32, .astore_n 3, 1, 0, 0, 0, 0), (33, .iload_n 1, 1, 0, 0, 0, 0), (34, .ifCond .lt 11, 3, 0, 0, 0, 0), (37, .iload_n 1, 1, 0, 0, 0, 0), (38, .aload_n 3, 1, 0, 0, 0, 0), (39, .getfield 243, 3, 1, 3, 0, 26), (42, .if_icmp .lt 6, 3, 0, 0, 0, 0), (45, .bipush (-6), 2, 0, 0, 0, 0), (47, .ireturn, 1, 0, 0, 0, 0), (48, .iload_n 2, 1, 0, 0, 0, 0), (49, .iconst 3, 1, 0, 0, 0, 0), (50, .if_icmp .ge 13, 3, 0, 0, 0, 0), (53, .aload_n 3, 1, 0, 0, 0, 0), (54, .iload_n 1, 1, 0, 0, 0, 0), (55, .iload_n 2, 1, 0, 0, 0, 0), (56, .invokevirtual 248, 3, 127, 3, 0, 27), (59, .invokestatic 124, 3, 33, 1, 2, 4), (62, .ireturn, 1, 0, 0, 0, 0), (63, .iload_n 2, 1, 0, 0, 0, 0), (64, .iconst 3, 1, 0, 0, 0, 0), (65, .if_icmp .ne 22, 3, 0, 0, 0, 0), (68, .aload_n 3, 1, 0, 0, 0, 0), (69, .iload_n 1, 1, 0, 0, 0, 0), (70, .aload_n 0, 1, 0, 0, 0, 0), (71, .getfield 58, 3, 9, 4, 1, 15), (74, .getfield 202, 3, 2, 4, 1, 18), (77, .aload_n 0, 1, 0, 0, 0, 0), (78, .getfield 42, 3, 9, 0, 1, 0), (81, .invokevirtual 251, 3, 128, 4, 0, 28), (84, .goto 19, 3, 0, 0, 0, 0), (87, .aload_n 3, 1, 0, 0, 0, 0), (88, .iload_n 1, 1, 0, 0, 0, 0), (89, .aload_n 0, 1, 0, 0, 0, 0), (90, .getfield 58, 3, 9, 4, 1, 15), (93, .getfield 202, 3, 2, 4, 1, 18), (96, .aload_n 0, 1, 0, 0, 0, 0), (97, .getfield 42, 3, 9, 0, 1, 0), (100, .invokevirtual 255, 3, 129, 4, 0, 29), (103, .istore 4, 2, 0, 0, 0, 0), (105, .iload 4, 2, 0, 0, 0, 0), (107, .ifCond .eq 7, 3, 0, 0, 0, 0), (110, .iconst 1, 1, 0, 0, 0, 0), (111, .goto 4, 3, 0, 0, 0, 0), (114, .iconst 0, 1, 0, 0, 0, 0), (115, .ireturn, 1, 0, 0, 0, 0)]
/-- LikeTales.giveUp()I -/
def kX9_giveUp : List (Nat × jO) := [(0, .aload_n 0, 1, 0, 0, 0, 0), (1, .getfield 58, 3, 9, 4, 1, 15), (4, .getfield 213, 3, 2, 0, 4, 22), (7, .ifCond .ne 6, 3, 0, 0, 0, 0), (10, .bipush (-3), 2, 0, 0, 0, 0), (12, .ireturn, 1, 0, 0, 0, 0), (13, .aload_n 0, 1, 0, 0, 0, 0), (14, .getfield 50, 3, 9, 2, 1, 19), (17, .aload_n 0, 1, 0, 0, 0, 0), (18, .getfield 58, 3, 9, 4, 1, 15), (21, .getfield 64, 3, 2, 3, 1, 17), (24, .aload_n 0, 1, 0, 0, 0, 0), (25, .getfield 58, 3, 9, 4, 1, 15), (28, .getfield 202, 3, 2, 4, 1, 18), (31, .aload_n 0, 1, 0, 0, 0, 0), (32, .getfield 58, 3, 9, 4, 1, 15), (35, .getfield 258, 3, 2, 1, 0, 28), (38, .aload_n 0, 1, 0, 0, 0, 0), (39, .getfield 58, 3, 9, 4, 1, 15), (42, .getfield 261, 3, 2, 2, 4, 29), (45, .iconst 0, 1, 0, 0, 0, 0), (46, .invokevirtual 224, 3, 111, 6, 1, 22), (49, .aload_n 0, 1, 0, 0, 0, 0), (50, .getfield 58, 3, 9, 4, 1, 15), (53, .invokevirtual 262, 3, 133, 1, 0, 30), (56, .istore_n 1, 1, 0, 0, 0, 0), (57, .bipush 7, 2, 0, 0, 0, 0), (59, .istore_n 2, 1, 0, 0, 0, 0), (60, .iconst 0, 1, 0, 0, 0, 0), (61, .istore_n 3, 1, 0, 0, 0, 0), (62, .iconst 0, 1, 0, 0, 0, 0), (63, .istore 4, 2, 0, 0, 0, 0), (65, .iload 4, 2, 0, 0, 0, 0), (67, .bipush 64, 2, 0, 0, 0, 0), (69, .if_icmp .ge 46, 3, 0, 0, 0, 0), (72, .iload 4, 2, 0, 0, 0, 0), (74, .invokestatic 265, 3, 181, 1, 2, 31), (77, .istore 5, 2, 0, 0, 0, 0), (79, .iload 4, 2, 0, 0, 0, 0), (81, .iload_n 1, 1, 0, 0, 0, 0), (82, .iconst (-1), 1, 0, 0, 0, 0), (83, .ixor, 1, 0, 0, 0, 0), (84, .iand, 1, 0, 0, 0, 0), (85, .ifCond .ne 24, 3, 0, 0, 0, 0), (88, .iload 5, 2, 0, 0, 0, 0), (90, .iload_n 2, 1, 0, 0, 0, 0), (91, .if_icmp .ge 18, 3, 0, 0, 0, 0), (94, .aload_n 0, 1, 0, 0, 0, 0), (95, .iload 4, 2, 0, 0, 0, 0), (97, .invokevirtual 270, 3, 38, 2, 0, 32), (100, .ifCond .eq 9, 3, 0, 0, 0, 0), (103, .iload 5, 2, 0, 0, 0, 0), (105, .istore_n 2, 1, 0, 0, 0, 0), (106, .iload 4, 2, 0, 0, 0, 0), (108, .istore_n 3, 1, 0, 0, 0, 0), (109, .iinc 4 1, 3, 0, 0, 0, 0), (112, .goto (-47), 3, 0, 0, 0, 0), (115, .iload_n 3, 1, 0, 0, 0, 0), (116, .ireturn, 1, 0, 0, 0, 0)]
/-- LikeTales.bound(II)I -/
def kX9_bound : List (Nat × jO) := [(0, .iload_n 1, 1, 0, 0, 0, 0), (1, .invokestatic 142, 3, 30, 1, 2, 8), (4, .ifCond .eq 10, 3, 0, 0, 0, 0), (7, .iload_n 2, 1, 0, 0, 0, 0), (8, .invokestatic 142, 3, 30, 1, 2, 8), (11, .ifCond .ne 5, 3, 0, 0, 0, 0), (14, .iconst (-1), 1, 0, 0, 0, 0), (15, .ireturn, 1, 0, 0, 0, 0), (16, .aload_n 0, 1, 0, 0, 0, 0), (17, .getfield 46, 3, 9, 1, 1, 6), (20, .iload_n 1, 1, 0, 0, 0, 0), (21, .aaload, 1, 0, 0, 0, 0), (22, .aload_n 0, 1, 0, 0, 0, 0), (23, .getfield 46, 3, 9, 1, 1, 6), (26, .iload_n 2, 1, 0, 0, 0, 0), (27, .aaload, 1, 0, 0, 0, 0), (28, .invokestatic 273, 3, 164, 2, 2, 33), (31, .ireturn, 1, 0, 0, 0, 0)]
/-- LikeTales.seek(I)I -/
def kX9_seek : List (Nat × jO) := [(0, .iload_n 1, 1, 0, 0, 0, 0), (1, .invokestatic 142, 3, 30, 1, 2, 8), (4, .ifCond .ne 5, 3, 0, 0, 0, 0), (7, .iconst (-1), 1, 0, 0, 0, 0), (8, .ireturn, 1, 0, 0, 0, 0), (9, .aload_n 0, 1, 0, 0, 0, 0), (10, .getfield 96, 3, 9, 7, 1, 30), (13, .iload_n 1, 1, 0, 0, 0, 0), (14, .aload_n 0, 1, 0, 0, 0, 0), (15, .getfield 9, 3, 9, 8, 4, 5), (18, .invokevirtual 277, 3, 162, 3, 0, 34), (21, .istore_n 2, 1, 0, 0, 0, 0), (22, .aload_n 0, 1, 0, 0, 0, 0), (23, .iconst 1, 1, 0, 0, 0, 0), (24, .putfield 13, 3, 9, 9, 4, 31), (27, .aload_n 0, 1, 0, 0, 0, 0), (28, .aload_n 0, 1, 0, 0, 0, 0), (29, .getfield 96, 3, 9, 7, 1, 30), (32, .getfield 281, 3, 6, 3, 0, 32), (35, .putfield 16, 3, 9, 10, 0, 33), (38, .aload_n 0, 1, 0, 0, 0, 0), (39, .aload_n 0, 1, 0, 0, 0, 0), (40, .getfield 96, 3, 9, 7, 1, 30), (43, .getfield 284, 3, 6, 4, 0, 34), (46, .invokestatic 124, 3, 33, 1, 2, 4), (49, .putfield 20, 3, 9, 11, 0, 35), (52, .iload_n 2, 1, 0, 0, 0, 0), (53, .invokestatic 124, 3, 33, 1, 2, 4), (56, .ireturn, 1, 0, 0, 0, 0)]
/-- LikeTales.sought(I)I -/
def kX9_sought : List (Nat × jO) := [(0, .iload_n 1, 1, 0, 0, 0, 0), (1, .ifCond .eq 11, 3, 0, 0, 0, 0), (4, .iload_n 1, 1, 0, 0, 0, 0), (5, .iconst 1, 1, 0, 0, 0, 0), (6, .if_icmp .eq 6, 3, 0, 0, 0, 0), (9, .bipush (-2), 2, 0, 0, 0, 0), (11, .ireturn, 1, 0, 0, 0, 0), (12, .aload_n 0, 1, 0, 0, 0, 0), (13, .getfield 13, 3, 9, 9, 4, 31), (16, .ifCond .ne 6, 3, 0, 0, 0, 0), (19, .bipush (-3), 2, 0, 0, 0, 0), (21, .ireturn, 1, 0, 0, 0, 0), (22, .iload_n 1, 1, 0, 0, 0, 0), (23, .ifCond .ne 10, 3, 0, 0, 0, 0), (26, .aload_n 0, 1, 0, 0, 0, 0), (27, .getfield 16, 3, 9, 10, 0, 33), (30, .goto 7, 3, 0, 0, 0, 0), (33, .aload_n 0, 1, 0, 0, 0, 0), (34, .getfield 20, 3, 9, 11, 0, 35), (37, .ireturn, 1, 0, 0, 0, 0)]
/-- LikeTales.common(IIII)I -/
def kX9_common : List (Nat × jO) := [(0, .iload_n 1, 1, 0, 0, 0, 0), (1, .invokestatic 142, 3, 30, 1, 2, 8), (4, .ifCond .eq 17, 3, 0, 0, 0, 0), (7, .iload_n 2, 1, 0, 0, 0, 0), (8, .invokestatic 142, 3, 30, 1, 2, 8), (11, .ifCond .eq 10, 3, 0, 0, 0, 0), (14, .iload_n 3, 1, 0, 0, 0, 0), (15, .invokestatic 142, 3, 30, 1, 2, 8), (18, .ifCond .ne 5, 3, 0, 0, 0, 0), (21, .iconst (-1), 1, 0, 0, 0, 0), (22, .ireturn, 1, 0, 0, 0, 0), (23, .iload 4, 2, 0, 0, 0, 0), (25, .invokestatic 287, 3, 31, 1, 2, 35), (28, .ifCond .ne 6, 3, 0, 0, 0, 0), (31, .bipush (-2), 2, 0, 0, 0, 0), (33, .ireturn, 1, 0, 0, 0, 0), (34, .iload_n 3, 1, 0, 0, 0, 0), (35, .iload_n 1, 1, 0, 0, 0, 0), (36, .if_icmp .eq 8, 3, 0, 0, 0, 0), (39, .iload_n 3, 1, 0, 0, 0, 0), (40, .iload_n 2, 1, 0, 0, 0, 0), (41, .if_icmp .ne 6, 3, 0, 0, 0, 0), (44, .bipush (-5), 2, 0, 0, 0, 0), (46, .ireturn, 1, 0, 0, 0, 0), (47, .aload_n 0, 1, 0, 0, 0, 0), (48, .getfield 54, 3, 9, 3, 1, 16), (51, .aload_n 0, 1, 0, 0, 0, 0), (52, .getfield 46, 3, 9, 1, 1, 6), (55, .iload_n 1, 1, 0, 0, 0, 0), (56, .aaload, 1, 0, 0, 0, 0), (57, .aload_n 0, 1, 0, 0, 0, 0), (58, .getfield 46, 3, 9, 1, 1, 6), (61, .iload_n 2, 1, 0, 0, 0, 0), (62, .aaload, 1, 0, 0, 0, 0), (63, .iload 4, 2, 0, 0, 0, 0), (65, .aload_n 0, 1, 0, 0, 0, 0), (66, .getfield 9, 3, 9, 8, 4, 5), (69, .invokevirtual 205, 3, 150, 5, 0, 18), (72, .pop, 1, 0, 0, 0, 0), (73, .aload_n 0, 1, 0, 0, 0, 0), (74, .getfield 87, 3, 9, 6, 1, 36), (77, .aload_n 0, 1, 0, 0, 0, 0), (78, .getfield 46, 3, 9, 1, 1, 6), (81, .iload_n 1, 1, 0, 0, 0, 0), (82, .aaload, 1, 0, 0, 0, 0), (83, .aload_n 0, 1, 0, 0, 0, 0), (84, .getfield 46, 3, 9, 1, 1, 6), (87, .iload_n 2, 1, 0, 0, 0, 0), (88, .aaload, 1, 0, 0, 0, 0), (89, .invokevirtual 290, 3, 172, 3, 1, 36), (92, .aload_n 0, 1, 0, 0, 0, 0), (93, .getfield 46, 3, 9, 1, 1, 6), (96, .iload_n 3, 1, 0, 0, 0, 0), (97, .aaload, 1, 0, 0, 0, 0), (98, .aload_n 0, 1, 0, 0, 0, 0), (99, .getfield 87, 3, 9, 6, 1, 36), (102, .getfield 294, 3, 8, 2, 1, 37), (105, .invokevirtual 190, 3, 141, 2, 1, 15), (108, .aload_n 0, 1, 0, 0, 0, 0), (109, .getfield 46, 3, 9, 1, 1, 6), (112, .iload_n 3, 1, 0, 0, 0, 0), (113, .aaload, 1, 0, 0, 0, 0), (114, .getfield 165, 3, 4, 1, 0, 10), (117, .ireturn, 1, 0, 0, 0, 0)]
/-- LikeTales.series(IIII)I -/
def kX9_series : List (Nat × jO) := [(0, .iload_n 1, 1, 0, 0, 0, 0), (1, .invokestatic 142, 3, 30, 1, 2, 8), (4, .ifCond .eq 25, 3, 0, 0, 0, 0), (7, .iload_n 2, 1, 0, 0, 0, 0), (8, .invokestatic 142, 3, 30, 1, 2, 8), (11, .ifCond .eq 18, 3, 0, 0, 0, 0), (14, .iload_n 3, 1, 0, 0, 0, 0), (15, .invokestatic 142, 3, 30, 1, 2, 8), (18, .ifCond .eq 11, 3, 0, 0, 0, 0), (21, .iload 4, 2, 0, 0, 0, 0), (23, .invokestatic 142, 3, 30, 1, 2, 8), (26, .ifCond .ne 5, 3, 0, 0, 0, 0), (29, .iconst (-1), 1, 0, 0, 0, 0), (30, .ireturn, 1, 0, 0, 0, 0), (31, .aload_n 0, 1, 0, 0, 0, 0), (32, .getfield 54, 3, 9, 3, 1, 16), (35, .aload_n 0, 1, 0, 0, 0, 0), (36, .getfield 46, 3, 9, 1, 1, 6), (39, .iload_n 1, 1, 0, 0, 0, 0), (40, .aaload, 1, 0, 0, 0, 0), (41, .aload_n 0, 1, 0, 0, 0, 0), (42, .getfield 46, 3, 9, 1, 1, 6), (45, .iload_n 2, 1, 0, 0, 0, 0), (46, .aaload, 1, 0, 0, 0, 0), (47, .iconst 0, 1, 0, 0, 0, 0), (48, .aload_n 0, 1, 0, 0, 0, 0), (49, .getfield 9, 3, 9, 8, 4, 5), (52, .invokevirtual 205, 3, 150, 5, 0, 18), (55, .pop, 1, 0, 0, 0, 0), (56, .aload_n 0, 1, 0, 0, 0, 0), (57, .getfield 87, 3, 9, 6, 1, 36), (60, .aload_n 0, 1, 0, 0, 0, 0), (61, .getfield 46, 3, 9, 1, 1, 6), (64, .iload_n 1, 1, 0, 0, 0, 0), (65, .aaload, 1, 0, 0, 0, 0), (66, .invokevirtual 297, 3, 173, 2, 1, 37), (69, .aload_n 0, 1, 0, 0, 0, 0), (70, .getfield 54, 3, 9, 3, 1, 16), (73, .aload_n 0, 1, 0, 0, 0, 0), (74, .getfield 46, 3, 9, 1, 1, 6), (77, .iload_n 1, 1, 0, 0, 0, 0), (78, .aaload, 1, 0, 0, 0, 0), (79, .aload_n 0, 1, 0, 0, 0, 0), (80, .getfield 46, 3, 9, 1, 1, 6), (83, .iload_n 3, 1, 0, 0, 0, 0), (84, .aaload, 1, 0, 0, 0, 0), (85, .iconst 0, 1, 0, 0, 0, 0), (86, .aload_n 0, 1, 0, 0, 0, 0), (87, .getfield 9, 3, 9, 8, 4, 5), (90, .invokevirtual 205, 3, 150, 5, 0, 18), (93, .pop, 1, 0, 0, 0, 0), (94, .aload_n 0, 1, 0, 0, 0, 0), (95, .getfield 87, 3, 9, 6, 1, 36), (98, .aload_n 0, 1, 0, 0, 0, 0), (99, .getfield 46, 3, 9, 1, 1, 6), (102, .iload_n 1, 1, 0, 0, 0, 0), (103, .aaload, 1, 0, 0, 0, 0), (104, .aload_n 0, 1, 0, 0, 0, 0), (105, .getfield 46, 3, 9, 1, 1, 6), (108, .iload_n 3, 1, 0, 0, 0, 0), (109, .aaload, 1, 0, 0, 0, 0), (110, .invokevirtual 300, 3, 174, 3, 1, 38), (113, .aload_n 0, 1, 0, 0, 0, 0), (114, .getfield 87, 3, 9, 6, 1, 36), (117, .aload_n 0, 1, 0, 0, 0, 0), (118, .getfield 46, 3, 9, 1, 1, 6), (121, .iload_n 1, 1, 0, 0, 0, 0), (122, .aaload, 1, 0, 0, 0, 0), (123, .invokevirtual 303, 3, 175, 2, 1, 39), (126, .aload_n 0, 1, 0, 0, 0, 0), (127, .getfield 87, 3, 9, 6, 1, 36), (130, .aload_n 0, 1, 0, 0, 0, 0), (131, .getfield 46, 3, 9, 1, 1, 6), (134, .iload_n 1, 1, 0, 0, 0, 0), (135, .aaload, 1, 0, 0, 0, 0), (136, .aload_n 0, 1, 0, 0, 0, 0), (137, .getfield 46, 3, 9, 1, 1, 6), (140, .iload_n 2, 1, 0, 0, 0, 0), (141, .aaload, 1, 0, 0, 0, 0), (142, .invokevirtual 306, 3, 176, 3, 0, 40), (145, .ifCond .ne 6, 3, 0, 0, 0, 0), (148, .bipush (-4), 2, 0, 0, 0, 0), (150, .ireturn, 1, 0, 0, 0, 0), (151, .aload_n 0, 1, 0, 0, 0, 0), (152, .getfield 46, 3, 9, 1, 1, 6), (155, .iload 4, 2, 0, 0, 0, 0), (157, .aaload, 1, 0, 0, 0, 0), (158, .aload_n 0, 1, 0, 0, 0, 0), (159, .getfield 87, 3, 9, 6, 1, 36), (162, .getfield 294, 3, 8, 2, 1, 37), (165, .invokevirtual 190, 3, 141, 2, 1, 15), (168, .aload_n 0, 1, 0, 0, 0, 0), (169, .getfield 46, 3, 9, 1, 1, 6), (172, .iload 4, 2, 0, 0, 0, 0), (174, .aaload, 1, 0, 0, 0, 0), (175, .getfield 165, 3, 4, 1, 0, 10), (178, .ireturn, 1, 0, 0, 0, 0)]
/-- LikeTales.leftOut(II)I -/
def kX9_leftOut : List (Nat × jO) := [(0, .iload_n 1, 1, 0, 0, 0, 0), (1, .invokestatic 142, 3, 30, 1, 2, 8), (4, .ifCond .eq 10, 3, 0, 0, 0, 0), (7, .iload_n 2, 1, 0, 0, 0, 0), (8, .invokestatic 142, 3, 30, 1, 2, 8), (11, .ifCond .ne 5, 3, 0, 0, 0, 0), (14, .iconst (-1), 1, 0, 0, 0, 0), (15, .ireturn, 1, 0, 0, 0, 0), (16, .aload_n 0, 1, 0, 0, 0, 0), (17, .getfield 46, 3, 9, 1, 1, 6), (20, .iload_n 1, 1, 0, 0, 0, 0), (21, .aaload, 1, 0, 0, 0, 0), (22, .getfield 165, 3, 4, 1, 0, 10), (25, .aload_n 0, 1, 0, 0, 0, 0), (26, .getfield 54, 3, 9, 3, 1, 16), (29, .aload_n 0, 1, 0, 0, 0, 0), (30, .getfield 46, 3, 9, 1, 1, 6), (33, .iload_n 1, 1, 0, 0, 0, 0), (34, .aaload, 1, 0, 0, 0, 0), (35, .aload_n 0, 1, 0, 0, 0, 0), (36, .getfield 46, 3, 9, 1, 1, 6), (39, .iload_n 2, 1, 0, 0, 0, 0), (40, .aaload, 1, 0, 0, 0, 0), (41, .aload_n 0, 1, 0, 0, 0, 0), (42, .getfield 9, 3, 9, 8, 4, 5), (45, .invokevirtual 309, 3, 153, 4, 0, 41), (48, .isub, 1, 0, 0, 0, 0), (49, .ireturn, 1, 0, 0, 0, 0)]
/-- LikeTales.trial(I)I -/
def kX9_trial : List (Nat × jO) := [(0, .iload_n 1, 1, 0, 0, 0, 0), (1, .bipush 10, 2, 0, 0, 0, 0), (3, .if_icmp .lt 13, 3, 0, 0, 0, 0), (6, .iload_n 1, 1, 0, 0, 0, 0), (7, .bipush 20, 2, 0, 0, 0, 0), (9, .if_icmp .ge 7, 3, 0, 0, 0, 0), (12, .iconst 1, 1, 0, 0, 0, 0), (13, .goto 4, 3, 0, 0, 0, 0), (16, .iconst 0, 1, 0, 0, 0, 0), (17, .istore_n 2, 1, 0, 0, 0, 0), (18, .iload_n 1, 1, 0, 0, 0, 0), (19, .ifCond .eq 15, 3, 0, 0, 0, 0), (22, .iload_n 1, 1, 0, 0, 0, 0), (23, .iconst 1, 1, 0, 0, 0, 0), (24, .if_icmp .eq 10, 3, 0, 0, 0, 0), (27, .iload_n 2, 1, 0, 0, 0, 0), (28, .ifCond .ne 6, 3, 0, 0, 0, 0), (31, .bipush (-2), 2, 0, 0, 0, 0), (33, .ireturn, 1, 0, 0, 0, 0), (34, .iconst 0, 1, 0, 0, 0, 0), (35, .istore_n 3, 1, 0, 0, 0, 0), (36, .iconst 0, 1, 0, 0, 0, 0), (37, .istore 4, 2, 0, 0, 0, 0), (39, .iload 4, 2, 0, 0, 0, 0), (41, .bipush 12, 2, 0, 0, 0, 0), (43, .if_icmp .ge 85, 3, 0, 0, 0, 0), (46, .aload_n 0, 1, 0, 0, 0, 0), (47, .getfield 46, 3, 9, 1, 1, 6), (50, .iload 4, 2, 0, 0, 0, 0), (52, .aaload, 1, 0, 0, 0, 0), (53, .getfield 165, 3, 4, 1, 0, 10), (56, .ifCond .le 28, 3, 0, 0, 0, 0), (59, .iload_n 2, 1, 0, 0, 0, 0), (60, .ifCond .eq 20, 3, 0, 0, 0, 0), (63, .aload_n 0, 1, 0, 0, 0, 0), (64, .getfield 46, 3, 9, 1, 1, 6), (67, .iload 4, 2, 0, 0, 0, 0), (69, .aaload, 1, 0, 0, 0, 0), (70, .getfield 158, 3, 4, 2, 0, 9), (73, .iload_n 1, 1, 0, 0, 0, 0), (74, .bipush 10, 2, 0, 0, 0, 0), (76, .isub, 1, 0, 0, 0, 0), (77, .if_icmp .ne 7, 3, 0, 0, 0, 0), (80, .iconst 1, 1, 0, 0, 0, 0), (81, .goto 4, 3, 0, 0, 0, 0), (84, .iconst 0, 1, 0, 0, 0, 0), (85, .istore 5, 2, 0, 0, 0, 0), (87, .iload 5, 2, 0, 0, 0, 0), (89, .ifCond .eq 33, 3, 0, 0, 0, 0), (92, .iload_n 1, 1, 0, 0, 0, 0), (93, .iconst 1, 1, 0, 0, 0, 0), (94, .if_icmp .eq 25, 3, 0, 0, 0, 0), (97, .aload_n 0, 1, 0, 0, 0, 0), (98, .iload 4, 2, 0, 0, 0, 0), (100, .aload_n 0, 1, 0, 0, 0, 0), (101, .getfield 96, 3, 9, 7, 1, 30), (104, .iload 4, 2, 0, 0, 0, 0), (106, .aload_n 0, 1, 0, 0, 0, 0), (107, .getfield 9, 3, 9, 8, 4, 5), (110, .invokevirtual 277, 3, 162, 3, 0, 34), (113, .invokevirtual 313, 3, 37, 3, 0, 42), (116, .ifCond .eq 6, 3, 0, 0, 0, 0), (119, .iinc 3 1, 3, 0, 0, 0, 0), (122, .iinc 4 1, 3, 0, 0, 0, 0), (125, .goto (-86), 3, 0, 0, 0, 0), (128, .iload_n 3, 1, 0, 0, 0, 0), (129, .ireturn, 1, 0, 0, 0, 0)]
/-- LikeTales.isKind(I)Z -/
def kX9_isKind : List (Nat × jO) := [(0, .iload_n 0, 1, 0, 0, 0, 0), (1, .ifCond .lt 13, 3, 0, 0, 0, 0), (4, .iload_n 0, 1, 0, 0, 0, 0), (5, .bipush 16, 2, 0, 0, 0, 0), (7, .if_icmp .ge 7, 3, 0, 0, 0, 0), (10, .iconst 1, 1, 0, 0, 0, 0), (11, .goto 4, 3, 0, 0, 0, 0), (14, .iconst 0, 1, 0, 0, 0, 0), (15, .ireturn, 1, 1, 0, 0, 0)]
/-- LikeTales.isTale(I)Z -/
def kX9_isTale : List (Nat × jO) := [(0, .iload_n 0, 1, 0, 0, 0, 0), (1, .ifCond .lt 13, 3, 0, 0, 0, 0), (4, .iload_n 0, 1, 0, 0, 0, 0), (5, .bipush 12, 2, 0, 0, 0, 0), (7, .if_icmp .ge 7, 3, 0, 0, 0, 0), (10, .iconst 1, 1, 0, 0, 0, 0), (11, .goto 4, 3, 0, 0, 0, 0), (14, .iconst 0, 1, 0, 0, 0, 0), (15, .ireturn, 1, 1, 0, 0, 0)]
/-- LikeTales.isLevel(I)Z -/
def kX9_isLevel : List (Nat × jO) := [(0, .iload_n 0, 1, 0, 0, 0, 0), (1, .ifCond .lt 12, 3, 0, 0, 0, 0), (4, .iload_n 0, 1, 0, 0, 0, 0), (5, .iconst 2, 1, 0, 0, 0, 0), (6, .if_icmp .gt 7, 3, 0, 0, 0, 0), (9, .iconst 1, 1, 0, 0, 0, 0), (10, .goto 4, 3, 0, 0, 0, 0), (13, .iconst 0, 1, 0, 0, 0, 0), (14, .ireturn, 1, 1, 0, 0, 0)]
/-- LikeTales.isDigit(I)Z -/
def kX9_isDigit : List (Nat × jO) := [(0, .iload_n 0, 1, 0, 0, 0, 0), (1, .ifCond .lt 13, 3, 0, 0, 0, 0), (4, .iload_n 0, 1, 0, 0, 0, 0), (5, .bipush 10, 2, 0, 0, 0, 0), (7, .if_icmp .ge 7, 3, 0, 0, 0, 0), (10, .iconst 1, 1, 0, 0, 0, 0), (11, .goto 4, 3, 0, 0, 0, 0), (14, .iconst 0, 1, 0, 0, 0, 0), (15, .ireturn, 1, 1, 0, 0, 0)]
/-- LikeTales.orNone(I)I -/
def kX9_orNone : List (Nat × jO) := [(0, .iload_n 0, 1, 0, 0, 0, 0), (1, .ifCond .ge 8, 3, 0, 0, 0, 0), (4, .bipush (-6), 2, 0, 0, 0, 0), (6, .goto 4, 3, 0, 0, 0, 0), (9, .iload_n 0, 1, 0, 0, 0, 0), (10, .ireturn, 1, 0, 0, 0, 0)]
/-- LikeTales.refusedLikeness(III)I -/
def kX9_refusedLikeness : List (Nat × jO) := [(0, .iload_n 0, 1, 0, 0, 0, 0), (1, .invokestatic 142, 3, 30, 1, 2, 8), (4, .ifCond .eq 10, 3, 0, 0, 0, 0), (7, .iload_n 1, 1, 0, 0, 0, 0), (8, .invokestatic 142, 3, 30, 1, 2, 8), (11, .ifCond .ne 5, 3, 0, 0, 0, 0), (14, .iconst (-1), 1, 0, 0, 0, 0), (15, .ireturn, 1, 0, 0, 0, 0), (16, .iload_n 2, 1, 0, 0, 0, 0), (17, .invokestatic 287, 3, 31, 1, 2, 35), (20, .ifCond .eq 7, 3, 0, 0, 0, 0), (23, .iconst 0, 1, 0, 0, 0, 0), (24, .goto 5, 3, 0, 0, 0, 0), (27, .bipush (-2), 2, 0, 0, 0, 0), (29, .ireturn, 1, 0, 0, 0, 0)]
/-- LikeTales.tiesToldOf(I)I -/
def kX9_tiesToldOf : List (Nat × jO) := [(0, .iconst 0, 1, 0, 0, 0, 0), (1, .istore_n 2, 1, 0, 0, 0, 0), (2, .iconst 0, 1, 0, 0, 0, 0), (3, .istore_n 3, 1, 0, 0, 0, 0), (4, .iload_n 3, 1, 0, 0, 0, 0), (5, .bipush 12, 2, 0, 0, 0, 0), (7, .if_icmp .ge 22, 3, 0, 0, 0, 0), (10, .iload_n 2, 1, 0, 0, 0, 0), (11, .aload_n 0, 1, 0, 0, 0, 0), (12, .getfield 46, 3, 9, 1, 1, 6), (15, .iload_n 3, 1, 0, 0, 0, 0), (16, .aaload, 1, 0, 0, 0, 0), (17, .iload_n 1, 1, 0, 0, 0, 0), (18, .invokevirtual 316, 3, 148, 2, 0, 43), (21, .iadd, 1, 0, 0, 0, 0), (22, .istore_n 2, 1, 0, 0, 0, 0), (23, .iinc 3 1, 3, 0, 0, 0, 0), (26, .goto (-22), 3, 0, 0, 0, 0), (29, .iload_n 2, 1, 0, 0, 0, 0), (30, .ireturn, 1, 0, 0, 0, 0)]
/-- LikeTales.isInUse(I)Z -/
def kX9_isInUse : List (Nat × jO) := [(0, .aload_n 0, 1, 0, 0, 0, 0), (1, .iload_n 1, 1, 0, 0, 0, 0), (2, .invokevirtual 135, 3, 35, 2, 0, 6), (5, .aload_n 0, 1, 0, 0, 0, 0), (6, .getfield 58, 3, 9, 4, 1, 15), (9, .getfield 64, 3, 2, 3, 1, 17), (12, .iload_n 1, 1, 0, 0, 0, 0), (13, .invokevirtual 316, 3, 148, 2, 0, 43), (16, .iadd, 1, 0, 0, 0, 0), (17, .aload_n 0, 1, 0, 0, 0, 0), (18, .getfield 58, 3, 9, 4, 1, 15), (21, .getfield 202, 3, 2, 4, 1, 18), (24, .iload_n 1, 1, 0, 0, 0, 0), (25, .invokevirtual 316, 3, 148, 2, 0, 43), (28, .iadd, 1, 0, 0, 0, 0), (29, .ifCond .le 7, 3, 0, 0, 0, 0), (32, .iconst 1, 1, 0, 0, 0, 0), (33, .goto 4, 3, 0, 0, 0, 0), (36, .iconst 0, 1, 0, 0, 0, 0), (37, .ireturn, 1, 1, 0, 0, 0)]
/-- LikeTales.isRight(II)Z -/
def kX9_isRight : List (Nat × jO) := [(0, .iload_n 2, 1, 0, 0, 0, 0), (1, .ifCond .lt 34, 3, 0, 0, 0, 0), (4, .iload_n 2, 1, 0, 0, 0, 0), (5, .bipush 12, 2, 0, 0, 0, 0), (7, .if_icmp .ge 28, 3, 0, 0, 0, 0), (10, .aload_n 0, 1, 0, 0, 0, 0), (11, .getfield 46, 3, 9, 1, 1, 6), (14, .iload_n 2, 1, 0, 0, 0, 0), (15, .aaload, 1, 0, 0, 0, 0), (16, .getfield 158, 3, 4, 2, 0, 9), (19, .aload_n 0, 1, 0, 0, 0, 0), (20, .getfield 46, 3, 9, 1, 1, 6), (23, .iload_n 1, 1, 0, 0, 0, 0), (24, .aaload, 1, 0, 0, 0, 0), (25, .getfield 158, 3, 4, 2, 0, 9), (28, .if_icmp .ne 7, 3, 0, 0, 0, 0), (31, .iconst 1, 1, 0, 0, 0, 0), (32, .goto 4, 3, 0, 0, 0, 0), (35, .iconst 0, 1, 0, 0, 0, 0), (36, .ireturn, 1, 1, 0, 0, 0)]
/-- LikeTales.isPeaceWithout(I)Z -/
def kX9_isPeaceWithout : List (Nat × jO) := [(0, .iconst 0, 1, 0, 0, 0, 0), (1, .istore_n 2, 1, 0, 0, 0, 0), (2, .iload_n 2, 1, 0, 0, 0, 0), (3, .aload_n 0, 1, 0, 0, 0, 0), (4, .getfield 58, 3, 9, 4, 1, 15), (7, .getfield 64, 3, 2, 3, 1, 17), (10, .getfield 149, 3, 4, 0, 0, 7), (13, .if_icmp .ge 39, 3, 0, 0, 0, 0), (16, .aload_n 0, 1, 0, 0, 0, 0), (17, .getfield 50, 3, 9, 2, 1, 19), (20, .getfield 68, 3, 0, 5, 1, 20), (23, .iload_n 2, 1, 0, 0, 0, 0), (24, .iload_n 1, 1, 0, 0, 0, 0), (25, .iload_n 2, 1, 0, 0, 0, 0), (26, .ishr, 1, 0, 0, 0, 0), (27, .iconst 1, 1, 0, 0, 0, 0), (28, .iand, 1, 0, 0, 0, 0), (29, .ifCond .eq 7, 3, 0, 0, 0, 0), (32, .iconst (-1), 1, 0, 0, 0, 0), (33, .goto 12, 3, 0, 0, 0, 0), (36, .aload_n 0, 1, 0, 0, 0, 0), (37, .getfield 58, 3, 9, 4, 1, 15), (40, .getfield 216, 3, 2, 5, 1, 23), (43, .iload_n 2, 1, 0, 0, 0, 0), (44, .iaload, 1, 0, 0, 0, 0), (45, .iastore, 1, 0, 0, 0, 0), (46, .iinc 2 1, 3, 0, 0, 0, 0), (49, .goto (-47), 3, 0, 0, 0, 0), (52, .aload_n 0, 1, 0, 0, 0, 0), (53, .getfield 50, 3, 9, 2, 1, 19), (56, .invokevirtual 230, 3, 115, 1, 0, 24), (59, .pop, 1, 0, 0, 0, 0), (60, .aload_n 0, 1, 0, 0, 0, 0), (61, .getfield 78, 3, 9, 5, 1, 38), (64, .invokevirtual 319, 3, 124, 1, 1, 44), (67, .iconst 0, 1, 0, 0, 0, 0), (68, .istore_n 2, 1, 0, 0, 0, 0), (69, .iload_n 2, 1, 0, 0, 0, 0), (70, .aload_n 0, 1, 0, 0, 0, 0), (71, .getfield 78, 3, 9, 5, 1, 38), (74, .getfield 243, 3, 1, 3, 0, 26), (77, .if_icmp .ge 33, 3, 0, 0, 0, 0), (80, .aload_n 0, 1, 0, 0, 0, 0), (81, .getfield 78, 3, 9, 5, 1, 38), (84, .iload_n 2, 1, 0, 0, 0, 0), (85, .aload_n 0, 1, 0, 0, 0, 0), (86, .getfield 58, 3, 9, 4, 1, 15), (89, .getfield 202, 3, 2, 4, 1, 18), (92, .aload_n 0, 1, 0, 0, 0, 0), (93, .getfield 42, 3, 9, 0, 1, 0), (96, .invokevirtual 255, 3, 129, 4, 0, 29), (99, .ifCond .eq 5, 3, 0, 0, 0, 0), (102, .iconst 0, 1, 0, 0, 0, 0), (103, .ireturn, 1, 1, 0, 0, 0), (104, .iinc 2 1, 3, 0, 0, 0, 0), (107, .goto (-38), 3, 0, 0, 0, 0), (110, .iconst 1, 1, 0, 0, 0, 0), (111, .ireturn, 1, 1, 0, 0, 0)]
/-- LikeTalesModel.in(III)Z -/
def kX10_in : List (Nat × jO) := [(0, .iload_n 0, 1, 0, 0, 0, 0), (1, .iload_n 1, 1, 0, 0, 0, 0), (2, .if_icmp .lt 12, 3, 0, 0, 0, 0), (5, .iload_n 0, 1, 0, 0, 0, 0), (6, .iload_n 2, 1, 0, 0, 0, 0), (7, .if_icmp .gt 7, 3, 0, 0, 0, 0), (10, .iconst 1, 1, 0, 0, 0, 0), (11, .goto 4, 3, 0, 0, 0, 0), (14, .iconst 0, 1, 0, 0, 0, 0), (15, .ireturn, 1, 1, 0, 0, 0)]
/-- LikeTalesModel.isKind(I)Z -/
def kX10_isKind : List (Nat × jO) := [(0, .iload_n 0, 1, 0, 0, 0, 0), (1, .iconst 0, 1, 0, 0, 0, 0), (2, .bipush 15, 2, 0, 0, 0, 0), (4, .invokestatic 77, 3, 39, 3, 2, 45), (7, .ireturn, 1, 1, 0, 0, 0)]
/-- LikeTalesModel.isTale(I)Z -/
def kX10_isTale : List (Nat × jO) := [(0, .iload_n 0, 1, 0, 0, 0, 0), (1, .iconst 0, 1, 0, 0, 0, 0), (2, .bipush 11, 2, 0, 0, 0, 0), (4, .invokestatic 77, 3, 39, 3, 2, 45), (7, .ireturn, 1, 1, 0, 0, 0)]
/-- LikeTalesModel.at(II)I -/
def kX10_at : List (Nat × jO) := [(0, .bipush 84, 2, 0, 0, 0, 0), (2, .iload_n 0, 1, 0, 0, 0, 0), (3, .imul, 1, 0, 0, 0, 0), (4, .bipush 6, 2, 0, 0, 0, 0), (6, .iload_n 1, 1, 0, 0, 0, 0), (7, .imul, 1, 0, 0, 0, 0), (8, .iadd, 1, 0, 0, 0, 0), (9, .ireturn, 1, 0, 0, 0, 0)]
/-- LikeTalesModel.tiesOf(I)I -/
def kX10_tiesOf : List (Nat × jO) := [(0, .iconst 0, 1, 0, 0, 0, 0), (1, .istore_n 2, 1, 0, 0, 0, 0), (2, .iconst 0, 1, 0, 0, 0, 0), (3, .istore_n 3, 1, 0, 0, 0, 0), (4, .iload_n 3, 1, 0, 0, 0, 0), (5, .bipush 12, 2, 0, 0, 0, 0), (7, .if_icmp .ge 52, 3, 0, 0, 0, 0), (10, .iconst 0, 1, 0, 0, 0, 0), (11, .istore 4, 2, 0, 0, 0, 0), (13, .iload 4, 2, 0, 0, 0, 0), (15, .aload_n 0, 1, 0, 0, 0, 0), (16, .getfield 32, 3, 10, 8, 1, 39), (19, .iload_n 3, 1, 0, 0, 0, 0), (20, .iaload, 1, 0, 0, 0, 0), (21, .if_icmp .ge 32, 3, 0, 0, 0, 0), (24, .iload_n 2, 1, 0, 0, 0, 0), (25, .aload_n 0, 1, 0, 0, 0, 0), (26, .getfield 35, 3, 10, 9, 1, 40), (29, .iload_n 3, 1, 0, 0, 0, 0), (30, .iload 4, 2, 0, 0, 0, 0), (32, .invokestatic 81, 3, 42, 2, 2, 46), (35, .iaload, 1, 0, 0, 0, 0), (36, .iload_n 1, 1, 0, 0, 0, 0), (37, .if_icmp .ne 7, 3, 0, 0, 0, 0), (40, .iconst 1, 1, 0, 0, 0, 0), (41, .goto 4, 3, 0, 0, 0, 0), (44, .iconst 0, 1, 0, 0, 0, 0), (45, .iadd, 1, 0, 0, 0, 0), (46, .istore_n 2, 1, 0, 0, 0, 0), (47, .iinc 4 1, 3, 0, 0, 0, 0), (50, .goto (-37), 3, 0, 0, 0, 0), (53, .iinc 3 1, 3, 0, 0, 0, 0), (56, .goto (-52), 3, 0, 0, 0, 0), (59, .iload_n 2, 1, 0, 0, 0, 0), (60, .ireturn, 1, 0, 0, 0, 0)]
/-- LikeTalesModel.isUsed(I)Z -/
def kX10_isUsed : List (Nat × jO) := [(0, .aload_n 0, 1, 0, 0, 0, 0), (1, .iload_n 1, 1, 0, 0, 0, 0), (2, .invokevirtual 85, 3, 43, 2, 0, 47), (5, .ifCond .le 7, 3, 0, 0, 0, 0), (8, .iconst 1, 1, 0, 0, 0, 0), (9, .goto 4, 3, 0, 0, 0, 0), (12, .iconst 0, 1, 0, 0, 0, 0), (13, .istore_n 2, 1, 0, 0, 0, 0), (14, .bipush 12, 2, 0, 0, 0, 0), (16, .istore_n 3, 1, 0, 0, 0, 0), (17, .iload_n 3, 1, 0, 0, 0, 0), (18, .bipush 14, 2, 0, 0, 0, 0), (20, .if_icmp .ge 61, 3, 0, 0, 0, 0), (23, .aload_n 0, 1, 0, 0, 0, 0), (24, .getfield 89, 3, 10, 17, 4, 41), (27, .ifCond .eq 54, 3, 0, 0, 0, 0), (30, .iconst 0, 1, 0, 0, 0, 0), (31, .istore 4, 2, 0, 0, 0, 0), (33, .iload 4, 2, 0, 0, 0, 0), (35, .aload_n 0, 1, 0, 0, 0, 0), (36, .getfield 32, 3, 10, 8, 1, 39), (39, .iload_n 3, 1, 0, 0, 0, 0), (40, .iaload, 1, 0, 0, 0, 0), (41, .if_icmp .ge 34, 3, 0, 0, 0, 0), (44, .iload_n 2, 1, 0, 0, 0, 0), (45, .ifCond .ne 18, 3, 0, 0, 0, 0), (48, .aload_n 0, 1, 0, 0, 0, 0), (49, .getfield 35, 3, 10, 9, 1, 40), (52, .iload_n 3, 1, 0, 0, 0, 0), (53, .iload 4, 2, 0, 0, 0, 0), (55, .invokestatic 81, 3, 42, 2, 2, 46), (58, .iaload, 1, 0, 0, 0, 0), (59, .iload_n 1, 1, 0, 0, 0, 0), (60, .if_icmp .ne 7, 3, 0, 0, 0, 0), (63, .iconst 1, 1, 0, 0, 0, 0), (64, .goto 4, 3, 0, 0, 0, 0), (67, .iconst 0, 1, 0, 0, 0, 0), (68, .istore_n 2, 1, 0, 0, 0, 0), (69, .iinc 4 1, 3, 0, 0, 0, 0), (72, .goto (-39), 3, 0, 0, 0, 0), (75, .iinc 3 1, 3, 0, 0, 0, 0), (78, .goto (-61), 3, 0, 0, 0, 0), (81, .iload_n 2, 1, 0, 0, 0, 0), (82, .ireturn, 1, 1, 0, 0, 0)]
/-- LikeTalesModel.isWide(I)Z -/
def kX10_isWide : List (Nat × jO) := [(0, .iconst 0, 1, 0, 0, 0, 0), (1, .istore_n 2, 1, 0, 0, 0, 0), (2, .iconst 0, 1, 0, 0, 0, 0), (3, .istore_n 3, 1, 0, 0, 0, 0), (4, .iload_n 3, 1, 0, 0, 0, 0), (5, .bipush 16, 2, 0, 0, 0, 0), (7, .if_icmp .ge 29, 3, 0, 0, 0, 0), (10, .iload_n 2, 1, 0, 0, 0, 0), (11, .ifCond .ne 13, 3, 0, 0, 0, 0), (14, .aload_n 0, 1, 0, 0, 0, 0), (15, .getfield 17, 3, 10, 2, 1, 42), (18, .iload_n 3, 1, 0, 0, 0, 0), (19, .iaload, 1, 0, 0, 0, 0), (20, .iload_n 1, 1, 0, 0, 0, 0), (21, .if_icmp .ne 7, 3, 0, 0, 0, 0), (24, .iconst 1, 1, 0, 0, 0, 0), (25, .goto 4, 3, 0, 0, 0, 0), (28, .iconst 0, 1, 0, 0, 0, 0), (29, .istore_n 2, 1, 0, 0, 0, 0), (30, .iinc 3 1, 3, 0, 0, 0, 0), (33, .goto (-29), 3, 0, 0, 0, 0), (36, .iload_n 2, 1, 0, 0, 0, 0), (37, .ireturn, 1, 1, 0, 0, 0)]
/-- LikeTalesModel.kind(IIZ)I -/
def kX10_kind : List (Nat × jO) := [(0, .iload_n 1, 1, 0, 0, 0, 0), (1, .invokestatic 93, 3, 40, 1, 2, 48), (4, .ifCond .ne 5, 3, 0, 0, 0, 0), (7, .iconst (-1), 1, 0, 0, 0, 0), (8, .ireturn, 1, 0, 0, 0, 0), (9, .iload_n 2, 1, 0, 0, 0, 0), (10, .iconst 1, 1, 0, 0, 0, 0), (11, .iconst 3, 1, 0, 0, 0, 0), (12, .invokestatic 77, 3, 39, 3, 2, 45), (15, .ifCond .ne 6, 3, 0, 0, 0, 0), (18, .bipush (-2), 2, 0, 0, 0, 0), (20, .ireturn, 1, 0, 0, 0, 0), (21, .aload_n 0, 1, 0, 0, 0, 0), (22, .iload_n 1, 1, 0, 0, 0, 0), (23, .invokevirtual 97, 3, 44, 2, 0, 49), (26, .ifCond .ne 29, 3, 0, 0, 0, 0), (29, .aload_n 0, 1, 0, 0, 0, 0), (30, .getfield 17, 3, 10, 2, 1, 42), (33, .iload_n 1, 1, 0, 0, 0, 0), (34, .iaload, 1, 0, 0, 0, 0), (35, .ifCond .ge 20, 3, 0, 0, 0, 0), (38, .aload_n 0, 1, 0, 0, 0, 0), (39, .iload_n 1, 1, 0, 0, 0, 0), (40, .invokevirtual 100, 3, 45, 2, 0, 50), (43, .ifCond .ne 12, 3, 0, 0, 0, 0), (46, .aload_n 0, 1, 0, 0, 0, 0), (47, .getfield 20, 3, 10, 3, 1, 43), (50, .iload_n 1, 1, 0, 0, 0, 0), (51, .iaload, 1, 0, 0, 0, 0), (52, .ifCond .lt 6, 3, 0, 0, 0, 0), (55, .bipush (-3), 2, 0, 0, 0, 0), (57, .ireturn, 1, 0, 0, 0, 0), (58, .aload_n 0, 1, 0, 0, 0, 0), (59, .getfield 7, 3, 10, 0, 1, 44), (62, .iload_n 1, 1, 0, 0, 0, 0), (63, .iaload, 1, 0, 0, 0, 0), (64, .istore 4, 2, 0, 0, 0, 0), (66, .aload_n 0, 1, 0, 0, 0, 0), (67, .getfield 7, 3, 10, 0, 1, 44), (70, .iload_n 1, 1, 0, 0, 0, 0), (71, .iload_n 2, 1, 0, 0, 0, 0), (72, .iastore, 1, 0, 0, 0, 0), (73, .aload_n 0, 1, 0, 0, 0, 0), (74, .getfield 13, 3, 10, 1, 1, 45), (77, .iload_n 1, 1, 0, 0, 0, 0), (78, .iload_n 3, 1, 0, 0, 0, 0), (79, .ifCond .eq 12, 3, 0, 0, 0, 0), (82, .iload_n 2, 1, 0, 0, 0, 0), (83, .iconst 2, 1, 0, 0, 0, 0), (84, .if_icmp .ne 7, 3, 0, 0, 0, 0), (87, .iconst 1, 1, 0, 0, 0, 0), (88, .goto 4, 3, 0, 0, 0, 0), (91, .iconst 0, 1, 0, 0, 0, 0), (92, .bastore, 1, 0, 0, 0, 0), (93, .iload 4, 2, 0, 0, 0, 0), (95, .ireturn, 1, 0, 0, 0, 0)]
/-- LikeTalesModel.above(II)I -/
def kX10_above : List (Nat × jO) := [(0, .iload_n 1, 1, 0, 0, 0, 0), (1, .istore_n 3, 1, 0, 0, 0, 0), (2, .iconst 0, 1, 0, 0, 0, 0), (3, .istore 4, 2, 0, 0, 0, 0), (5, .iload 4, 2, 0, 0, 0, 0), (7, .iload_n 2, 1, 0, 0, 0, 0), (8, .if_icmp .ge 29, 3, 0, 0, 0, 0), (11, .aload_n 0, 1, 0, 0, 0, 0), (12, .getfield 17, 3, 10, 2, 1, 42), (15, .iload_n 3, 1, 0, 0, 0, 0), (16, .iaload, 1, 0, 0, 0, 0), (17, .ifCond .lt 12, 3, 0, 0, 0, 0), (20, .aload_n 0, 1, 0, 0, 0, 0), (21, .getfield 17, 3, 10, 2, 1, 42), (24, .iload_n 3, 1, 0, 0, 0, 0), (25, .iaload, 1, 0, 0, 0, 0), (26, .goto 4, 3, 0, 0, 0, 0), (29, .iload_n 3, 1, 0, 0, 0, 0), (30, .istore_n 3, 1, 0, 0, 0, 0), (31, .iinc 4 1, 3, 0, 0, 0, 0), (34, .goto (-29), 3, 0, 0, 0, 0), (37, .iload_n 3, 1, 0, 0, 0, 0), (38, .ireturn, 1, 0, 0, 0, 0)]
/-- LikeTalesModel.wider(II)I -/
def kX10_wider : List (Nat × jO) := [(0, .iload_n 1, 1, 0, 0, 0, 0), (1, .invokestatic 93, 3, 40, 1, 2, 48), (4, .ifCond .eq 15, 3, 0, 0, 0, 0), (7, .iload_n 2, 1, 0, 0, 0, 0), (8, .iconst (-1), 1, 0, 0, 0, 0), (9, .if_icmp .eq 12, 3, 0, 0, 0, 0), (12, .iload_n 2, 1, 0, 0, 0, 0), (13, .invokestatic 93, 3, 40, 1, 2, 48), (16, .ifCond .ne 5, 3, 0, 0, 0, 0), (19, .iconst (-1), 1, 0, 0, 0, 0), (20, .ireturn, 1, 0, 0, 0, 0), (21, .aload_n 0, 1, 0, 0, 0, 0), (22, .iload_n 1, 1, 0, 0, 0, 0), (23, .invokevirtual 97, 3, 44, 2, 0, 49), (26, .ifCond .eq 6, 3, 0, 0, 0, 0), (29, .bipush (-3), 2, 0, 0, 0, 0), (31, .ireturn, 1, 0, 0, 0, 0), (32, .iconst 0, 1, 0, 0, 0, 0), (33, .istore_n 3, 1, 0, 0, 0, 0), (34, .iload_n 2, 1, 0, 0, 0, 0), (35, .istore 4, 2, 0, 0, 0, 0), (37, .iload 4, 2, 0, 0, 0, 0), (39, .ifCond .lt 31, 3, 0, 0, 0, 0), (42, .iload_n 3, 1, 0, 0, 0, 0), (43, .ifCond .ne 27, 3, 0, 0, 0, 0), (46, .iload 4, 2, 0, 0, 0, 0), (48, .iload_n 1, 1, 0, 0, 0, 0), (49, .if_icmp .ne 7, 3, 0, 0, 0, 0), (52, .iconst 1, 1, 0, 0, 0, 0), (53, .goto 4, 3, 0, 0, 0, 0), (56, .iconst 0, 1, 0, 0, 0, 0), (57, .istore_n 3, 1, 0, 0, 0, 0), (58, .aload_n 0, 1, 0, 0, 0, 0), (59, .getfield 17, 3, 10, 2, 1, 42), (62, .iload 4, 2, 0, 0, 0, 0), (64, .iaload, 1, 0, 0, 0, 0), (65, .istore 4, 2, 0, 0, 0, 0), (67, .goto (-30), 3, 0, 0, 0, 0), (70, .iload_n 2, 1, 0, 0, 0, 0), (71, .ifCond .lt 18, 3, 0, 0, 0, 0), (74, .aload_n 0, 1, 0, 0, 0, 0), (75, .getfield 7, 3, 10, 0, 1, 44), (78, .iload_n 2, 1, 0, 0, 0, 0), (79, .iaload, 1, 0, 0, 0, 0), (80, .aload_n 0, 1, 0, 0, 0, 0), (81, .getfield 7, 3, 10, 0, 1, 44), (84, .iload_n 1, 1, 0, 0, 0, 0), (85, .iaload, 1, 0, 0, 0, 0), (86, .if_icmp .ne 7, 3, 0, 0, 0, 0), (89, .iload_n 3, 1, 0, 0, 0, 0), (90, .ifCond .eq 6, 3, 0, 0, 0, 0), (93, .bipush (-5), 2, 0, 0, 0, 0), (95, .ireturn, 1, 0, 0, 0, 0), (96, .aload_n 0, 1, 0, 0, 0, 0), (97, .getfield 17, 3, 10, 2, 1, 42), (100, .iload_n 1, 1, 0, 0, 0, 0), (101, .iaload, 1, 0, 0, 0, 0), (102, .istore 4, 2, 0, 0, 0, 0), (104, .aload_n 0, 1, 0, 0, 0, 0), (105, .getfield 17, 3, 10, 2, 1, 42), (108, .iload_n 1, 1, 0, 0, 0, 0), (109, .iload_n 2, 1, 0, 0, 0, 0), (110, .ifCond .ge 8, 3, 0, 0, 0, 0), (113, .bipush (-6), 2, 0, 0, 0, 0), (115, .goto 4, 3, 0, 0, 0, 0), (118, .iload_n 2, 1, 0, 0, 0, 0), (119, .iastore, 1, 0, 0, 0, 0), (120, .iload 4, 2, 0, 0, 0, 0), (122, .ireturn, 1, 0, 0, 0, 0)]
/-- LikeTalesModel.free(I)V -/
def kX10_free : List (Nat × jO) := [(0, .aload_n 0, 1, 0, 0, 0, 0), (1, .getfield 20, 3, 10, 3, 1, 43), (4, .iload_n 1, 1, 0, 0, 0, 0), (5, .iaload, 1, 0, 0, 0, 0), (6, .ifCond .lt 24, 3, 0, 0, 0, 0), (9, .aload_n 0, 1, 0, 0, 0, 0), (10, .getfield 20, 3, 10, 3, 1, 43), (13, .aload_n 0, 1, 0, 0, 0, 0), (14, .getfield 20, 3, 10, 3, 1, 43), (17, .iload_n 1, 1, 0, 0, 0, 0), (18, .iaload, 1, 0, 0, 0, 0), (19, .bipush (-6), 2, 0, 0, 0, 0), (21, .iastore, 1, 0, 0, 0, 0), (22, .aload_n 0, 1, 0, 0, 0, 0), (23, .getfield 20, 3, 10, 3, 1, 43), (26, .iload_n 1, 1, 0, 0, 0, 0), (27, .bipush (-6), 2, 0, 0, 0, 0), (29, .iastore, 1, 0, 0, 0, 0), (30, .return_, 1, 0, 0, 0, 0)]
/-- LikeTalesModel.opposite(II)I -/
def kX10_opposite : List (Nat × jO) := [(0, .iload_n 1, 1, 0, 0, 0, 0), (1, .invokestatic 93, 3, 40, 1, 2, 48), (4, .ifCond .eq 10, 3, 0, 0, 0, 0), (7, .iload_n 2, 1, 0, 0, 0, 0), (8, .invokestatic 93, 3, 40, 1, 2, 48), (11, .ifCond .ne 5, 3, 0, 0, 0, 0), (14, .iconst (-1), 1, 0, 0, 0, 0), (15, .ireturn, 1, 0, 0, 0, 0), (16, .aload_n 0, 1, 0, 0, 0, 0), (17, .getfield 7, 3, 10, 0, 1, 44), (20, .iload_n 1, 1, 0, 0, 0, 0), (21, .iaload, 1, 0, 0, 0, 0), (22, .aload_n 0, 1, 0, 0, 0, 0), (23, .getfield 7, 3, 10, 0, 1, 44), (26, .iload_n 2, 1, 0, 0, 0, 0), (27, .iaload, 1, 0, 0, 0, 0), (28, .if_icmp .eq 6, 3, 0, 0, 0, 0), (31, .bipush (-5), 2, 0, 0, 0, 0), (33, .ireturn, 1, 0, 0, 0, 0), (34, .aload_n 0, 1, 0, 0, 0, 0), (35, .iload_n 1, 1, 0, 0, 0, 0), (36, .invokevirtual 103, 3, 49, 2, 1, 51), (39, .aload_n 0, 1, 0, 0, 0, 0), (40, .iload_n 2, 1, 0, 0, 0, 0), (41, .invokevirtual 103, 3, 49, 2, 1, 51), (44, .iload_n 1, 1, 0, 0, 0, 0), (45, .iload_n 2, 1, 0, 0, 0, 0), (46, .if_icmp .eq 17, 3, 0, 0, 0, 0), (49, .aload_n 0, 1, 0, 0, 0, 0), (50, .getfield 20, 3, 10, 3, 1, 43), (53, .iload_n 1, 1, 0, 0, 0, 0), (54, .iload_n 2, 1, 0, 0, 0, 0), (55, .iastore, 1, 0, 0, 0, 0), (56, .aload_n 0, 1, 0, 0, 0, 0), (57, .getfield 20, 3, 10, 3, 1, 43), (60, .iload_n 2, 1, 0, 0, 0, 0), (61, .iload_n 1, 1, 0, 0, 0, 0), (62, .iastore, 1, 0, 0, 0, 0), (63, .iconst 1, 1, 0, 0, 0, 0), (64, .ireturn, 1, 0, 0, 0, 0)]
/-- LikeTalesModel.ofKind(II)I -/
def kX10_ofKind : List (Nat × jO) := [(0, .iload_n 1, 1, 0, 0, 0, 0), (1, .invokestatic 93, 3, 40, 1, 2, 48), (4, .ifCond .ne 5, 3, 0, 0, 0, 0), (7, .iconst (-1), 1, 0, 0, 0, 0), (8, .ireturn, 1, 0, 0, 0, 0), (9, .iload_n 2, 1, 0, 0, 0, 0), (10, .tableswitch 76 0 4 #[34, 41, 56, 63, 70], 34, 0, 0, 0, 0), (44, .aload_n 0, 1, 0, 0, 0, 0), (45, .getfield 7, 3, 10, 0, 1, 44), (48, .iload_n 1, 1, 0, 0, 0, 0), (49, .iaload, 1, 0, 0, 0, 0), (50, .ireturn, 1, 0, 0, 0, 0), (51, .aload_n 0, 1, 0, 0, 0, 0), (52, .getfield 13, 3, 10, 1, 1, 45), (55, .iload_n 1, 1, 0, 0, 0, 0), (56, .baload, 1, 0, 0, 0, 0), (57, .ifCond .eq 7, 3, 0, 0, 0, 0), (60, .iconst 1, 1, 0, 0, 0, 0), (61, .goto 4, 3, 0, 0, 0, 0), (64, .iconst 0, 1, 0, 0, 0, 0), (65, .ireturn, 1, 0, 0, 0, 0), (66, .aload_n 0, 1, 0, 0, 0, 0), (67, .getfield 17, 3, 10, 2, 1, 42), (70, .iload_n 1, 1, 0, 0, 0, 0), (71, .iaload, 1, 0, 0, 0, 0), (72, .ireturn, 1, 0, 0, 0, 0), (73, .aload_n 0, 1, 0, 0, 0, 0), (74, .getfield 20, 3, 10, 3, 1, 43), (77, .iload_n 1, 1, 0, 0, 0, 0), (78, .iaload, 1, 0, 0, 0, 0), (79, .ireturn, 1, 0, 0, 0, 0), (80, .aload_n 0, 1, 0, 0, 0, 0), (81, .iload_n 1, 1, 0, 0, 0, 0), (82, .invokevirtual 85, 3, 43, 2, 0, 47), (85, .ireturn, 1, 0, 0, 0, 0), (86, .bipush (-2), 2, 0, 0, 0, 0), (88, .ireturn, 1, 0, 0, 0, 0)]
/-- LikeTalesModel.alikeAt(III)I -/
def kX10_alikeAt : List (Nat × jO) := [(0, .iconst 0, 1, 0, 0, 0, 0), (1, .istore 4, 2, 0, 0, 0, 0), (3, .iload 4, 2, 0, 0, 0, 0), (5, .iload_n 3, 1, 0, 0, 0, 0), (6, .if_icmp .gt 29, 3, 0, 0, 0, 0), (9, .aload_n 0, 1, 0, 0, 0, 0), (10, .iload_n 1, 1, 0, 0, 0, 0), (11, .iload 4, 2, 0, 0, 0, 0), (13, .invokevirtual 107, 3, 47, 3, 0, 52), (16, .aload_n 0, 1, 0, 0, 0, 0), (17, .iload_n 2, 1, 0, 0, 0, 0), (18, .iload 4, 2, 0, 0, 0, 0), (20, .invokevirtual 107, 3, 47, 3, 0, 52), (23, .if_icmp .ne 6, 3, 0, 0, 0, 0), (26, .iload 4, 2, 0, 0, 0, 0), (28, .ireturn, 1, 0, 0, 0, 0), (29, .iinc 4 1, 3, 0, 0, 0, 0), (32, .goto (-29), 3, 0, 0, 0, 0), (35, .bipush (-6), 2, 0, 0, 0, 0), (37, .ireturn, 1, 0, 0, 0, 0)]
/-- LikeTalesModel.alike(II)I -/
def kX10_alike : List (Nat × jO) := [(0, .iload_n 1, 1, 0, 0, 0, 0), (1, .invokestatic 93, 3, 40, 1, 2, 48), (4, .ifCond .eq 20, 3, 0, 0, 0, 0), (7, .iload_n 2, 1, 0, 0, 0, 0), (8, .invokestatic 93, 3, 40, 1, 2, 48), (11, .ifCond .eq 13, 3, 0, 0, 0, 0), (14, .aload_n 0, 1, 0, 0, 0, 0), (15, .iload_n 1, 1, 0, 0, 0, 0), (16, .iload_n 2, 1, 0, 0, 0, 0), (17, .iconst 2, 1, 0, 0, 0, 0), (18, .invokevirtual 110, 3, 52, 4, 0, 53), (21, .goto 4, 3, 0, 0, 0, 0), (24, .iconst (-1), 1, 0, 0, 0, 0), (25, .ireturn, 1, 0, 0, 0, 0)]
/-- LikeTalesModel.timed(I)I -/
def kX10_timed : List (Nat × jO) := [(0, .iload_n 1, 1, 0, 0, 0, 0), (1, .iconst 0, 1, 0, 0, 0, 0), (2, .iconst 1, 1, 0, 0, 0, 0), (3, .invokestatic 77, 3, 39, 3, 2, 45), (6, .ifCond .ne 6, 3, 0, 0, 0, 0), (9, .bipush (-2), 2, 0, 0, 0, 0), (11, .ireturn, 1, 0, 0, 0, 0), (12, .aload_n 0, 1, 0, 0, 0, 0), (13, .getfield 114, 3, 10, 4, 0, 46), (16, .istore_n 2, 1, 0, 0, 0, 0), (17, .aload_n 0, 1, 0, 0, 0, 0), (18, .iload_n 1, 1, 0, 0, 0, 0), (19, .putfield 114, 3, 10, 4, 0, 46), (22, .iload_n 2, 1, 0, 0, 0, 0), (23, .ireturn, 1, 0, 0, 0, 0)]
/-- LikeTalesModel.empty(II)V -/
def kX10_empty : List (Nat × jO) := [(0, .aload_n 0, 1, 0, 0, 0, 0), (1, .getfield 23, 3, 10, 5, 1, 47), (4, .iload_n 1, 1, 0, 0, 0, 0), (5, .iload_n 2, 1, 0, 0, 0, 0), (6, .iastore, 1, 0, 0, 0, 0), (7, .aload_n 0, 1, 0, 0, 0, 0), (8, .getfield 32, 3, 10, 8, 1, 39), (11, .iload_n 1, 1, 0, 0, 0, 0), (12, .iconst 0, 1, 0, 0, 0, 0), (13, .iastore, 1, 0, 0, 0, 0), (14, .aload_n 0, 1, 0, 0, 0, 0), (15, .getfield 29, 3, 10, 7, 1, 48), (18, .iload_n 1, 1, 0, 0, 0, 0), (19, .iconst 0, 1, 0, 0, 0, 0), (20, .iastore, 1, 0, 0, 0, 0), (21, .iconst 0, 1, 0, 0, 0, 0), (22, .istore_n 3, 1, 0, 0, 0, 0), (23, .iload_n 3, 1, 0, 0, 0, 0), (24, .bipush 6, 2, 0, 0, 0, 0), (26, .if_icmp .ge 21, 3, 0, 0, 0, 0), (29, .aload_n 0, 1, 0, 0, 0, 0), (30, .getfield 26, 3, 10, 6, 1, 49), (33, .bipush 6, 2, 0, 0, 0, 0), (35, .iload_n 1, 1, 0, 0, 0, 0), (36, .imul, 1, 0, 0, 0, 0), (37, .iload_n 3, 1, 0, 0, 0, 0), (38, .iadd, 1, 0, 0, 0, 0), (39, .iconst 0, 1, 0, 0, 0, 0), (40, .iastore, 1, 0, 0, 0, 0), (41, .iinc 3 1, 3, 0, 0, 0, 0), (44, .goto (-21), 3, 0, 0, 0, 0), (47, .return_, 1, 0, 0, 0, 0)]
/-- LikeTalesModel.tale(II)I -/
def kX10_tale : List (Nat × jO) := [(0, .iload_n 1, 1, 0, 0, 0, 0), (1, .invokestatic 118, 3, 41, 1, 2, 54), (4, .ifCond .ne 5, 3, 0, 0, 0, 0), (7, .iconst (-1), 1, 0, 0, 0, 0), (8, .ireturn, 1, 0, 0, 0, 0), (9, .iload_n 2, 1, 0, 0, 0, 0), (10, .iconst 0, 1, 0, 0, 0, 0), (11, .bipush 6, 2, 0, 0, 0, 0), (13, .invokestatic 77, 3, 39, 3, 2, 45), (16, .ifCond .ne 6, 3, 0, 0, 0, 0), (19, .bipush (-2), 2, 0, 0, 0, 0), (21, .ireturn, 1, 0, 0, 0, 0), (22, .aload_n 0, 1, 0, 0, 0, 0), (23, .iload_n 1, 1, 0, 0, 0, 0), (24, .iload_n 2, 1, 0, 0, 0, 0), (25, .invokevirtual 121, 3, 55, 3, 1, 55), (28, .iconst 1, 1, 0, 0, 0, 0), (29, .ireturn, 1, 0, 0, 0, 0)]
/-- LikeTalesModel.isThing(II)Z -/
def kX10_isThing : List (Nat × jO) := [(0, .iload_n 2, 1, 0, 0, 0, 0), (1, .iconst 0, 1, 0, 0, 0, 0), (2, .aload_n 0, 1, 0, 0, 0, 0), (3, .getfield 23, 3, 10, 5, 1, 47), (6, .iload_n 1, 1, 0, 0, 0, 0), (7, .iaload, 1, 0, 0, 0, 0), (8, .iconst 1, 1, 0, 0, 0, 0), (9, .isub, 1, 0, 0, 0, 0), (10, .invokestatic 77, 3, 39, 3, 2, 45), (13, .ireturn, 1, 1, 0, 0, 0)]
/-- LikeTalesModel.sort(III)I -/
def kX10_sort : List (Nat × jO) := [(0, .iload_n 1, 1, 0, 0, 0, 0), (1, .invokestatic 118, 3, 41, 1, 2, 54), (4, .ifCond .eq 12, 3, 0, 0, 0, 0), (7, .aload_n 0, 1, 0, 0, 0, 0), (8, .iload_n 1, 1, 0, 0, 0, 0), (9, .iload_n 2, 1, 0, 0, 0, 0), (10, .invokevirtual 125, 3, 57, 3, 0, 56), (13, .ifCond .ne 5, 3, 0, 0, 0, 0), (16, .iconst (-1), 1, 0, 0, 0, 0), (17, .ireturn, 1, 0, 0, 0, 0), (18, .iload_n 3, 1, 0, 0, 0, 0), (19, .iconst 0, 1, 0, 0, 0, 0), (20, .bipush 9, 2, 0, 0, 0, 0), (22, .invokestatic 77, 3, 39, 3, 2, 45), (25, .ifCond .ne 6, 3, 0, 0, 0, 0), (28, .bipush (-2), 2, 0, 0, 0, 0), (30, .ireturn, 1, 0, 0, 0, 0), (31, .aload_n 0, 1, 0, 0, 0, 0), (32, .getfield 26, 3, 10, 6, 1, 49), (35, .bipush 6, 2, 0, 0, 0, 0), (37, .iload_n 1, 1, 0, 0, 0, 0), (38, .imul, 1, 0, 0, 0, 0), (39, .iload_n 2, 1, 0, 0, 0, 0), (40, .iadd, 1, 0, 0, 0, 0), (41, .iaload, 1, 0, 0, 0, 0), (42, .istore 4, 2, 0, 0, 0, 0), (44, .aload_n 0, 1, 0, 0, 0, 0), (45, .getfield 26, 3, 10, 6, 1, 49), (48, .bipush 6, 2, 0, 0, 0, 0), (50, .iload_n 1, 1, 0, 0, 0, 0), (51, .imul, 1, 0, 0, 0, 0), (52, .iload_n 2, 1, 0, 0, 0, 0), (53, .iadd, 1, 0, 0, 0, 0), (54, .iload_n 3, 1, 0, 0, 0, 0), (55, .iastore, 1, 0, 0, 0, 0), (56, .iload 4, 2, 0, 0, 0, 0), (58, .ireturn, 1, 0, 0, 0, 0)]
/-- LikeTalesModel.label(II)I -/
def kX10_label : List (Nat × jO) := [(0, .iload_n 1, 1, 0, 0, 0, 0), (1, .invokestatic 118, 3, 41, 1, 2, 54), (4, .ifCond .ne 5, 3, 0, 0, 0, 0), (7, .iconst (-1), 1, 0, 0, 0, 0), (8, .ireturn, 1, 0, 0, 0, 0), (9, .iload_n 2, 1, 0, 0, 0, 0), (10, .iconst 0, 1, 0, 0, 0, 0), (11, .bipush 9, 2, 0, 0, 0, 0), (13, .invokestatic 77, 3, 39, 3, 2, 45), (16, .ifCond .ne 6, 3, 0, 0, 0, 0), (19, .bipush (-2), 2, 0, 0, 0, 0), (21, .ireturn, 1, 0, 0, 0, 0), (22, .aload_n 0, 1, 0, 0, 0, 0), (23, .getfield 29, 3, 10, 7, 1, 48), (26, .iload_n 1, 1, 0, 0, 0, 0), (27, .iaload, 1, 0, 0, 0, 0), (28, .istore_n 3, 1, 0, 0, 0, 0), (29, .aload_n 0, 1, 0, 0, 0, 0), (30, .getfield 29, 3, 10, 7, 1, 48), (33, .iload_n 1, 1, 0, 0, 0, 0), (34, .iload_n 2, 1, 0, 0, 0, 0), (35, .iastore, 1, 0, 0, 0, 0), (36, .iload_n 3, 1, 0, 0, 0, 0), (37, .ireturn, 1, 0, 0, 0, 0)]
/-- LikeTalesModel.isEnd(II)Z -/
def kX10_isEnd : List (Nat × jO) := [(0, .aload_n 0, 1, 0, 0, 0, 0), (1, .iload_n 1, 1, 0, 0, 0, 0), (2, .iload_n 2, 1, 0, 0, 0, 0), (3, .invokevirtual 125, 3, 57, 3, 0, 56), (6, .ifCond .ne 21, 3, 0, 0, 0, 0), (9, .iload_n 2, 1, 0, 0, 0, 0), (10, .bipush 10, 2, 0, 0, 0, 0), (12, .bipush 9, 2, 0, 0, 0, 0), (14, .aload_n 0, 1, 0, 0, 0, 0), (15, .getfield 32, 3, 10, 8, 1, 39), (18, .iload_n 1, 1, 0, 0, 0, 0), (19, .iaload, 1, 0, 0, 0, 0), (20, .iadd, 1, 0, 0, 0, 0), (21, .invokestatic 77, 3, 39, 3, 2, 45), (24, .ifCond .eq 7, 3, 0, 0, 0, 0), (27, .iconst 1, 1, 0, 0, 0, 0), (28, .goto 4, 3, 0, 0, 0, 0), (31, .iconst 0, 1, 0, 0, 0, 0), (32, .ireturn, 1, 1, 0, 0, 0)]
/-- LikeTalesModel.tieWith(IIIII)I -/
def kX10_tieWith : List (Nat × jO) := [(0, .iconst 0, 1, 0, 0, 0, 0), (1, .istore 6, 2, 0, 0, 0, 0), (3, .iload 6, 2, 0, 0, 0, 0), (5, .aload_n 0, 1, 0, 0, 0, 0), (6, .getfield 32, 3, 10, 8, 1, 39), (9, .iload_n 1, 1, 0, 0, 0, 0), (10, .iaload, 1, 0, 0, 0, 0), (11, .if_icmp .ge 152, 3, 0, 0, 0, 0), (14, .iload_n 1, 1, 0, 0, 0, 0), (15, .iload 6, 2, 0, 0, 0, 0), (17, .invokestatic 81, 3, 42, 2, 2, 46), (20, .istore 7, 2, 0, 0, 0, 0), (22, .aload_n 0, 1, 0, 0, 0, 0), (23, .getfield 35, 3, 10, 9, 1, 40), (26, .iload 7, 2, 0, 0, 0, 0), (28, .iconst 1, 1, 0, 0, 0, 0), (29, .iadd, 1, 0, 0, 0, 0), (30, .iaload, 1, 0, 0, 0, 0), (31, .iload_n 3, 1, 0, 0, 0, 0), (32, .if_icmp .ne 55, 3, 0, 0, 0, 0), (35, .aload_n 0, 1, 0, 0, 0, 0), (36, .getfield 7, 3, 10, 0, 1, 44), (39, .iload_n 2, 1, 0, 0, 0, 0), (40, .iaload, 1, 0, 0, 0, 0), (41, .iconst 2, 1, 0, 0, 0, 0), (42, .if_icmp .lt 17, 3, 0, 0, 0, 0), (45, .aload_n 0, 1, 0, 0, 0, 0), (46, .getfield 35, 3, 10, 9, 1, 40), (49, .iload 7, 2, 0, 0, 0, 0), (51, .iconst 2, 1, 0, 0, 0, 0), (52, .iadd, 1, 0, 0, 0, 0), (53, .iaload, 1, 0, 0, 0, 0), (54, .iload 4, 2, 0, 0, 0, 0), (56, .if_icmp .ne 31, 3, 0, 0, 0, 0), (59, .aload_n 0, 1, 0, 0, 0, 0), (60, .getfield 7, 3, 10, 0, 1, 44), (63, .iload_n 2, 1, 0, 0, 0, 0), (64, .iaload, 1, 0, 0, 0, 0), (65, .iconst 3, 1, 0, 0, 0, 0), (66, .if_icmp .lt 17, 3, 0, 0, 0, 0), (69, .aload_n 0, 1, 0, 0, 0, 0), (70, .getfield 35, 3, 10, 9, 1, 40), (73, .iload 7, 2, 0, 0, 0, 0), (75, .iconst 3, 1, 0, 0, 0, 0), (76, .iadd, 1, 0, 0, 0, 0), (77, .iaload, 1, 0, 0, 0, 0), (78, .iload 5, 2, 0, 0, 0, 0), (80, .if_icmp .ne 7, 3, 0, 0, 0, 0), (83, .iconst 1, 1, 0, 0, 0, 0), (84, .goto 4, 3, 0, 0, 0, 0), (87, .iconst 0, 1, 0, 0, 0, 0), (88, .istore 8, 2, 0, 0, 0, 0), (90, .aload_n 0, 1, 0, 0, 0, 0), (91, .getfield 13, 3, 10, 1, 1, 45), (94, .iload_n 2, 1, 0, 0, 0, 0), (95, .baload, 1, 0, 0, 0, 0), (96, .ifCond .eq 34, 3, 0, 0, 0, 0), (99, .aload_n 0, 1, 0, 0, 0, 0), (100, .getfield 35, 3, 10, 9, 1, 40), (103, .iload 7, 2, 0, 0, 0, 0), (105, .iconst 1, 1, 0, 0, 0, 0), (106, .iadd, 1, 0, 0, 0, 0), (107, .iaload, 1, 0, 0, 0, 0), (108, .iload 4, 2, 0, 0, 0, 0), (110, .if_icmp .ne 20, 3, 0, 0, 0, 0), (113, .aload_n 0, 1, 0, 0, 0, 0), (114, .getfield 35, 3, 10, 9, 1, 40), (117, .iload 7, 2, 0, 0, 0, 0), (119, .iconst 2, 1, 0, 0, 0, 0), (120, .iadd, 1, 0, 0, 0, 0), (121, .iaload, 1, 0, 0, 0, 0), (122, .iload_n 3, 1, 0, 0, 0, 0), (123, .if_icmp .ne 7, 3, 0, 0, 0, 0), (126, .iconst 1, 1, 0, 0, 0, 0), (127, .goto 4, 3, 0, 0, 0, 0), (130, .iconst 0, 1, 0, 0, 0, 0), (131, .istore 9, 2, 0, 0, 0, 0), (133, .aload_n 0, 1, 0, 0, 0, 0), (134, .getfield 35, 3, 10, 9, 1, 40), (137, .iload 7, 2, 0, 0, 0, 0), (139, .iaload, 1, 0, 0, 0, 0), (140, .iload_n 2, 1, 0, 0, 0, 0), (141, .if_icmp .ne 16, 3, 0, 0, 0, 0), (144, .iload 8, 2, 0, 0, 0, 0), (146, .ifCond .ne 8, 3, 0, 0, 0, 0), (149, .iload 9, 2, 0, 0, 0, 0), (151, .ifCond .eq 6, 3, 0, 0, 0, 0), (154, .iload 6, 2, 0, 0, 0, 0), (156, .ireturn, 1, 0, 0, 0, 0), (157, .iinc 6 1, 3, 0, 0, 0, 0), (160, .goto (-157), 3, 0, 0, 0, 0), (163, .bipush (-6), 2, 0, 0, 0, 0), (165, .ireturn, 1, 0, 0, 0, 0)]
/-- LikeTalesModel.heightOf(IIIII)I -/
def kX10_heightOf : List (Nat × jO) := [(0, .iconst 0, 1, 0, 0, 0, 0), (1, .istore 6, 2, 0, 0, 0, 0), (3, .iconst 0, 1, 0, 0, 0, 0), (4, .istore 7, 2, 0, 0, 0, 0), (6, .iload 7, 2, 0, 0, 0, 0), (8, .aload_n 0, 1, 0, 0, 0, 0), (9, .getfield 7, 3, 10, 0, 1, 44), (12, .iload_n 2, 1, 0, 0, 0, 0), (13, .iaload, 1, 0, 0, 0, 0), (14, .if_icmp .ge 78, 3, 0, 0, 0, 0), (17, .iload 7, 2, 0, 0, 0, 0), (19, .ifCond .ne 7, 3, 0, 0, 0, 0), (22, .iload_n 3, 1, 0, 0, 0, 0), (23, .goto 16, 3, 0, 0, 0, 0), (26, .iload 7, 2, 0, 0, 0, 0), (28, .iconst 1, 1, 0, 0, 0, 0), (29, .if_icmp .ne 8, 3, 0, 0, 0, 0), (32, .iload 4, 2, 0, 0, 0, 0), (34, .goto 5, 3, 0, 0, 0, 0), (37, .iload 5, 2, 0, 0, 0, 0), (39, .istore 8, 2, 0, 0, 0, 0), (41, .iload 8, 2, 0, 0, 0, 0), (43, .bipush 10, 2, 0, 0, 0, 0), (45, .if_icmp .ge 7, 3, 0, 0, 0, 0), (48, .iconst 0, 1, 0, 0, 0, 0), (49, .goto 19, 3, 0, 0, 0, 0), (52, .aload_n 0, 1, 0, 0, 0, 0), (53, .getfield 35, 3, 10, 9, 1, 40), (56, .iload_n 1, 1, 0, 0, 0, 0), (57, .iload 8, 2, 0, 0, 0, 0), (59, .bipush 10, 2, 0, 0, 0, 0), (61, .isub, 1, 0, 0, 0, 0), (62, .invokestatic 81, 3, 42, 2, 2, 46), (65, .iconst 5, 1, 0, 0, 0, 0), (66, .iadd, 1, 0, 0, 0, 0), (67, .iaload, 1, 0, 0, 0, 0), (68, .istore 9, 2, 0, 0, 0, 0), (70, .iload 9, 2, 0, 0, 0, 0), (72, .iload 6, 2, 0, 0, 0, 0), (74, .if_icmp .le 8, 3, 0, 0, 0, 0), (77, .iload 9, 2, 0, 0, 0, 0), (79, .goto 5, 3, 0, 0, 0, 0), (82, .iload 6, 2, 0, 0, 0, 0), (84, .istore 6, 2, 0, 0, 0, 0), (86, .iinc 7 1, 3, 0, 0, 0, 0), (89, .goto (-83), 3, 0, 0, 0, 0), (92, .iload 6, 2, 0, 0, 0, 0), (94, .iconst 1, 1, 0, 0, 0, 0), (95, .iadd, 1, 0, 0, 0, 0), (96, .ireturn, 1, 0, 0, 0, 0)]
/-- LikeTalesModel.put(IIIIII)V -/
def kX10_put : List (Nat × jO) := [(0, .iload_n 1, 1, 0, 0, 0, 0), (1, .aload_n 0, 1, 0, 0, 0, 0), (2, .getfield 32, 3, 10, 8, 1, 39), (5, .iload_n 1, 1, 0, 0, 0, 0), (6, .iaload, 1, 0, 0, 0, 0), (7, .invokestatic 81, 3, 42, 2, 2, 46), (10, .istore 7, 2, 0, 0, 0, 0), (12, .aload_n 0, 1, 0, 0, 0, 0), (13, .getfield 35, 3, 10, 9, 1, 40), (16, .iload 7, 2, 0, 0, 0, 0), (18, .iconst 5, 1, 0, 0, 0, 0), (19, .iadd, 1, 0, 0, 0, 0), (20, .aload_n 0, 1, 0, 0, 0, 0), (21, .iload_n 1, 1, 0, 0, 0, 0), (22, .iload_n 2, 1, 0, 0, 0, 0), (23, .iload_n 3, 1, 0, 0, 0, 0), (24, .iload 4, 2, 0, 0, 0, 0), (26, .iload 5, 2, 0, 0, 0, 0), (28, .invokevirtual 129, 3, 62, 6, 0, 57), (31, .iastore, 1, 0, 0, 0, 0), (32, .aload_n 0, 1, 0, 0, 0, 0), (33, .getfield 35, 3, 10, 9, 1, 40), (36, .iload 7, 2, 0, 0, 0, 0), (38, .iload_n 2, 1, 0, 0, 0, 0), (39, .iastore, 1, 0, 0, 0, 0), (40, .aload_n 0, 1, 0, 0, 0, 0), (41, .getfield 35, 3, 10, 9, 1, 40), (44, .iload 7, 2, 0, 0, 0, 0), (46, .iconst 1, 1, 0, 0, 0, 0), (47, .iadd, 1, 0, 0, 0, 0), (48, .iload_n 3, 1, 0, 0, 0, 0), (49, .iastore, 1, 0, 0, 0, 0), (50, .aload_n 0, 1, 0, 0, 0, 0), (51, .getfield 35, 3, 10, 9, 1, 40), (54, .iload 7, 2, 0, 0, 0, 0), (56, .iconst 2, 1, 0, 0, 0, 0), (57, .iadd, 1, 0, 0, 0, 0), (58, .aload_n 0, 1, 0, 0, 0, 0), (59, .getfield 7, 3, 10, 0, 1, 44), (62, .iload_n 2, 1, 0, 0, 0, 0), (63, .iaload, 1, 0, 0, 0, 0), (64, .iconst 1, 1, 0, 0, 0, 0), (65, .if_icmp .le 8, 3, 0, 0, 0, 0), (68, .iload 4, 2, 0, 0, 0, 0), (70, .goto 5, 3, 0, 0, 0, 0), (73, .bipush (-6), 2, 0, 0, 0, 0), (75, .iastore, 1, 0, 0, 0, 0), (76, .aload_n 0, 1, 0, 0, 0, 0), (77, .getfield 35, 3, 10, 9, 1, 40), (80, .iload 7, 2, 0, 0, 0, 0), (82, .iconst 3, 1, 0, 0, 0, 0), (83, .iadd, 1, 0, 0, 0, 0), (84, .aload_n 0, 1, 0, 0, 0, 0), (85, .getfield 7, 3, 10, 0, 1, 44), (88, .iload_n 2, 1, 0, 0, 0, 0), (89, .iaload, 1, 0, 0, 0, 0), (90, .iconst 2, 1, 0, 0, 0, 0), (91, .if_icmp .le 8, 3, 0, 0, 0, 0), (94, .iload 5, 2, 0, 0, 0, 0), (96, .goto 5, 3, 0, 0, 0, 0), (99, .bipush (-6), 2, 0, 0, 0, 0), (101, .iastore, 1, 0, 0, 0, 0), (102, .aload_n 0, 1, 0, 0, 0, 0), (103, .getfield 35, 3, 10, 9, 1, 40), (106, .iload 7, 2, 0, 0, 0, 0), (108, .iconst 4, 1, 0, 0, 0, 0), (109, .iadd, 1, 0, 0, 0, 0), (110, .iload 6, 2, 0, 0, 0, 0), (112, .iastore, 1, 0, 0, 0, 0), (113, .aload_n 0, 1, 0, 0, 0, 0), (114, .getfield 32, 3, 10, 8, 1, 39), (117, .iload_n 1, 1, 0, 0, 0, 0), (118, .dup2, 1, 0, 0, 0, 0), (119, .iaload, 1, 0, 0, 0, 0), (120, .iconst 1, 1, 0, 0, 0, 0), (121, .iadd, 1, 0, 0, 0, 0), (122, .iastore, 1, 0, 0, 0, 0), (123, .return_, 1, 0, 0, 0, 0)]
/-- LikeTalesModel.tie(IIIIII)I -/
def kX10_tie : List (Nat × jO) := [(0, .iload_n 1, 1, 0, 0, 0, 0), (1, .invokestatic 118, 3, 41, 1, 2, 54), (4, .ifCond .eq 10, 3, 0, 0, 0, 0), (7, .iload_n 2, 1, 0, 0, 0, 0), (8, .invokestatic 93, 3, 40, 1, 2, 48), (11, .ifCond .ne 5, 3, 0, 0, 0, 0), (14, .iconst (-1), 1, 0, 0, 0, 0), (15, .ireturn, 1, 0, 0, 0, 0), (16, .iload 6, 2, 0, 0, 0, 0), (18, .iconst (-1), 1, 0, 0, 0, 0), (19, .bipush 9, 2, 0, 0, 0, 0), (21, .invokestatic 77, 3, 39, 3, 2, 45), (24, .ifCond .eq 16, 3, 0, 0, 0, 0), (27, .aload_n 0, 1, 0, 0, 0, 0), (28, .iload_n 1, 1, 0, 0, 0, 0), (29, .iload_n 3, 1, 0, 0, 0, 0), (30, .invokevirtual 133, 3, 60, 3, 0, 58), (33, .ifCond .eq 7, 3, 0, 0, 0, 0), (36, .iconst 1, 1, 0, 0, 0, 0), (37, .goto 4, 3, 0, 0, 0, 0), (40, .iconst 0, 1, 0, 0, 0, 0), (41, .istore 7, 2, 0, 0, 0, 0), (43, .iload 7, 2, 0, 0, 0, 0), (45, .ifCond .eq 65, 3, 0, 0, 0, 0), (48, .aload_n 0, 1, 0, 0, 0, 0), (49, .getfield 7, 3, 10, 0, 1, 44), (52, .iload_n 2, 1, 0, 0, 0, 0), (53, .iaload, 1, 0, 0, 0, 0), (54, .iconst 2, 1, 0, 0, 0, 0), (55, .if_icmp .ge 12, 3, 0, 0, 0, 0), (58, .iload 4, 2, 0, 0, 0, 0), (60, .iconst (-1), 1, 0, 0, 0, 0), (61, .if_icmp .ne 49, 3, 0, 0, 0, 0), (64, .goto 13, 3, 0, 0, 0, 0), (67, .aload_n 0, 1, 0, 0, 0, 0), (68, .iload_n 1, 1, 0, 0, 0, 0), (69, .iload 4, 2, 0, 0, 0, 0), (71, .invokevirtual 133, 3, 60, 3, 0, 58), (74, .ifCond .eq 36, 3, 0, 0, 0, 0), (77, .aload_n 0, 1, 0, 0, 0, 0), (78, .getfield 7, 3, 10, 0, 1, 44), (81, .iload_n 2, 1, 0, 0, 0, 0), (82, .iaload, 1, 0, 0, 0, 0), (83, .iconst 3, 1, 0, 0, 0, 0), (84, .if_icmp .ge 12, 3, 0, 0, 0, 0), (87, .iload 5, 2, 0, 0, 0, 0), (89, .iconst (-1), 1, 0, 0, 0, 0), (90, .if_icmp .ne 20, 3, 0, 0, 0, 0), (93, .goto 13, 3, 0, 0, 0, 0), (96, .aload_n 0, 1, 0, 0, 0, 0), (97, .iload_n 1, 1, 0, 0, 0, 0), (98, .iload 5, 2, 0, 0, 0, 0), (100, .invokevirtual 133, 3, 60, 3, 0, 58), (103, .ifCond .eq 7, 3, 0, 0, 0, 0), (106, .iconst 1, 1, 0, 0, 0, 0), (107, .goto 4, 3, 0, 0, 0, 0), (110, .iconst 0, 1, 0, 0, 0, 0), (111, .istore 7, 2, 0, 0, 0, 0), (113, .iload 7, 2, 0, 0, 0, 0), (115, .ifCond .ne 6, 3, 0, 0, 0, 0), (118, .bipush (-2), 2, 0, 0, 0, 0), (120, .ireturn, 1, 0, 0, 0, 0), (121, .aload_n 0, 1, 0, 0, 0, 0), (122, .getfield 32, 3, 10, 8, 1, 39), (125, .iload_n 1, 1, 0, 0, 0, 0), (126, .iaload, 1, 0, 0, 0, 0), (127, .bipush 14, 2, 0, 0, 0, 0), (129, .if_icmp .ne 6, 3, 0, 0, 0, 0), (132, .bipush (-4), 2, 0, 0, 0, 0), (134, .ireturn, 1, 0, 0, 0, 0), (135, .aload_n 0, 1, 0, 0, 0, 0), (136, .iload_n 1, 1, 0, 0, 0, 0), (137, .iload_n 2, 1, 0, 0, 0, 0), (138, .iload_n 3, 1, 0, 0, 0, 0), (139, .iload 4, 2, 0, 0, 0, 0), (141, .iload 5, 2, 0, 0, 0, 0), (143, .invokevirtual 136, 3, 61, 6, 0, 59), (146, .ifCond .lt 6, 3, 0, 0, 0, 0), (149, .bipush (-5), 2, 0, 0, 0, 0), (151, .ireturn, 1, 0, 0, 0, 0), (152, .aload_n 0, 1, 0, 0, 0, 0), (153, .iload_n 1, 1, 0, 0, 0, 0), (154, .iload_n 2, 1, 0, 0, 0, 0), (155, .iload_n 3, 1, 0, 0, 0, 0), (156, .iload 4, 2, 0, 0, 0, 0), (158, .iload 5, 2, 0, 0, 0, 0), (160, .iload 6, 2, 0, 0, 0, 0), (162, .invokevirtual 139, 3, 63, 7, 1, 60), (165, .aload_n 0, 1, 0, 0, 0, 0), (166, .getfield 32, 3, 10, 8, 1, 39), (169, .iload_n 1, 1, 0, 0, 0, 0), (170, .iaload, 1, 0, 0, 0, 0), (171, .iconst 1, 1, 0, 0, 0, 0), (172, .isub, 1, 0, 0, 0, 0), (173, .ireturn, 1, 0, 0, 0, 0)]
/-- LikeTalesModel.ofTie(III)I -/
def kX10_ofTie : List (Nat × jO) := [(0, .iload_n 1, 1, 0, 0, 0, 0), (1, .invokestatic 118, 3, 41, 1, 2, 54), (4, .ifCond .eq 19, 3, 0, 0, 0, 0), (7, .iload_n 2, 1, 0, 0, 0, 0), (8, .iconst 0, 1, 0, 0, 0, 0), (9, .aload_n 0, 1, 0, 0, 0, 0), (10, .getfield 32, 3, 10, 8, 1, 39), (13, .iload_n 1, 1, 0, 0, 0, 0), (14, .iaload, 1, 0, 0, 0, 0), (15, .iconst 1, 1, 0, 0, 0, 0), (16, .isub, 1, 0, 0, 0, 0), (17, .invokestatic 77, 3, 39, 3, 2, 45), (20, .ifCond .ne 5, 3, 0, 0, 0, 0), (23, .iconst (-1), 1, 0, 0, 0, 0), (24, .ireturn, 1, 0, 0, 0, 0), (25, .iload_n 3, 1, 0, 0, 0, 0), (26, .iconst 0, 1, 0, 0, 0, 0), (27, .iconst 5, 1, 0, 0, 0, 0), (28, .invokestatic 77, 3, 39, 3, 2, 45), (31, .ifCond .eq 18, 3, 0, 0, 0, 0), (34, .aload_n 0, 1, 0, 0, 0, 0), (35, .getfield 35, 3, 10, 9, 1, 40), (38, .iload_n 1, 1, 0, 0, 0, 0), (39, .iload_n 2, 1, 0, 0, 0, 0), (40, .invokestatic 81, 3, 42, 2, 2, 46), (43, .iload_n 3, 1, 0, 0, 0, 0), (44, .iadd, 1, 0, 0, 0, 0), (45, .iaload, 1, 0, 0, 0, 0), (46, .goto 5, 3, 0, 0, 0, 0), (49, .bipush (-2), 2, 0, 0, 0, 0), (51, .ireturn, 1, 0, 0, 0, 0)]
/-- LikeTalesModel.highest(I)I -/
def kX10_highest : List (Nat × jO) := [(0, .iconst 0, 1, 0, 0, 0, 0), (1, .istore_n 2, 1, 0, 0, 0, 0), (2, .iconst 0, 1, 0, 0, 0, 0), (3, .istore_n 3, 1, 0, 0, 0, 0), (4, .iload_n 3, 1, 0, 0, 0, 0), (5, .aload_n 0, 1, 0, 0, 0, 0), (6, .getfield 32, 3, 10, 8, 1, 39), (9, .iload_n 1, 1, 0, 0, 0, 0), (10, .iaload, 1, 0, 0, 0, 0), (11, .if_icmp .ge 42, 3, 0, 0, 0, 0), (14, .aload_n 0, 1, 0, 0, 0, 0), (15, .getfield 35, 3, 10, 9, 1, 40), (18, .iload_n 1, 1, 0, 0, 0, 0), (19, .iload_n 3, 1, 0, 0, 0, 0), (20, .invokestatic 81, 3, 42, 2, 2, 46), (23, .iconst 5, 1, 0, 0, 0, 0), (24, .iadd, 1, 0, 0, 0, 0), (25, .iaload, 1, 0, 0, 0, 0), (26, .iload_n 2, 1, 0, 0, 0, 0), (27, .if_icmp .le 18, 3, 0, 0, 0, 0), (30, .aload_n 0, 1, 0, 0, 0, 0), (31, .getfield 35, 3, 10, 9, 1, 40), (34, .iload_n 1, 1, 0, 0, 0, 0), (35, .iload_n 3, 1, 0, 0, 0, 0), (36, .invokestatic 81, 3, 42, 2, 2, 46), (39, .iconst 5, 1, 0, 0, 0, 0), (40, .iadd, 1, 0, 0, 0, 0), (41, .iaload, 1, 0, 0, 0, 0), (42, .goto 4, 3, 0, 0, 0, 0), (45, .iload_n 2, 1, 0, 0, 0, 0), (46, .istore_n 2, 1, 0, 0, 0, 0), (47, .iinc 3 1, 3, 0, 0, 0, 0), (50, .goto (-46), 3, 0, 0, 0, 0), (53, .iload_n 2, 1, 0, 0, 0, 0), (54, .ireturn, 1, 0, 0, 0, 0)]
/-- LikeTalesModel.ofTale(II)I -/
def kX10_ofTale : List (Nat × jO) := [(0, .iload_n 1, 1, 0, 0, 0, 0), (1, .invokestatic 118, 3, 41, 1, 2, 54), (4, .ifCond .ne 5, 3, 0, 0, 0, 0), (7, .iconst (-1), 1, 0, 0, 0, 0), (8, .ireturn, 1, 0, 0, 0, 0), (9, .iload_n 2, 1, 0, 0, 0, 0), (10, .bipush 10, 2, 0, 0, 0, 0), (12, .bipush 15, 2, 0, 0, 0, 0), (14, .invokestatic 77, 3, 39, 3, 2, 45), (17, .ifCond .eq 34, 3, 0, 0, 0, 0), (20, .aload_n 0, 1, 0, 0, 0, 0), (21, .iload_n 1, 1, 0, 0, 0, 0), (22, .iload_n 2, 1, 0, 0, 0, 0), (23, .bipush 10, 2, 0, 0, 0, 0), (25, .isub, 1, 0, 0, 0, 0), (26, .invokevirtual 125, 3, 57, 3, 0, 56), (29, .ifCond .eq 20, 3, 0, 0, 0, 0), (32, .aload_n 0, 1, 0, 0, 0, 0), (33, .getfield 26, 3, 10, 6, 1, 49), (36, .bipush 6, 2, 0, 0, 0, 0), (38, .iload_n 1, 1, 0, 0, 0, 0), (39, .imul, 1, 0, 0, 0, 0), (40, .iload_n 2, 1, 0, 0, 0, 0), (41, .iadd, 1, 0, 0, 0, 0), (42, .bipush 10, 2, 0, 0, 0, 0), (44, .isub, 1, 0, 0, 0, 0), (45, .iaload, 1, 0, 0, 0, 0), (46, .goto 4, 3, 0, 0, 0, 0), (49, .iconst (-1), 1, 0, 0, 0, 0), (50, .ireturn, 1, 0, 0, 0, 0), (51, .iload_n 2, 1, 0, 0, 0, 0), (52, .ifCond .ne 12, 3, 0, 0, 0, 0), (55, .aload_n 0, 1, 0, 0, 0, 0), (56, .getfield 23, 3, 10, 5, 1, 47), (59, .iload_n 1, 1, 0, 0, 0, 0), (60, .iaload, 1, 0, 0, 0, 0), (61, .goto 46, 3, 0, 0, 0, 0), (64, .iload_n 2, 1, 0, 0, 0, 0), (65, .iconst 1, 1, 0, 0, 0, 0), (66, .if_icmp .ne 12, 3, 0, 0, 0, 0), (69, .aload_n 0, 1, 0, 0, 0, 0), (70, .getfield 32, 3, 10, 8, 1, 39), (73, .iload_n 1, 1, 0, 0, 0, 0), (74, .iaload, 1, 0, 0, 0, 0), (75, .goto 32, 3, 0, 0, 0, 0), (78, .iload_n 2, 1, 0, 0, 0, 0), (79, .iconst 2, 1, 0, 0, 0, 0), (80, .if_icmp .ne 12, 3, 0, 0, 0, 0), (83, .aload_n 0, 1, 0, 0, 0, 0), (84, .getfield 29, 3, 10, 7, 1, 48), (87, .iload_n 1, 1, 0, 0, 0, 0), (88, .iaload, 1, 0, 0, 0, 0), (89, .goto 18, 3, 0, 0, 0, 0), (92, .iload_n 2, 1, 0, 0, 0, 0), (93, .iconst 3, 1, 0, 0, 0, 0), (94, .if_icmp .ne 11, 3, 0, 0, 0, 0), (97, .aload_n 0, 1, 0, 0, 0, 0), (98, .iload_n 1, 1, 0, 0, 0, 0), (99, .invokevirtual 143, 3, 66, 2, 0, 61), (102, .goto 5, 3, 0, 0, 0, 0), (105, .bipush (-2), 2, 0, 0, 0, 0), (107, .ireturn, 1, 0, 0, 0, 0)]
/-- LikeTalesModel.become(II)V -/
def kX10_become : List (Nat × jO) := [(0, .aload_n 0, 1, 0, 0, 0, 0), (1, .getfield 23, 3, 10, 5, 1, 47), (4, .iload_n 1, 1, 0, 0, 0, 0), (5, .aload_n 0, 1, 0, 0, 0, 0), (6, .getfield 23, 3, 10, 5, 1, 47), (9, .iload_n 2, 1, 0, 0, 0, 0), (10, .iaload, 1, 0, 0, 0, 0), (11, .iastore, 1, 0, 0, 0, 0), (12, .aload_n 0, 1, 0, 0, 0, 0), (13, .getfield 32, 3, 10, 8, 1, 39), (16, .iload_n 1, 1, 0, 0, 0, 0), (17, .aload_n 0, 1, 0, 0, 0, 0), (18, .getfield 32, 3, 10, 8, 1, 39), (21, .iload_n 2, 1, 0, 0, 0, 0), (22, .iaload, 1, 0, 0, 0, 0), (23, .iastore, 1, 0, 0, 0, 0), (24, .aload_n 0, 1, 0, 0, 0, 0), (25, .getfield 29, 3, 10, 7, 1, 48), (28, .iload_n 1, 1, 0, 0, 0, 0), (29, .aload_n 0, 1, 0, 0, 0, 0), (30, .getfield 29, 3, 10, 7, 1, 48), (33, .iload_n 2, 1, 0, 0, 0, 0), (34, .iaload, 1, 0, 0, 0, 0), (35, .iastore, 1, 0, 0, 0, 0), (36, .iconst 0, 1, 0, 0, 0, 0), (37, .istore_n 3, 1, 0, 0, 0, 0), (38, .iload_n 3, 1, 0, 0, 0, 0), (39, .bipush 6, 2, 0, 0, 0, 0), (41, .if_icmp .ge 31, 3, 0, 0, 0, 0), (44, .aload_n 0, 1, 0, 0, 0, 0), (45, .getfield 26, 3, 10, 6, 1, 49), (48, .bipush 6, 2, 0, 0, 0, 0), (50, .iload_n 1, 1, 0, 0, 0, 0), (51, .imul, 1, 0, 0, 0, 0), (52, .iload_n 3, 1, 0, 0, 0, 0), (53, .iadd, 1, 0, 0, 0, 0), (54, .aload_n 0, 1, 0, 0, 0, 0), (55, .getfield 26, 3, 10, 6, 1, 49), (58, .bipush 6, 2, 0, 0, 0, 0), (60, .iload_n 2, 1, 0, 0, 0, 0), (61, .imul, 1, 0, 0, 0, 0), (62, .iload_n 3, 1, 0, 0, 0, 0), (63, .iadd, 1, 0, 0, 0, 0), (64, .iaload, 1, 0, 0, 0, 0), (65, .iastore, 1, 0, 0, 0, 0), (66, .iinc 3 1, 3, 0, 0, 0, 0), (69, .goto (-31), 3, 0, 0, 0, 0), (72, .iconst 0, 1, 0, 0, 0, 0), (73, .istore_n 3, 1, 0, 0, 0, 0), (74, .iload_n 3, 1, 0, 0, 0, 0), (75, .bipush 84, 2, 0, 0, 0, 0), (77, .if_icmp .ge 31, 3, 0, 0, 0, 0), (80, .aload_n 0, 1, 0, 0, 0, 0), (81, .getfield 35, 3, 10, 9, 1, 40), (84, .bipush 84, 2, 0, 0, 0, 0), (86, .iload_n 1, 1, 0, 0, 0, 0), (87, .imul, 1, 0, 0, 0, 0), (88, .iload_n 3, 1, 0, 0, 0, 0), (89, .iadd, 1, 0, 0, 0, 0), (90, .aload_n 0, 1, 0, 0, 0, 0), (91, .getfield 35, 3, 10, 9, 1, 40), (94, .bipush 84, 2, 0, 0, 0, 0), (96, .iload_n 2, 1, 0, 0, 0, 0), (97, .imul, 1, 0, 0, 0, 0), (98, .iload_n 3, 1, 0, 0, 0, 0), (99, .iadd, 1, 0, 0, 0, 0), (100, .iaload, 1, 0, 0, 0, 0), (101, .iastore, 1, 0, 0, 0, 0), (102, .iinc 3 1, 3, 0, 0, 0, 0), (105, .goto (-31), 3, 0, 0, 0, 0), (108, .return_, 1, 0, 0, 0, 0)]
/-- LikeTalesModel.copy(II)I -/
def kX10_copy : List (Nat × jO) := [(0, .iload_n 1, 1, 0, 0, 0, 0), (1, .invokestatic 118, 3, 41, 1, 2, 54), (4, .ifCond .eq 10, 3, 0, 0, 0, 0), (7, .iload_n 2, 1, 0, 0, 0, 0), (8, .invokestatic 118, 3, 41, 1, 2, 54), (11, .ifCond .ne 5, 3, 0, 0, 0, 0), (14, .iconst (-1), 1, 0, 0, 0, 0), (15, .ireturn, 1, 0, 0, 0, 0), (16, .iload_n 1, 1, 0, 0, 0, 0), (17, .iload_n 2, 1, 0, 0, 0, 0), (18, .if_icmp .eq 9, 3, 0, 0, 0, 0), (21, .aload_n 0, 1, 0, 0, 0, 0), (22, .iload_n 2, 1, 0, 0, 0, 0), (23, .iload_n 1, 1, 0, 0, 0, 0), (24, .invokevirtual 146, 3, 68, 3, 1, 62), (27, .aload_n 0, 1, 0, 0, 0, 0), (28, .getfield 32, 3, 10, 8, 1, 39), (31, .iload_n 2, 1, 0, 0, 0, 0), (32, .iaload, 1, 0, 0, 0, 0), (33, .ireturn, 1, 0, 0, 0, 0)]
/-- LikeTalesModel.endAnswers(II)Z -/
def kX10_endAnswers : List (Nat × jO) := [(0, .iload_n 1, 1, 0, 0, 0, 0), (1, .bipush 10, 2, 0, 0, 0, 0), (3, .if_icmp .ge 25, 3, 0, 0, 0, 0), (6, .iload_n 2, 1, 0, 0, 0, 0), (7, .bipush 10, 2, 0, 0, 0, 0), (9, .if_icmp .ge 17, 3, 0, 0, 0, 0), (12, .aload_n 0, 1, 0, 0, 0, 0), (13, .getfield 38, 3, 10, 10, 1, 50), (16, .iload_n 1, 1, 0, 0, 0, 0), (17, .iaload, 1, 0, 0, 0, 0), (18, .iload_n 2, 1, 0, 0, 0, 0), (19, .if_icmp .ne 7, 3, 0, 0, 0, 0), (22, .iconst 1, 1, 0, 0, 0, 0), (23, .goto 4, 3, 0, 0, 0, 0), (26, .iconst 0, 1, 0, 0, 0, 0), (27, .ireturn, 1, 1, 0, 0, 0), (28, .aload_n 0, 1, 0, 0, 0, 0), (29, .getfield 41, 3, 10, 11, 1, 51), (32, .iload_n 1, 1, 0, 0, 0, 0), (33, .bipush 10, 2, 0, 0, 0, 0), (35, .isub, 1, 0, 0, 0, 0), (36, .iaload, 1, 0, 0, 0, 0), (37, .ifCond .lt 23, 3, 0, 0, 0, 0), (40, .iload_n 2, 1, 0, 0, 0, 0), (41, .aload_n 0, 1, 0, 0, 0, 0), (42, .getfield 41, 3, 10, 11, 1, 51), (45, .iload_n 1, 1, 0, 0, 0, 0), (46, .bipush 10, 2, 0, 0, 0, 0), (48, .isub, 1, 0, 0, 0, 0), (49, .iaload, 1, 0, 0, 0, 0), (50, .bipush 10, 2, 0, 0, 0, 0), (52, .iadd, 1, 0, 0, 0, 0), (53, .if_icmp .ne 7, 3, 0, 0, 0, 0), (56, .iconst 1, 1, 0, 0, 0, 0), (57, .goto 4, 3, 0, 0, 0, 0), (60, .iconst 0, 1, 0, 0, 0, 0), (61, .ireturn, 1, 1, 0, 0, 0)]
/-- LikeTalesModel.sign(I)I -/
def kX10_sign : List (Nat × jO) := [(0, .iload_n 0, 1, 0, 0, 0, 0), (1, .ifCond .ge 7, 3, 0, 0, 0, 0), (4, .iconst (-1), 1, 0, 0, 0, 0), (5, .goto 12, 3, 0, 0, 0, 0), (8, .iload_n 0, 1, 0, 0, 0, 0), (9, .ifCond .le 7, 3, 0, 0, 0, 0), (12, .iconst 1, 1, 0, 0, 0, 0), (13, .goto 4, 3, 0, 0, 0, 0), (16, .iconst 0, 1, 0, 0, 0, 0), (17, .ireturn, 1, 0, 0, 0, 0)]
/-- LikeTalesModel.goes(IIII)Z -/
def kX10_goes : List (Nat × jO) := [(0, .aload_n 0, 1, 0, 0, 0, 0), (1, .getfield 35, 3, 10, 9, 1, 40), (4, .iload_n 1, 1, 0, 0, 0, 0), (5, .iload_n 2, 1, 0, 0, 0, 0), (6, .invokestatic 81, 3, 42, 2, 2, 46), (9, .iconst 4, 1, 0, 0, 0, 0), (10, .iadd, 1, 0, 0, 0, 0), (11, .iaload, 1, 0, 0, 0, 0), (12, .istore 5, 2, 0, 0, 0, 0), (14, .aload_n 0, 1, 0, 0, 0, 0), (15, .getfield 35, 3, 10, 9, 1, 40), (18, .iload_n 3, 1, 0, 0, 0, 0), (19, .iload 4, 2, 0, 0, 0, 0), (21, .invokestatic 81, 3, 42, 2, 2, 46), (24, .iconst 4, 1, 0, 0, 0, 0), (25, .iadd, 1, 0, 0, 0, 0), (26, .iaload, 1, 0, 0, 0, 0), (27, .istore 6, 2, 0, 0, 0, 0), (29, .iconst 1, 1, 0, 0, 0, 0), (30, .istore 7, 2, 0, 0, 0, 0), (32, .iconst 0, 1, 0, 0, 0, 0), (33, .istore 8, 2, 0, 0, 0, 0), (35, .iload 8, 2, 0, 0, 0, 0), (37, .iload_n 2, 1, 0, 0, 0, 0), (38, .if_icmp .ge 105, 3, 0, 0, 0, 0), (41, .iload 5, 2, 0, 0, 0, 0), (43, .ifCond .lt 100, 3, 0, 0, 0, 0), (46, .iload 6, 2, 0, 0, 0, 0), (48, .ifCond .lt 95, 3, 0, 0, 0, 0), (51, .aload_n 0, 1, 0, 0, 0, 0), (52, .getfield 41, 3, 10, 11, 1, 51), (55, .iload 8, 2, 0, 0, 0, 0), (57, .iaload, 1, 0, 0, 0, 0), (58, .ifCond .lt 79, 3, 0, 0, 0, 0), (61, .aload_n 0, 1, 0, 0, 0, 0), (62, .getfield 35, 3, 10, 9, 1, 40), (65, .iload_n 1, 1, 0, 0, 0, 0), (66, .iload 8, 2, 0, 0, 0, 0), (68, .invokestatic 81, 3, 42, 2, 2, 46), (71, .iconst 4, 1, 0, 0, 0, 0), (72, .iadd, 1, 0, 0, 0, 0), (73, .iaload, 1, 0, 0, 0, 0), (74, .istore 9, 2, 0, 0, 0, 0), (76, .aload_n 0, 1, 0, 0, 0, 0), (77, .getfield 35, 3, 10, 9, 1, 40), (80, .iload_n 3, 1, 0, 0, 0, 0), (81, .aload_n 0, 1, 0, 0, 0, 0), (82, .getfield 41, 3, 10, 11, 1, 51), (85, .iload 8, 2, 0, 0, 0, 0), (87, .iaload, 1, 0, 0, 0, 0), (88, .invokestatic 81, 3, 42, 2, 2, 46), (91, .iconst 4, 1, 0, 0, 0, 0), (92, .iadd, 1, 0, 0, 0, 0), (93, .iaload, 1, 0, 0, 0, 0), (94, .istore 10, 2, 0, 0, 0, 0), (96, .iload 7, 2, 0, 0, 0, 0), (98, .ifCond .eq 36, 3, 0, 0, 0, 0), (101, .iload 9, 2, 0, 0, 0, 0), (103, .ifCond .lt 27, 3, 0, 0, 0, 0), (106, .iload 10, 2, 0, 0, 0, 0), (108, .ifCond .lt 22, 3, 0, 0, 0, 0), (111, .iload 5, 2, 0, 0, 0, 0), (113, .iload 9, 2, 0, 0, 0, 0), (115, .isub, 1, 0, 0, 0, 0), (116, .invokestatic 149, 3, 71, 1, 2, 63), (119, .iload 6, 2, 0, 0, 0, 0), (121, .iload 10, 2, 0, 0, 0, 0), (123, .isub, 1, 0, 0, 0, 0), (124, .invokestatic 149, 3, 71, 1, 2, 63), (127, .if_icmp .ne 7, 3, 0, 0, 0, 0), (130, .iconst 1, 1, 0, 0, 0, 0), (131, .goto 4, 3, 0, 0, 0, 0), (134, .iconst 0, 1, 0, 0, 0, 0), (135, .istore 7, 2, 0, 0, 0, 0), (137, .iinc 8 1, 3, 0, 0, 0, 0), (140, .goto (-105), 3, 0, 0, 0, 0), (143, .iload 7, 2, 0, 0, 0, 0), (145, .ireturn, 1, 1, 0, 0, 0)]
/-- LikeTalesModel.tieAnswers(IIIII)Z -/
def kX10_tieAnswers : List (Nat × jO) := [(0, .iload_n 1, 1, 0, 0, 0, 0), (1, .iload_n 2, 1, 0, 0, 0, 0), (2, .invokestatic 81, 3, 42, 2, 2, 46), (5, .istore 6, 2, 0, 0, 0, 0), (7, .iload_n 3, 1, 0, 0, 0, 0), (8, .iload 4, 2, 0, 0, 0, 0), (10, .invokestatic 81, 3, 42, 2, 2, 46), (13, .istore 7, 2, 0, 0, 0, 0), (15, .aload_n 0, 1, 0, 0, 0, 0), (16, .getfield 35, 3, 10, 9, 1, 40), (19, .iload 6, 2, 0, 0, 0, 0), (21, .iaload, 1, 0, 0, 0, 0), (22, .istore 8, 2, 0, 0, 0, 0), (24, .aload_n 0, 1, 0, 0, 0, 0), (25, .getfield 35, 3, 10, 9, 1, 40), (28, .iload 7, 2, 0, 0, 0, 0), (30, .iaload, 1, 0, 0, 0, 0), (31, .istore 9, 2, 0, 0, 0, 0), (33, .aload_n 0, 1, 0, 0, 0, 0), (34, .getfield 7, 3, 10, 0, 1, 44), (37, .iload 8, 2, 0, 0, 0, 0), (39, .iaload, 1, 0, 0, 0, 0), (40, .aload_n 0, 1, 0, 0, 0, 0), (41, .getfield 7, 3, 10, 0, 1, 44), (44, .iload 9, 2, 0, 0, 0, 0), (46, .iaload, 1, 0, 0, 0, 0), (47, .if_icmp .ne 16, 3, 0, 0, 0, 0), (50, .aload_n 0, 1, 0, 0, 0, 0), (51, .iload 8, 2, 0, 0, 0, 0), (53, .iload 9, 2, 0, 0, 0, 0), (55, .iload 5, 2, 0, 0, 0, 0), (57, .invokevirtual 110, 3, 52, 4, 0, 53), (60, .ifCond .ge 5, 3, 0, 0, 0, 0), (63, .iconst 0, 1, 0, 0, 0, 0), (64, .ireturn, 1, 1, 0, 0, 0), (65, .aload_n 0, 1, 0, 0, 0, 0), (66, .aload_n 0, 1, 0, 0, 0, 0), (67, .getfield 35, 3, 10, 9, 1, 40), (70, .iload 6, 2, 0, 0, 0, 0), (72, .iconst 1, 1, 0, 0, 0, 0), (73, .iadd, 1, 0, 0, 0, 0), (74, .iaload, 1, 0, 0, 0, 0), (75, .aload_n 0, 1, 0, 0, 0, 0), (76, .getfield 35, 3, 10, 9, 1, 40), (79, .iload 7, 2, 0, 0, 0, 0), (81, .iconst 1, 1, 0, 0, 0, 0), (82, .iadd, 1, 0, 0, 0, 0), (83, .iaload, 1, 0, 0, 0, 0), (84, .invokevirtual 152, 3, 70, 3, 0, 64), (87, .istore 10, 2, 0, 0, 0, 0), (89, .iload 10, 2, 0, 0, 0, 0), (91, .ifCond .eq 43, 3, 0, 0, 0, 0), (94, .aload_n 0, 1, 0, 0, 0, 0), (95, .getfield 7, 3, 10, 0, 1, 44), (98, .iload 8, 2, 0, 0, 0, 0), (100, .iaload, 1, 0, 0, 0, 0), (101, .iconst 2, 1, 0, 0, 0, 0), (102, .if_icmp .lt 28, 3, 0, 0, 0, 0), (105, .aload_n 0, 1, 0, 0, 0, 0), (106, .aload_n 0, 1, 0, 0, 0, 0), (107, .getfield 35, 3, 10, 9, 1, 40), (110, .iload 6, 2, 0, 0, 0, 0), (112, .iconst 2, 1, 0, 0, 0, 0), (113, .iadd, 1, 0, 0, 0, 0), (114, .iaload, 1, 0, 0, 0, 0), (115, .aload_n 0, 1, 0, 0, 0, 0), (116, .getfield 35, 3, 10, 9, 1, 40), (119, .iload 7, 2, 0, 0, 0, 0), (121, .iconst 2, 1, 0, 0, 0, 0), (122, .iadd, 1, 0, 0, 0, 0), (123, .iaload, 1, 0, 0, 0, 0), (124, .invokevirtual 152, 3, 70, 3, 0, 64), (127, .ifCond .eq 7, 3, 0, 0, 0, 0), (130, .iconst 1, 1, 0, 0, 0, 0), (131, .goto 4, 3, 0, 0, 0, 0), (134, .iconst 0, 1, 0, 0, 0, 0), (135, .istore 10, 2, 0, 0, 0, 0), (137, .iload 10, 2, 0, 0, 0, 0), (139, .ifCond .eq 43, 3, 0, 0, 0, 0), (142, .aload_n 0, 1, 0, 0, 0, 0), (143, .getfield 7, 3, 10, 0, 1, 44), (146, .iload 8, 2, 0, 0, 0, 0), (148, .iaload, 1, 0, 0, 0, 0), (149, .iconst 3, 1, 0, 0, 0, 0), (150, .if_icmp .lt 28, 3, 0, 0, 0, 0), (153, .aload_n 0, 1, 0, 0, 0, 0), (154, .aload_n 0, 1, 0, 0, 0, 0), (155, .getfield 35, 3, 10, 9, 1, 40), (158, .iload 6, 2, 0, 0, 0, 0), (160, .iconst 3, 1, 0, 0, 0, 0), (161, .iadd, 1, 0, 0, 0, 0), (162, .iaload, 1, 0, 0, 0, 0), (163, .aload_n 0, 1, 0, 0, 0, 0), (164, .getfield 35, 3, 10, 9, 1, 40), (167, .iload 7, 2, 0, 0, 0, 0), (169, .iconst 3, 1, 0, 0, 0, 0), (170, .iadd, 1, 0, 0, 0, 0), (171, .iaload, 1, 0, 0, 0, 0), (172, .invokevirtual 152, 3, 70, 3, 0, 64), (175, .ifCond .eq 7, 3, 0, 0, 0, 0), (178, .iconst 1, 1, 0, 0, 0, 0), (179, .goto 4, 3, 0, 0, 0, 0), (182, .iconst 0, 1, 0, 0, 0, 0), (183, .istore 10, 2, 0, 0, 0, 0), (185, .aload_n 0, 1, 0, 0, 0, 0), (186, .getfield 13, 3, 10, 1, 1, 45), (189, .iload 8, 2, 0, 0, 0, 0), (191, .baload, 1, 0, 0, 0, 0), (192, .ifCond .eq 67, 3, 0, 0, 0, 0), (195, .aload_n 0, 1, 0, 0, 0, 0), (196, .getfield 13, 3, 10, 1, 1, 45), (199, .iload 9, 2, 0, 0, 0, 0), (201, .baload, 1, 0, 0, 0, 0), (202, .ifCond .eq 57, 3, 0, 0, 0, 0), (205, .aload_n 0, 1, 0, 0, 0, 0), (206, .aload_n 0, 1, 0, 0, 0, 0), (207, .getfield 35, 3, 10, 9, 1, 40), (210, .iload 6, 2, 0, 0, 0, 0), (212, .iconst 1, 1, 0, 0, 0, 0), (213, .iadd, 1, 0, 0, 0, 0), (214, .iaload, 1, 0, 0, 0, 0), (215, .aload_n 0, 1, 0, 0, 0, 0), (216, .getfield 35, 3, 10, 9, 1, 40), (219, .iload 7, 2, 0, 0, 0, 0), (221, .iconst 2, 1, 0, 0, 0, 0), (222, .iadd, 1, 0, 0, 0, 0), (223, .iaload, 1, 0, 0, 0, 0), (224, .invokevirtual 152, 3, 70, 3, 0, 64), (227, .ifCond .eq 32, 3, 0, 0, 0, 0), (230, .aload_n 0, 1, 0, 0, 0, 0), (231, .aload_n 0, 1, 0, 0, 0, 0), (232, .getfield 35, 3, 10, 9, 1, 40), (235, .iload 6, 2, 0, 0, 0, 0), (237, .iconst 2, 1, 0, 0, 0, 0), (238, .iadd, 1, 0, 0, 0, 0), (239, .iaload, 1, 0, 0, 0, 0), (240, .aload_n 0, 1, 0, 0, 0, 0), (241, .getfield 35, 3, 10, 9, 1, 40), (244, .iload 7, 2, 0, 0, 0, 0), (246, .iconst 1, 1, 0, 0, 0, 0), (247, .iadd, 1, 0, 0, 0, 0), (248, .iaload, 1, 0, 0, 0, 0), (249, .invokevirtual 152, 3, 70, 3, 0, 64), (252, .ifCond .eq 7, 3, 0, 0, 0, 0), (255, .iconst 1, 1, 0, 0, 0, 0), (256, .goto 4, 3, 0, 0, 0, 0), (259, .iconst 0, 1, 0, 0, 0, 0), (260, .istore 11, 2, 0, 0, 0, 0), (262, .iload 10, 2, 0, 0, 0, 0), (264, .ifCond .ne 8, 3, 0, 0, 0, 0), (267, .iload 11, 2, 0, 0, 0, 0), (269, .ifCond .eq 7, 3, 0, 0, 0, 0), (272, .iconst 1, 1, 0, 0, 0, 0), (273, .goto 4, 3, 0, 0, 0, 0), (276, .iconst 0, 1, 0, 0, 0, 0), (277, .ireturn, 1, 1, 0, 0, 0)]
/-- LikeTalesModel.weigh(IIIZ)I -/
def kX10_weigh : List (Nat × jO) := [(0, .iconst 0, 1, 0, 0, 0, 0), (1, .istore 5, 2, 0, 0, 0, 0), (3, .iconst 0, 1, 0, 0, 0, 0), (4, .istore 6, 2, 0, 0, 0, 0), (6, .aload_n 0, 1, 0, 0, 0, 0), (7, .iconst 0, 1, 0, 0, 0, 0), (8, .putfield 155, 3, 10, 12, 0, 52), (11, .iconst 0, 1, 0, 0, 0, 0), (12, .istore 7, 2, 0, 0, 0, 0), (14, .iload 7, 2, 0, 0, 0, 0), (16, .aload_n 0, 1, 0, 0, 0, 0), (17, .getfield 23, 3, 10, 5, 1, 47), (20, .iload_n 1, 1, 0, 0, 0, 0), (21, .iaload, 1, 0, 0, 0, 0), (22, .if_icmp .ge 63, 3, 0, 0, 0, 0), (25, .iload 5, 2, 0, 0, 0, 0), (27, .aload_n 0, 1, 0, 0, 0, 0), (28, .getfield 38, 3, 10, 10, 1, 50), (31, .iload 7, 2, 0, 0, 0, 0), (33, .iaload, 1, 0, 0, 0, 0), (34, .bipush 9, 2, 0, 0, 0, 0), (36, .if_icmp .ge 39, 3, 0, 0, 0, 0), (39, .aload_n 0, 1, 0, 0, 0, 0), (40, .getfield 26, 3, 10, 6, 1, 49), (43, .bipush 6, 2, 0, 0, 0, 0), (45, .iload_n 1, 1, 0, 0, 0, 0), (46, .imul, 1, 0, 0, 0, 0), (47, .iload 7, 2, 0, 0, 0, 0), (49, .iadd, 1, 0, 0, 0, 0), (50, .iaload, 1, 0, 0, 0, 0), (51, .aload_n 0, 1, 0, 0, 0, 0), (52, .getfield 26, 3, 10, 6, 1, 49), (55, .bipush 6, 2, 0, 0, 0, 0), (57, .iload_n 2, 1, 0, 0, 0, 0), (58, .imul, 1, 0, 0, 0, 0), (59, .aload_n 0, 1, 0, 0, 0, 0), (60, .getfield 38, 3, 10, 10, 1, 50), (63, .iload 7, 2, 0, 0, 0, 0), (65, .iaload, 1, 0, 0, 0, 0), (66, .iadd, 1, 0, 0, 0, 0), (67, .iaload, 1, 0, 0, 0, 0), (68, .if_icmp .ne 7, 3, 0, 0, 0, 0), (71, .iconst 1, 1, 0, 0, 0, 0), (72, .goto 4, 3, 0, 0, 0, 0), (75, .iconst 0, 1, 0, 0, 0, 0), (76, .iadd, 1, 0, 0, 0, 0), (77, .istore 5, 2, 0, 0, 0, 0), (79, .iinc 7 1, 3, 0, 0, 0, 0), (82, .goto (-68), 3, 0, 0, 0, 0), (85, .iconst 0, 1, 0, 0, 0, 0), (86, .istore 7, 2, 0, 0, 0, 0), (88, .iload 7, 2, 0, 0, 0, 0), (90, .aload_n 0, 1, 0, 0, 0, 0), (91, .getfield 32, 3, 10, 8, 1, 39), (94, .iload_n 1, 1, 0, 0, 0, 0), (95, .iaload, 1, 0, 0, 0, 0), (96, .if_icmp .ge 229, 3, 0, 0, 0, 0), (99, .aload_n 0, 1, 0, 0, 0, 0), (100, .getfield 41, 3, 10, 11, 1, 51), (103, .iload 7, 2, 0, 0, 0, 0), (105, .bipush (-6), 2, 0, 0, 0, 0), (107, .iastore, 1, 0, 0, 0, 0), (108, .iconst 0, 1, 0, 0, 0, 0), (109, .istore 8, 2, 0, 0, 0, 0), (111, .iload 8, 2, 0, 0, 0, 0), (113, .aload_n 0, 1, 0, 0, 0, 0), (114, .getfield 32, 3, 10, 8, 1, 39), (117, .iload_n 2, 1, 0, 0, 0, 0), (118, .iaload, 1, 0, 0, 0, 0), (119, .if_icmp .ge 92, 3, 0, 0, 0, 0), (122, .aload_n 0, 1, 0, 0, 0, 0), (123, .getfield 41, 3, 10, 11, 1, 51), (126, .iload 7, 2, 0, 0, 0, 0), (128, .iaload, 1, 0, 0, 0, 0), (129, .ifCond .ge 82, 3, 0, 0, 0, 0), (132, .iload 6, 2, 0, 0, 0, 0), (134, .iload 8, 2, 0, 0, 0, 0), (136, .ishr, 1, 0, 0, 0, 0), (137, .iconst 1, 1, 0, 0, 0, 0), (138, .iand, 1, 0, 0, 0, 0), (139, .ifCond .ne 39, 3, 0, 0, 0, 0), (142, .aload_n 0, 1, 0, 0, 0, 0), (143, .iload_n 1, 1, 0, 0, 0, 0), (144, .iload 7, 2, 0, 0, 0, 0), (146, .iload_n 2, 1, 0, 0, 0, 0), (147, .iload 8, 2, 0, 0, 0, 0), (149, .iload_n 3, 1, 0, 0, 0, 0), (150, .invokevirtual 158, 3, 73, 6, 0, 65), (153, .ifCond .eq 25, 3, 0, 0, 0, 0), (156, .iload 4, 2, 0, 0, 0, 0), (158, .ifCond .eq 16, 3, 0, 0, 0, 0), (161, .aload_n 0, 1, 0, 0, 0, 0), (162, .iload_n 1, 1, 0, 0, 0, 0), (163, .iload 7, 2, 0, 0, 0, 0), (165, .iload_n 2, 1, 0, 0, 0, 0), (166, .iload 8, 2, 0, 0, 0, 0), (168, .invokevirtual 162, 3, 72, 5, 0, 66), (171, .ifCond .eq 7, 3, 0, 0, 0, 0), (174, .iconst 1, 1, 0, 0, 0, 0), (175, .goto 4, 3, 0, 0, 0, 0), (178, .iconst 0, 1, 0, 0, 0, 0), (179, .istore 9, 2, 0, 0, 0, 0), (181, .aload_n 0, 1, 0, 0, 0, 0), (182, .getfield 41, 3, 10, 11, 1, 51), (185, .iload 7, 2, 0, 0, 0, 0), (187, .iload 9, 2, 0, 0, 0, 0), (189, .ifCond .eq 8, 3, 0, 0, 0, 0), (192, .iload 8, 2, 0, 0, 0, 0), (194, .goto 10, 3, 0, 0, 0, 0), (197, .aload_n 0, 1, 0, 0, 0, 0), (198, .getfield 41, 3, 10, 11, 1, 51), (201, .iload 7, 2, 0, 0, 0, 0), (203, .iaload, 1, 0, 0, 0, 0), (204, .iastore, 1, 0, 0, 0, 0), (205, .iinc 8 1, 3, 0, 0, 0, 0), (208, .goto (-97), 3, 0, 0, 0, 0), (211, .aload_n 0, 1, 0, 0, 0, 0), (212, .getfield 41, 3, 10, 11, 1, 51), (215, .iload 7, 2, 0, 0, 0, 0), (217, .iaload, 1, 0, 0, 0, 0), (218, .ifCond .lt 101, 3, 0, 0, 0, 0), (221, .iload 6, 2, 0, 0, 0, 0), (223, .iconst 1, 1, 0, 0, 0, 0), (224, .aload_n 0, 1, 0, 0, 0, 0), (225, .getfield 41, 3, 10, 11, 1, 51), (228, .iload 7, 2, 0, 0, 0, 0), (230, .iaload, 1, 0, 0, 0, 0), (231, .ishl, 1, 0, 0, 0, 0), (232, .ior, 1, 0, 0, 0, 0), (233, .istore 6, 2, 0, 0, 0, 0), (235, .aload_n 0, 1, 0, 0, 0, 0), (236, .dup, 1, 0, 0, 0, 0), (237, .getfield 155, 3, 10, 12, 0, 52), (240, .iconst 1, 1, 0, 0, 0, 0), (241, .iadd, 1, 0, 0, 0, 0), (242, .putfield 155, 3, 10, 12, 0, 52), (245, .aload_n 0, 1, 0, 0, 0, 0), (246, .aload_n 0, 1, 0, 0, 0, 0), (247, .getfield 35, 3, 10, 9, 1, 40), (250, .iload_n 1, 1, 0, 0, 0, 0), (251, .iload 7, 2, 0, 0, 0, 0), (253, .invokestatic 81, 3, 42, 2, 2, 46), (256, .iaload, 1, 0, 0, 0, 0), (257, .aload_n 0, 1, 0, 0, 0, 0), (258, .getfield 35, 3, 10, 9, 1, 40), (261, .iload_n 2, 1, 0, 0, 0, 0), (262, .aload_n 0, 1, 0, 0, 0, 0), (263, .getfield 41, 3, 10, 11, 1, 51), (266, .iload 7, 2, 0, 0, 0, 0), (268, .iaload, 1, 0, 0, 0, 0), (269, .invokestatic 81, 3, 42, 2, 2, 46), (272, .iaload, 1, 0, 0, 0, 0), (273, .iconst 2, 1, 0, 0, 0, 0), (274, .invokevirtual 110, 3, 52, 4, 0, 53), (277, .istore 8, 2, 0, 0, 0, 0), (279, .iload 5, 2, 0, 0, 0, 0), (281, .aload_n 0, 1, 0, 0, 0, 0), (282, .getfield 35, 3, 10, 9, 1, 40), (285, .iload_n 1, 1, 0, 0, 0, 0), (286, .iload 7, 2, 0, 0, 0, 0), (288, .invokestatic 81, 3, 42, 2, 2, 46), (291, .iconst 5, 1, 0, 0, 0, 0), (292, .iadd, 1, 0, 0, 0, 0), (293, .iaload, 1, 0, 0, 0, 0), (294, .iload 8, 2, 0, 0, 0, 0), (296, .ifCond .ne 8, 3, 0, 0, 0, 0), (299, .bipush 6, 2, 0, 0, 0, 0), (301, .goto 14, 3, 0, 0, 0, 0), (304, .iload 8, 2, 0, 0, 0, 0), (306, .iconst 1, 1, 0, 0, 0, 0), (307, .if_icmp .ne 7, 3, 0, 0, 0, 0), (310, .iconst 4, 1, 0, 0, 0, 0), (311, .goto 4, 3, 0, 0, 0, 0), (314, .iconst 3, 1, 0, 0, 0, 0), (315, .imul, 1, 0, 0, 0, 0), (316, .iadd, 1, 0, 0, 0, 0), (317, .istore 5, 2, 0, 0, 0, 0), (319, .iinc 7 1, 3, 0, 0, 0, 0), (322, .goto (-234), 3, 0, 0, 0, 0), (325, .iload 5, 2, 0, 0, 0, 0), (327, .ireturn, 1, 0, 0, 0, 0)]
/-- LikeTalesModel.pairsOfRow(I)I -/
def kX10_pairsOfRow : List (Nat × jO) := [(0, .iconst 0, 1, 0, 0, 0, 0), (1, .istore_n 2, 1, 0, 0, 0, 0), (2, .iconst 0, 1, 0, 0, 0, 0), (3, .istore_n 3, 1, 0, 0, 0, 0), (4, .iload_n 3, 1, 0, 0, 0, 0), (5, .aload_n 0, 1, 0, 0, 0, 0), (6, .getfield 23, 3, 10, 5, 1, 47), (9, .iload_n 1, 1, 0, 0, 0, 0), (10, .iaload, 1, 0, 0, 0, 0), (11, .if_icmp .ge 28, 3, 0, 0, 0, 0), (14, .iload_n 2, 1, 0, 0, 0, 0), (15, .aload_n 0, 1, 0, 0, 0, 0), (16, .getfield 38, 3, 10, 10, 1, 50), (19, .iload_n 3, 1, 0, 0, 0, 0), (20, .iaload, 1, 0, 0, 0, 0), (21, .bipush 9, 2, 0, 0, 0, 0), (23, .if_icmp .ge 7, 3, 0, 0, 0, 0), (26, .iconst 1, 1, 0, 0, 0, 0), (27, .goto 4, 3, 0, 0, 0, 0), (30, .iconst 0, 1, 0, 0, 0, 0), (31, .iadd, 1, 0, 0, 0, 0), (32, .istore_n 2, 1, 0, 0, 0, 0), (33, .iinc 3 1, 3, 0, 0, 0, 0), (36, .goto (-32), 3, 0, 0, 0, 0), (39, .iload_n 2, 1, 0, 0, 0, 0), (40, .ireturn, 1, 0, 0, 0, 0)]
/-- LikeTalesModel.isPairing(I)Z -/
def kX10_isPairing : List (Nat × jO) := [(0, .iconst 0, 1, 0, 0, 0, 0), (1, .istore_n 2, 1, 0, 0, 0, 0), (2, .iconst 1, 1, 0, 0, 0, 0), (3, .istore_n 3, 1, 0, 0, 0, 0), (4, .iconst 0, 1, 0, 0, 0, 0), (5, .istore 4, 2, 0, 0, 0, 0), (7, .iload 4, 2, 0, 0, 0, 0), (9, .aload_n 0, 1, 0, 0, 0, 0), (10, .getfield 23, 3, 10, 5, 1, 47), (13, .iload_n 1, 1, 0, 0, 0, 0), (14, .iaload, 1, 0, 0, 0, 0), (15, .if_icmp .ge 73, 3, 0, 0, 0, 0), (18, .iload_n 3, 1, 0, 0, 0, 0), (19, .ifCond .eq 69, 3, 0, 0, 0, 0), (22, .aload_n 0, 1, 0, 0, 0, 0), (23, .getfield 38, 3, 10, 10, 1, 50), (26, .iload 4, 2, 0, 0, 0, 0), (28, .iaload, 1, 0, 0, 0, 0), (29, .bipush 9, 2, 0, 0, 0, 0), (31, .if_icmp .eq 17, 3, 0, 0, 0, 0), (34, .iload_n 2, 1, 0, 0, 0, 0), (35, .aload_n 0, 1, 0, 0, 0, 0), (36, .getfield 38, 3, 10, 10, 1, 50), (39, .iload 4, 2, 0, 0, 0, 0), (41, .iaload, 1, 0, 0, 0, 0), (42, .ishr, 1, 0, 0, 0, 0), (43, .iconst 1, 1, 0, 0, 0, 0), (44, .iand, 1, 0, 0, 0, 0), (45, .ifCond .ne 7, 3, 0, 0, 0, 0), (48, .iconst 1, 1, 0, 0, 0, 0), (49, .goto 4, 3, 0, 0, 0, 0), (52, .iconst 0, 1, 0, 0, 0, 0), (53, .istore_n 3, 1, 0, 0, 0, 0), (54, .iload_n 2, 1, 0, 0, 0, 0), (55, .aload_n 0, 1, 0, 0, 0, 0), (56, .getfield 38, 3, 10, 10, 1, 50), (59, .iload 4, 2, 0, 0, 0, 0), (61, .iaload, 1, 0, 0, 0, 0), (62, .bipush 9, 2, 0, 0, 0, 0), (64, .if_icmp .ne 7, 3, 0, 0, 0, 0), (67, .iconst 0, 1, 0, 0, 0, 0), (68, .goto 12, 3, 0, 0, 0, 0), (71, .iconst 1, 1, 0, 0, 0, 0), (72, .aload_n 0, 1, 0, 0, 0, 0), (73, .getfield 38, 3, 10, 10, 1, 50), (76, .iload 4, 2, 0, 0, 0, 0), (78, .iaload, 1, 0, 0, 0, 0), (79, .ishl, 1, 0, 0, 0, 0), (80, .ior, 1, 0, 0, 0, 0), (81, .istore_n 2, 1, 0, 0, 0, 0), (82, .iinc 4 1, 3, 0, 0, 0, 0), (85, .goto (-78), 3, 0, 0, 0, 0), (88, .iload_n 3, 1, 0, 0, 0, 0), (89, .ireturn, 1, 1, 0, 0, 0)]
/-- LikeTalesModel.firstRow(II)V -/
def kX10_firstRow : List (Nat × jO) := [(0, .iconst 0, 1, 0, 0, 0, 0), (1, .istore_n 3, 1, 0, 0, 0, 0), (2, .iload_n 3, 1, 0, 0, 0, 0), (3, .bipush 6, 2, 0, 0, 0, 0), (5, .if_icmp .ge 30, 3, 0, 0, 0, 0), (8, .aload_n 0, 1, 0, 0, 0, 0), (9, .getfield 38, 3, 10, 10, 1, 50), (12, .iload_n 3, 1, 0, 0, 0, 0), (13, .aload_n 0, 1, 0, 0, 0, 0), (14, .getfield 23, 3, 10, 5, 1, 47), (17, .iload_n 2, 1, 0, 0, 0, 0), (18, .iaload, 1, 0, 0, 0, 0), (19, .ifCond .le 7, 3, 0, 0, 0, 0), (22, .iconst 0, 1, 0, 0, 0, 0), (23, .goto 5, 3, 0, 0, 0, 0), (26, .bipush 9, 2, 0, 0, 0, 0), (28, .iastore, 1, 0, 0, 0, 0), (29, .iinc 3 1, 3, 0, 0, 0, 0), (32, .goto (-30), 3, 0, 0, 0, 0), (35, .return_, 1, 0, 0, 0, 0)]
/-- LikeTalesModel.nextRow(II)Z -/
def kX10_nextRow : List (Nat × jO) := [(0, .aload_n 0, 1, 0, 0, 0, 0), (1, .getfield 23, 3, 10, 5, 1, 47), (4, .iload_n 1, 1, 0, 0, 0, 0), (5, .iaload, 1, 0, 0, 0, 0), (6, .iconst 1, 1, 0, 0, 0, 0), (7, .isub, 1, 0, 0, 0, 0), (8, .istore_n 3, 1, 0, 0, 0, 0), (9, .iload_n 3, 1, 0, 0, 0, 0), (10, .ifCond .lt 41, 3, 0, 0, 0, 0), (13, .aload_n 0, 1, 0, 0, 0, 0), (14, .getfield 38, 3, 10, 10, 1, 50), (17, .iload_n 3, 1, 0, 0, 0, 0), (18, .iaload, 1, 0, 0, 0, 0), (19, .bipush 9, 2, 0, 0, 0, 0), (21, .if_icmp .ne 30, 3, 0, 0, 0, 0), (24, .aload_n 0, 1, 0, 0, 0, 0), (25, .getfield 38, 3, 10, 10, 1, 50), (28, .iload_n 3, 1, 0, 0, 0, 0), (29, .aload_n 0, 1, 0, 0, 0, 0), (30, .getfield 23, 3, 10, 5, 1, 47), (33, .iload_n 2, 1, 0, 0, 0, 0), (34, .iaload, 1, 0, 0, 0, 0), (35, .ifCond .le 7, 3, 0, 0, 0, 0), (38, .iconst 0, 1, 0, 0, 0, 0), (39, .goto 5, 3, 0, 0, 0, 0), (42, .bipush 9, 2, 0, 0, 0, 0), (44, .iastore, 1, 0, 0, 0, 0), (45, .iinc 3 (-1), 3, 0, 0, 0, 0), (48, .goto (-39), 3, 0, 0, 0, 0), (51, .iload_n 3, 1, 0, 0, 0, 0), (52, .ifCond .ge 5, 3, 0, 0, 0, 0), (55, .iconst 0, 1, 0, 0, 0, 0), (56, .ireturn, 1, 1, 0, 0, 0), (57, .aload_n 0, 1, 0, 0, 0, 0), (58, .getfield 38, 3, 10, 10, 1, 50), (61, .iload_n 3, 1, 0, 0, 0, 0), (62, .aload_n 0, 1, 0, 0, 0, 0), (63, .getfield 38, 3, 10, 10, 1, 50), (66, .iload_n 3, 1, 0, 0, 0, 0), (67, .iaload, 1, 0, 0, 0, 0), (68, .iconst 1, 1, 0, 0, 0, 0), (69, .iadd, 1, 0, 0, 0, 0), (70, .aload_n 0, 1, 0, 0, 0, 0), (71, .getfield 23, 3, 10, 5, 1, 47), (74, .iload_n 2, 1, 0, 0, 0, 0), (75, .iaload, 1, 0, 0, 0, 0), (76, .if_icmp .ge 14, 3, 0, 0, 0, 0), (79, .aload_n 0, 1, 0, 0, 0, 0), (80, .getfield 38, 3, 10, 10, 1, 50), (83, .iload_n 3, 1, 0, 0, 0, 0), (84, .iaload, 1, 0, 0, 0, 0), (85, .iconst 1, 1, 0, 0, 0, 0), (86, .iadd, 1, 0, 0, 0, 0), (87, .goto 5, 3, 0, 0, 0, 0), (90, .bipush 9, 2, 0, 0, 0, 0), (92, .iastore, 1, 0, 0, 0, 0), (93, .iconst 1, 1, 0, 0, 0, 0), (94, .ireturn, 1, 1, 0, 0, 0)]
/-- LikeTalesModel.isWeighed(IIZ)Z -/
def kX10_isWeighed : List (Nat × jO) := [(0, .aload_n 0, 1, 0, 0, 0, 0), (1, .getfield 23, 3, 10, 5, 1, 47), (4, .iload_n 1, 1, 0, 0, 0, 0), (5, .iaload, 1, 0, 0, 0, 0), (6, .aload_n 0, 1, 0, 0, 0, 0), (7, .getfield 23, 3, 10, 5, 1, 47), (10, .iload_n 2, 1, 0, 0, 0, 0), (11, .iaload, 1, 0, 0, 0, 0), (12, .if_icmp .ge 12, 3, 0, 0, 0, 0), (15, .aload_n 0, 1, 0, 0, 0, 0), (16, .getfield 23, 3, 10, 5, 1, 47), (19, .iload_n 1, 1, 0, 0, 0, 0), (20, .iaload, 1, 0, 0, 0, 0), (21, .goto 9, 3, 0, 0, 0, 0), (24, .aload_n 0, 1, 0, 0, 0, 0), (25, .getfield 23, 3, 10, 5, 1, 47), (28, .iload_n 2, 1, 0, 0, 0, 0), (29, .iaload, 1, 0, 0, 0, 0), (30, .istore 4, 2, 0, 0, 0, 0), (32, .aload_n 0, 1, 0, 0, 0, 0), (33, .iload_n 1, 1, 0, 0, 0, 0), (34, .invokevirtual 166, 3, 76, 2, 0, 67), (37, .ifCond .eq 21, 3, 0, 0, 0, 0), (40, .iload_n 3, 1, 0, 0, 0, 0), (41, .ifCond .ne 13, 3, 0, 0, 0, 0), (44, .aload_n 0, 1, 0, 0, 0, 0), (45, .iload_n 1, 1, 0, 0, 0, 0), (46, .invokevirtual 169, 3, 75, 2, 0, 68), (49, .iload 4, 2, 0, 0, 0, 0), (51, .if_icmp .ne 7, 3, 0, 0, 0, 0), (54, .iconst 1, 1, 0, 0, 0, 0), (55, .goto 4, 3, 0, 0, 0, 0), (58, .iconst 0, 1, 0, 0, 0, 0), (59, .ireturn, 1, 1, 0, 0, 0)]
/-- LikeTalesModel.likeness(IIIZ)I -/
def kX10_likeness : List (Nat × jO) := [(0, .aload_n 0, 1, 0, 0, 0, 0), (1, .iconst (-1), 1, 0, 0, 0, 0), (2, .putfield 172, 3, 10, 14, 0, 53), (5, .aload_n 0, 1, 0, 0, 0, 0), (6, .iconst 0, 1, 0, 0, 0, 0), (7, .putfield 175, 3, 10, 15, 0, 54), (10, .aload_n 0, 1, 0, 0, 0, 0), (11, .iconst 0, 1, 0, 0, 0, 0), (12, .putfield 178, 3, 10, 16, 0, 55), (15, .aload_n 0, 1, 0, 0, 0, 0), (16, .iload_n 1, 1, 0, 0, 0, 0), (17, .iload_n 2, 1, 0, 0, 0, 0), (18, .invokevirtual 181, 3, 77, 3, 1, 69), (21, .iconst 1, 1, 0, 0, 0, 0), (22, .istore 5, 2, 0, 0, 0, 0), (24, .iload 5, 2, 0, 0, 0, 0), (26, .ifCond .eq 138, 3, 0, 0, 0, 0), (29, .aload_n 0, 1, 0, 0, 0, 0), (30, .iload_n 1, 1, 0, 0, 0, 0), (31, .iload_n 2, 1, 0, 0, 0, 0), (32, .iload 4, 2, 0, 0, 0, 0), (34, .invokevirtual 184, 3, 79, 4, 0, 70), (37, .ifCond .eq 116, 3, 0, 0, 0, 0), (40, .aload_n 0, 1, 0, 0, 0, 0), (41, .iload_n 1, 1, 0, 0, 0, 0), (42, .iload_n 2, 1, 0, 0, 0, 0), (43, .iload_n 3, 1, 0, 0, 0, 0), (44, .iload 4, 2, 0, 0, 0, 0), (46, .invokevirtual 188, 3, 74, 5, 0, 71), (49, .istore 6, 2, 0, 0, 0, 0), (51, .aload_n 0, 1, 0, 0, 0, 0), (52, .iload_n 1, 1, 0, 0, 0, 0), (53, .invokevirtual 169, 3, 75, 2, 0, 68), (56, .istore 7, 2, 0, 0, 0, 0), (58, .aload_n 0, 1, 0, 0, 0, 0), (59, .aload_n 0, 1, 0, 0, 0, 0), (60, .getfield 155, 3, 10, 12, 0, 52), (63, .aload_n 0, 1, 0, 0, 0, 0), (64, .getfield 178, 3, 10, 16, 0, 55), (67, .if_icmp .le 10, 3, 0, 0, 0, 0), (70, .aload_n 0, 1, 0, 0, 0, 0), (71, .getfield 155, 3, 10, 12, 0, 52), (74, .goto 7, 3, 0, 0, 0, 0), (77, .aload_n 0, 1, 0, 0, 0, 0), (78, .getfield 178, 3, 10, 16, 0, 55), (81, .putfield 178, 3, 10, 16, 0, 55), (84, .iload 6, 2, 0, 0, 0, 0), (86, .aload_n 0, 1, 0, 0, 0, 0), (87, .getfield 172, 3, 10, 14, 0, 53), (90, .if_icmp .gt 21, 3, 0, 0, 0, 0), (93, .iload 6, 2, 0, 0, 0, 0), (95, .aload_n 0, 1, 0, 0, 0, 0), (96, .getfield 172, 3, 10, 14, 0, 53), (99, .if_icmp .ne 54, 3, 0, 0, 0, 0), (102, .iload 7, 2, 0, 0, 0, 0), (104, .aload_n 0, 1, 0, 0, 0, 0), (105, .getfield 175, 3, 10, 15, 0, 54), (108, .if_icmp .le 45, 3, 0, 0, 0, 0), (111, .aload_n 0, 1, 0, 0, 0, 0), (112, .iload 6, 2, 0, 0, 0, 0), (114, .putfield 172, 3, 10, 14, 0, 53), (117, .aload_n 0, 1, 0, 0, 0, 0), (118, .iload 7, 2, 0, 0, 0, 0), (120, .putfield 175, 3, 10, 15, 0, 54), (123, .iconst 0, 1, 0, 0, 0, 0), (124, .istore 8, 2, 0, 0, 0, 0), (126, .iload 8, 2, 0, 0, 0, 0), (128, .bipush 6, 2, 0, 0, 0, 0), (130, .if_icmp .ge 23, 3, 0, 0, 0, 0), (133, .aload_n 0, 1, 0, 0, 0, 0), (134, .getfield 44, 3, 10, 13, 1, 56), (137, .iload 8, 2, 0, 0, 0, 0), (139, .aload_n 0, 1, 0, 0, 0, 0), (140, .getfield 38, 3, 10, 10, 1, 50), (143, .iload 8, 2, 0, 0, 0, 0), (145, .iaload, 1, 0, 0, 0, 0), (146, .iastore, 1, 0, 0, 0, 0), (147, .iinc 8 1, 3, 0, 0, 0, 0), (150, .goto (-24), 3, 0, 0, 0, 0), (153, .aload_n 0, 1, 0, 0, 0, 0), (154, .iload_n 1, 1, 0, 0, 0, 0), (155, .iload_n 2, 1, 0, 0, 0, 0), (156, .invokevirtual 192, 3, 78, 3, 0, 72), (159, .istore 5, 2, 0, 0, 0, 0), (161, .goto (-137), 3, 0, 0, 0, 0), (164, .iconst 0, 1, 0, 0, 0, 0), (165, .istore 6, 2, 0, 0, 0, 0), (167, .iload 6, 2, 0, 0, 0, 0), (169, .bipush 6, 2, 0, 0, 0, 0), (171, .if_icmp .ge 23, 3, 0, 0, 0, 0), (174, .aload_n 0, 1, 0, 0, 0, 0), (175, .getfield 38, 3, 10, 10, 1, 50), (178, .iload 6, 2, 0, 0, 0, 0), (180, .aload_n 0, 1, 0, 0, 0, 0), (181, .getfield 44, 3, 10, 13, 1, 56), (184, .iload 6, 2, 0, 0, 0, 0), (186, .iaload, 1, 0, 0, 0, 0), (187, .iastore, 1, 0, 0, 0, 0), (188, .iinc 6 1, 3, 0, 0, 0, 0), (191, .goto (-24), 3, 0, 0, 0, 0), (194, .aload_n 0, 1, 0, 0, 0, 0), (195, .iload_n 1, 1, 0, 0, 0, 0), (196, .iload_n 2, 1, 0, 0, 0, 0), (197, .iload_n 3, 1, 0, 0, 0, 0), (198, .iload 4, 2, 0, 0, 0, 0), (200, .invokevirtual 188, 3, 74, 5, 0, 71), (203, .ireturn, 1, 0, 0, 0, 0)]
/-- LikeTalesModel.isLevel(I)Z -/
def kX10_isLevel : List (Nat × jO) := [(0, .iload_n 0, 1, 0, 0, 0, 0), (1, .iconst 0, 1, 0, 0, 0, 0), (2, .iconst 2, 1, 0, 0, 0, 0), (3, .invokestatic 77, 3, 39, 3, 2, 45), (6, .ireturn, 1, 1, 0, 0, 0)]
/-- LikeTalesModel.like(III)I -/
def kX10_like : List (Nat × jO) := [(0, .iload_n 1, 1, 0, 0, 0, 0), (1, .invokestatic 118, 3, 41, 1, 2, 54), (4, .ifCond .eq 10, 3, 0, 0, 0, 0), (7, .iload_n 2, 1, 0, 0, 0, 0), (8, .invokestatic 118, 3, 41, 1, 2, 54), (11, .ifCond .ne 5, 3, 0, 0, 0, 0), (14, .iconst (-1), 1, 0, 0, 0, 0), (15, .ireturn, 1, 0, 0, 0, 0), (16, .iload_n 3, 1, 0, 0, 0, 0), (17, .invokestatic 195, 3, 81, 1, 2, 73), (20, .ifCond .ne 6, 3, 0, 0, 0, 0), (23, .bipush (-2), 2, 0, 0, 0, 0), (25, .ireturn, 1, 0, 0, 0, 0), (26, .aload_n 0, 1, 0, 0, 0, 0), (27, .iload_n 1, 1, 0, 0, 0, 0), (28, .iload_n 2, 1, 0, 0, 0, 0), (29, .iload_n 3, 1, 0, 0, 0, 0), (30, .aload_n 0, 1, 0, 0, 0, 0), (31, .getfield 114, 3, 10, 4, 0, 46), (34, .iconst 1, 1, 0, 0, 0, 0), (35, .if_icmp .ne 7, 3, 0, 0, 0, 0), (38, .iconst 1, 1, 0, 0, 0, 0), (39, .goto 4, 3, 0, 0, 0, 0), (42, .iconst 0, 1, 0, 0, 0, 0), (43, .invokevirtual 198, 3, 80, 5, 0, 74), (46, .istore 4, 2, 0, 0, 0, 0), (48, .aload_n 0, 1, 0, 0, 0, 0), (49, .iconst 1, 1, 0, 0, 0, 0), (50, .putfield 89, 3, 10, 17, 4, 41), (53, .aload_n 0, 1, 0, 0, 0, 0), (54, .iload_n 3, 1, 0, 0, 0, 0), (55, .putfield 201, 3, 10, 18, 0, 57), (58, .aload_n 0, 1, 0, 0, 0, 0), (59, .aload_n 0, 1, 0, 0, 0, 0), (60, .getfield 114, 3, 10, 4, 0, 46), (63, .iconst 1, 1, 0, 0, 0, 0), (64, .if_icmp .ne 7, 3, 0, 0, 0, 0), (67, .iconst 1, 1, 0, 0, 0, 0), (68, .goto 4, 3, 0, 0, 0, 0), (71, .iconst 0, 1, 0, 0, 0, 0), (72, .putfield 204, 3, 10, 19, 4, 58), (75, .aload_n 0, 1, 0, 0, 0, 0), (76, .bipush 12, 2, 0, 0, 0, 0), (78, .iload_n 1, 1, 0, 0, 0, 0), (79, .invokevirtual 146, 3, 68, 3, 1, 62), (82, .aload_n 0, 1, 0, 0, 0, 0), (83, .bipush 13, 2, 0, 0, 0, 0), (85, .iload_n 2, 1, 0, 0, 0, 0), (86, .invokevirtual 146, 3, 68, 3, 1, 62), (89, .iconst 0, 1, 0, 0, 0, 0), (90, .istore 5, 2, 0, 0, 0, 0), (92, .iload 5, 2, 0, 0, 0, 0), (94, .bipush 6, 2, 0, 0, 0, 0), (96, .if_icmp .ge 23, 3, 0, 0, 0, 0), (99, .aload_n 0, 1, 0, 0, 0, 0), (100, .getfield 47, 3, 10, 20, 1, 59), (103, .iload 5, 2, 0, 0, 0, 0), (105, .aload_n 0, 1, 0, 0, 0, 0), (106, .getfield 38, 3, 10, 10, 1, 50), (109, .iload 5, 2, 0, 0, 0, 0), (111, .iaload, 1, 0, 0, 0, 0), (112, .iastore, 1, 0, 0, 0, 0), (113, .iinc 5 1, 3, 0, 0, 0, 0), (116, .goto (-24), 3, 0, 0, 0, 0), (119, .iconst 0, 1, 0, 0, 0, 0), (120, .istore 5, 2, 0, 0, 0, 0), (122, .iload 5, 2, 0, 0, 0, 0), (124, .bipush 14, 2, 0, 0, 0, 0), (126, .if_icmp .ge 23, 3, 0, 0, 0, 0), (129, .aload_n 0, 1, 0, 0, 0, 0), (130, .getfield 50, 3, 10, 21, 1, 60), (133, .iload 5, 2, 0, 0, 0, 0), (135, .aload_n 0, 1, 0, 0, 0, 0), (136, .getfield 41, 3, 10, 11, 1, 51), (139, .iload 5, 2, 0, 0, 0, 0), (141, .iaload, 1, 0, 0, 0, 0), (142, .iastore, 1, 0, 0, 0, 0), (143, .iinc 5 1, 3, 0, 0, 0, 0), (146, .goto (-24), 3, 0, 0, 0, 0), (149, .iload 4, 2, 0, 0, 0, 0), (151, .ireturn, 1, 0, 0, 0, 0)]
/-- LikeTalesModel.partner(I)I -/
def kX10_partner : List (Nat × jO) := [(0, .aload_n 0, 1, 0, 0, 0, 0), (1, .getfield 89, 3, 10, 17, 4, 41), (4, .ifCond .ne 6, 3, 0, 0, 0, 0), (7, .bipush (-3), 2, 0, 0, 0, 0), (9, .ireturn, 1, 0, 0, 0, 0), (10, .aload_n 0, 1, 0, 0, 0, 0), (11, .bipush 12, 2, 0, 0, 0, 0), (13, .iload_n 1, 1, 0, 0, 0, 0), (14, .invokevirtual 125, 3, 57, 3, 0, 56), (17, .ifCond .ne 7, 3, 0, 0, 0, 0), (20, .iconst (-1), 1, 0, 0, 0, 0), (21, .goto 25, 3, 0, 0, 0, 0), (24, .aload_n 0, 1, 0, 0, 0, 0), (25, .getfield 47, 3, 10, 20, 1, 59), (28, .iload_n 1, 1, 0, 0, 0, 0), (29, .iaload, 1, 0, 0, 0, 0), (30, .bipush 9, 2, 0, 0, 0, 0), (32, .if_icmp .ne 8, 3, 0, 0, 0, 0), (35, .bipush (-6), 2, 0, 0, 0, 0), (37, .goto 9, 3, 0, 0, 0, 0), (40, .aload_n 0, 1, 0, 0, 0, 0), (41, .getfield 47, 3, 10, 20, 1, 59), (44, .iload_n 1, 1, 0, 0, 0, 0), (45, .iaload, 1, 0, 0, 0, 0), (46, .ireturn, 1, 0, 0, 0, 0)]
/-- LikeTalesModel.answer(I)I -/
def kX10_answer : List (Nat × jO) := [(0, .aload_n 0, 1, 0, 0, 0, 0), (1, .getfield 89, 3, 10, 17, 4, 41), (4, .ifCond .ne 6, 3, 0, 0, 0, 0), (7, .bipush (-3), 2, 0, 0, 0, 0), (9, .ireturn, 1, 0, 0, 0, 0), (10, .iload_n 1, 1, 0, 0, 0, 0), (11, .iconst 0, 1, 0, 0, 0, 0), (12, .aload_n 0, 1, 0, 0, 0, 0), (13, .getfield 32, 3, 10, 8, 1, 39), (16, .bipush 12, 2, 0, 0, 0, 0), (18, .iaload, 1, 0, 0, 0, 0), (19, .iconst 1, 1, 0, 0, 0, 0), (20, .isub, 1, 0, 0, 0, 0), (21, .invokestatic 77, 3, 39, 3, 2, 45), (24, .ifCond .eq 12, 3, 0, 0, 0, 0), (27, .aload_n 0, 1, 0, 0, 0, 0), (28, .getfield 50, 3, 10, 21, 1, 60), (31, .iload_n 1, 1, 0, 0, 0, 0), (32, .iaload, 1, 0, 0, 0, 0), (33, .goto 4, 3, 0, 0, 0, 0), (36, .iconst (-1), 1, 0, 0, 0, 0), (37, .ireturn, 1, 0, 0, 0, 0)]
/-- LikeTalesModel.digits(I)I -/
def kX10_digits : List (Nat × jO) := [(0, .iconst 0, 1, 0, 0, 0, 0), (1, .istore_n 2, 1, 0, 0, 0, 0), (2, .iconst 0, 1, 0, 0, 0, 0), (3, .istore_n 3, 1, 0, 0, 0, 0), (4, .iload_n 3, 1, 0, 0, 0, 0), (5, .aload_n 0, 1, 0, 0, 0, 0), (6, .getfield 23, 3, 10, 5, 1, 47), (9, .iload_n 1, 1, 0, 0, 0, 0), (10, .iaload, 1, 0, 0, 0, 0), (11, .if_icmp .ge 21, 3, 0, 0, 0, 0), (14, .bipush 10, 2, 0, 0, 0, 0), (16, .iload_n 2, 1, 0, 0, 0, 0), (17, .imul, 1, 0, 0, 0, 0), (18, .aload_n 0, 1, 0, 0, 0, 0), (19, .getfield 38, 3, 10, 10, 1, 50), (22, .iload_n 3, 1, 0, 0, 0, 0), (23, .iaload, 1, 0, 0, 0, 0), (24, .iadd, 1, 0, 0, 0, 0), (25, .istore_n 2, 1, 0, 0, 0, 0), (26, .iinc 3 1, 3, 0, 0, 0, 0), (29, .goto (-25), 3, 0, 0, 0, 0), (32, .iload_n 2, 1, 0, 0, 0, 0), (33, .ireturn, 1, 0, 0, 0, 0)]
/-- LikeTalesModel.likes(IIII)I -/
def kX10_likes : List (Nat × jO) := [(0, .iload_n 1, 1, 0, 0, 0, 0), (1, .invokestatic 118, 3, 41, 1, 2, 54), (4, .ifCond .eq 10, 3, 0, 0, 0, 0), (7, .iload_n 2, 1, 0, 0, 0, 0), (8, .invokestatic 118, 3, 41, 1, 2, 54), (11, .ifCond .ne 5, 3, 0, 0, 0, 0), (14, .iconst (-1), 1, 0, 0, 0, 0), (15, .ireturn, 1, 0, 0, 0, 0), (16, .iload_n 3, 1, 0, 0, 0, 0), (17, .invokestatic 195, 3, 81, 1, 2, 73), (20, .ifCond .ne 6, 3, 0, 0, 0, 0), (23, .bipush (-2), 2, 0, 0, 0, 0), (25, .ireturn, 1, 0, 0, 0, 0), (26, .aload_n 0, 1, 0, 0, 0, 0), (27, .iload_n 1, 1, 0, 0, 0, 0), (28, .iload_n 2, 1, 0, 0, 0, 0), (29, .iload_n 3, 1, 0, 0, 0, 0), (30, .aload_n 0, 1, 0, 0, 0, 0), (31, .getfield 114, 3, 10, 4, 0, 46), (34, .iconst 1, 1, 0, 0, 0, 0), (35, .if_icmp .ne 7, 3, 0, 0, 0, 0), (38, .iconst 1, 1, 0, 0, 0, 0), (39, .goto 4, 3, 0, 0, 0, 0), (42, .iconst 0, 1, 0, 0, 0, 0), (43, .invokevirtual 198, 3, 80, 5, 0, 74), (46, .istore 5, 2, 0, 0, 0, 0), (48, .aload_n 0, 1, 0, 0, 0, 0), (49, .getfield 175, 3, 10, 15, 0, 54), (52, .istore 6, 2, 0, 0, 0, 0), (54, .iconst 0, 1, 0, 0, 0, 0), (55, .istore 7, 2, 0, 0, 0, 0), (57, .aload_n 0, 1, 0, 0, 0, 0), (58, .iload_n 1, 1, 0, 0, 0, 0), (59, .iload_n 2, 1, 0, 0, 0, 0), (60, .invokevirtual 181, 3, 77, 3, 1, 69), (63, .iconst 1, 1, 0, 0, 0, 0), (64, .istore 8, 2, 0, 0, 0, 0), (66, .iload 8, 2, 0, 0, 0, 0), (68, .ifCond .eq 73, 3, 0, 0, 0, 0), (71, .aload_n 0, 1, 0, 0, 0, 0), (72, .iload_n 1, 1, 0, 0, 0, 0), (73, .invokevirtual 166, 3, 76, 2, 0, 67), (76, .ifCond .eq 54, 3, 0, 0, 0, 0), (79, .aload_n 0, 1, 0, 0, 0, 0), (80, .iload_n 1, 1, 0, 0, 0, 0), (81, .invokevirtual 169, 3, 75, 2, 0, 68), (84, .iload 6, 2, 0, 0, 0, 0), (86, .if_icmp .ne 44, 3, 0, 0, 0, 0), (89, .aload_n 0, 1, 0, 0, 0, 0), (90, .iload_n 1, 1, 0, 0, 0, 0), (91, .iload_n 2, 1, 0, 0, 0, 0), (92, .iload_n 3, 1, 0, 0, 0, 0), (93, .aload_n 0, 1, 0, 0, 0, 0), (94, .getfield 114, 3, 10, 4, 0, 46), (97, .iconst 1, 1, 0, 0, 0, 0), (98, .if_icmp .ne 7, 3, 0, 0, 0, 0), (101, .iconst 1, 1, 0, 0, 0, 0), (102, .goto 4, 3, 0, 0, 0, 0), (105, .iconst 0, 1, 0, 0, 0, 0), (106, .invokevirtual 188, 3, 74, 5, 0, 71), (109, .iload 5, 2, 0, 0, 0, 0), (111, .if_icmp .ne 19, 3, 0, 0, 0, 0), (114, .iload 7, 2, 0, 0, 0, 0), (116, .iload 4, 2, 0, 0, 0, 0), (118, .if_icmp .ne 9, 3, 0, 0, 0, 0), (121, .aload_n 0, 1, 0, 0, 0, 0), (122, .iload_n 1, 1, 0, 0, 0, 0), (123, .invokevirtual 207, 3, 85, 2, 0, 75), (126, .ireturn, 1, 0, 0, 0, 0), (127, .iinc 7 1, 3, 0, 0, 0, 0), (130, .aload_n 0, 1, 0, 0, 0, 0), (131, .iload_n 1, 1, 0, 0, 0, 0), (132, .iload_n 2, 1, 0, 0, 0, 0), (133, .invokevirtual 192, 3, 78, 3, 0, 72), (136, .istore 8, 2, 0, 0, 0, 0), (138, .goto (-72), 3, 0, 0, 0, 0), (141, .iload 4, 2, 0, 0, 0, 0), (143, .iconst (-1), 1, 0, 0, 0, 0), (144, .if_icmp .ne 8, 3, 0, 0, 0, 0), (147, .iload 7, 2, 0, 0, 0, 0), (149, .goto 5, 3, 0, 0, 0, 0), (152, .bipush (-6), 2, 0, 0, 0, 0), (154, .ireturn, 1, 0, 0, 0, 0)]
/-- LikeTalesModel.worth(IIII)I -/
def kX10_worth : List (Nat × jO) := [(0, .iload_n 1, 1, 0, 0, 0, 0), (1, .invokestatic 118, 3, 41, 1, 2, 54), (4, .ifCond .eq 10, 3, 0, 0, 0, 0), (7, .iload_n 2, 1, 0, 0, 0, 0), (8, .invokestatic 118, 3, 41, 1, 2, 54), (11, .ifCond .ne 5, 3, 0, 0, 0, 0), (14, .iconst (-1), 1, 0, 0, 0, 0), (15, .ireturn, 1, 0, 0, 0, 0), (16, .iload 4, 2, 0, 0, 0, 0), (18, .istore 5, 2, 0, 0, 0, 0), (20, .iload_n 3, 1, 0, 0, 0, 0), (21, .invokestatic 195, 3, 81, 1, 2, 73), (24, .ifCond .eq 12, 3, 0, 0, 0, 0), (27, .iload 4, 2, 0, 0, 0, 0), (29, .ifCond .lt 7, 3, 0, 0, 0, 0), (32, .iconst 1, 1, 0, 0, 0, 0), (33, .goto 4, 3, 0, 0, 0, 0), (36, .iconst 0, 1, 0, 0, 0, 0), (37, .istore 6, 2, 0, 0, 0, 0), (39, .aload_n 0, 1, 0, 0, 0, 0), (40, .getfield 23, 3, 10, 5, 1, 47), (43, .iload_n 1, 1, 0, 0, 0, 0), (44, .iaload, 1, 0, 0, 0, 0), (45, .iconst 1, 1, 0, 0, 0, 0), (46, .isub, 1, 0, 0, 0, 0), (47, .istore 7, 2, 0, 0, 0, 0), (49, .iload 7, 2, 0, 0, 0, 0), (51, .ifCond .lt 68, 3, 0, 0, 0, 0), (54, .iload 6, 2, 0, 0, 0, 0), (56, .ifCond .eq 63, 3, 0, 0, 0, 0), (59, .aload_n 0, 1, 0, 0, 0, 0), (60, .getfield 38, 3, 10, 10, 1, 50), (63, .iload 7, 2, 0, 0, 0, 0), (65, .iload 5, 2, 0, 0, 0, 0), (67, .bipush 10, 2, 0, 0, 0, 0), (69, .irem, 1, 0, 0, 0, 0), (70, .iastore, 1, 0, 0, 0, 0), (71, .iload 5, 2, 0, 0, 0, 0), (73, .bipush 10, 2, 0, 0, 0, 0), (75, .idiv, 1, 0, 0, 0, 0), (76, .istore 5, 2, 0, 0, 0, 0), (78, .aload_n 0, 1, 0, 0, 0, 0), (79, .getfield 38, 3, 10, 10, 1, 50), (82, .iload 7, 2, 0, 0, 0, 0), (84, .iaload, 1, 0, 0, 0, 0), (85, .bipush 9, 2, 0, 0, 0, 0), (87, .if_icmp .eq 19, 3, 0, 0, 0, 0), (90, .aload_n 0, 1, 0, 0, 0, 0), (91, .getfield 38, 3, 10, 10, 1, 50), (94, .iload 7, 2, 0, 0, 0, 0), (96, .iaload, 1, 0, 0, 0, 0), (97, .aload_n 0, 1, 0, 0, 0, 0), (98, .getfield 23, 3, 10, 5, 1, 47), (101, .iload_n 2, 1, 0, 0, 0, 0), (102, .iaload, 1, 0, 0, 0, 0), (103, .if_icmp .ge 7, 3, 0, 0, 0, 0), (106, .iconst 1, 1, 0, 0, 0, 0), (107, .goto 4, 3, 0, 0, 0, 0), (110, .iconst 0, 1, 0, 0, 0, 0), (111, .istore 6, 2, 0, 0, 0, 0), (113, .iinc 7 (-1), 3, 0, 0, 0, 0), (116, .goto (-67), 3, 0, 0, 0, 0), (119, .iload 6, 2, 0, 0, 0, 0), (121, .ifCond .eq 16, 3, 0, 0, 0, 0), (124, .iload 5, 2, 0, 0, 0, 0), (126, .ifCond .ne 11, 3, 0, 0, 0, 0), (129, .aload_n 0, 1, 0, 0, 0, 0), (130, .iload_n 1, 1, 0, 0, 0, 0), (131, .invokevirtual 166, 3, 76, 2, 0, 67), (134, .ifCond .ne 6, 3, 0, 0, 0, 0), (137, .bipush (-2), 2, 0, 0, 0, 0), (139, .ireturn, 1, 0, 0, 0, 0), (140, .aload_n 0, 1, 0, 0, 0, 0), (141, .iload_n 1, 1, 0, 0, 0, 0), (142, .iload_n 2, 1, 0, 0, 0, 0), (143, .iload_n 3, 1, 0, 0, 0, 0), (144, .aload_n 0, 1, 0, 0, 0, 0), (145, .getfield 114, 3, 10, 4, 0, 46), (148, .iconst 1, 1, 0, 0, 0, 0), (149, .if_icmp .ne 7, 3, 0, 0, 0, 0), (152, .iconst 1, 1, 0, 0, 0, 0), (153, .goto 4, 3, 0, 0, 0, 0), (156, .iconst 0, 1, 0, 0, 0, 0), (157, .invokevirtual 188, 3, 74, 5, 0, 71), (160, .ireturn, 1, 0, 0, 0, 0)]
/-- LikeTalesModel.same(II)I -/
def kX10_same : List (Nat × jO) := [(0, .iload_n 1, 1, 0, 0, 0, 0), (1, .invokestatic 118, 3, 41, 1, 2, 54), (4, .ifCond .eq 10, 3, 0, 0, 0, 0), (7, .iload_n 2, 1, 0, 0, 0, 0), (8, .invokestatic 118, 3, 41, 1, 2, 54), (11, .ifCond .ne 5, 3, 0, 0, 0, 0), (14, .iconst (-1), 1, 0, 0, 0, 0), (15, .ireturn, 1, 0, 0, 0, 0), (16, .aload_n 0, 1, 0, 0, 0, 0), (17, .getfield 23, 3, 10, 5, 1, 47), (20, .iload_n 1, 1, 0, 0, 0, 0), (21, .iaload, 1, 0, 0, 0, 0), (22, .aload_n 0, 1, 0, 0, 0, 0), (23, .getfield 23, 3, 10, 5, 1, 47), (26, .iload_n 2, 1, 0, 0, 0, 0), (27, .iaload, 1, 0, 0, 0, 0), (28, .if_icmp .ne 18, 3, 0, 0, 0, 0), (31, .aload_n 0, 1, 0, 0, 0, 0), (32, .getfield 32, 3, 10, 8, 1, 39), (35, .iload_n 1, 1, 0, 0, 0, 0), (36, .iaload, 1, 0, 0, 0, 0), (37, .aload_n 0, 1, 0, 0, 0, 0), (38, .getfield 32, 3, 10, 8, 1, 39), (41, .iload_n 2, 1, 0, 0, 0, 0), (42, .iaload, 1, 0, 0, 0, 0), (43, .if_icmp .eq 5, 3, 0, 0, 0, 0), (46, .iconst 0, 1, 0, 0, 0, 0), (47, .ireturn, 1, 0, 0, 0, 0), (48, .aload_n 0, 1, 0, 0, 0, 0), (49, .iload_n 1, 1, 0, 0, 0, 0), (50, .iload_n 2, 1, 0, 0, 0, 0), (51, .invokevirtual 181, 3, 77, 3, 1, 69), (54, .iconst 1, 1, 0, 0, 0, 0), (55, .istore_n 3, 1, 0, 0, 0, 0), (56, .iload_n 3, 1, 0, 0, 0, 0), (57, .ifCond .eq 201, 3, 0, 0, 0, 0), (60, .aload_n 0, 1, 0, 0, 0, 0), (61, .iload_n 1, 1, 0, 0, 0, 0), (62, .invokevirtual 166, 3, 76, 2, 0, 67), (65, .ifCond .eq 183, 3, 0, 0, 0, 0), (68, .aload_n 0, 1, 0, 0, 0, 0), (69, .iload_n 1, 1, 0, 0, 0, 0), (70, .invokevirtual 169, 3, 75, 2, 0, 68), (73, .aload_n 0, 1, 0, 0, 0, 0), (74, .getfield 23, 3, 10, 5, 1, 47), (77, .iload_n 1, 1, 0, 0, 0, 0), (78, .iaload, 1, 0, 0, 0, 0), (79, .if_icmp .ne 169, 3, 0, 0, 0, 0), (82, .aload_n 0, 1, 0, 0, 0, 0), (83, .iload_n 1, 1, 0, 0, 0, 0), (84, .iload_n 2, 1, 0, 0, 0, 0), (85, .iconst 0, 1, 0, 0, 0, 0), (86, .iconst 0, 1, 0, 0, 0, 0), (87, .invokevirtual 188, 3, 74, 5, 0, 71), (90, .pop, 1, 0, 0, 0, 0), (91, .aload_n 0, 1, 0, 0, 0, 0), (92, .getfield 155, 3, 10, 12, 0, 52), (95, .aload_n 0, 1, 0, 0, 0, 0), (96, .getfield 32, 3, 10, 8, 1, 39), (99, .iload_n 1, 1, 0, 0, 0, 0), (100, .iaload, 1, 0, 0, 0, 0), (101, .if_icmp .ne 7, 3, 0, 0, 0, 0), (104, .iconst 1, 1, 0, 0, 0, 0), (105, .goto 4, 3, 0, 0, 0, 0), (108, .iconst 0, 1, 0, 0, 0, 0), (109, .istore 4, 2, 0, 0, 0, 0), (111, .iconst 0, 1, 0, 0, 0, 0), (112, .istore 5, 2, 0, 0, 0, 0), (114, .iload 5, 2, 0, 0, 0, 0), (116, .aload_n 0, 1, 0, 0, 0, 0), (117, .getfield 23, 3, 10, 5, 1, 47), (120, .iload_n 1, 1, 0, 0, 0, 0), (121, .iaload, 1, 0, 0, 0, 0), (122, .if_icmp .ge 53, 3, 0, 0, 0, 0), (125, .iload 4, 2, 0, 0, 0, 0), (127, .ifCond .eq 39, 3, 0, 0, 0, 0), (130, .aload_n 0, 1, 0, 0, 0, 0), (131, .getfield 26, 3, 10, 6, 1, 49), (134, .bipush 6, 2, 0, 0, 0, 0), (136, .iload_n 1, 1, 0, 0, 0, 0), (137, .imul, 1, 0, 0, 0, 0), (138, .iload 5, 2, 0, 0, 0, 0), (140, .iadd, 1, 0, 0, 0, 0), (141, .iaload, 1, 0, 0, 0, 0), (142, .aload_n 0, 1, 0, 0, 0, 0), (143, .getfield 26, 3, 10, 6, 1, 49), (146, .bipush 6, 2, 0, 0, 0, 0), (148, .iload_n 2, 1, 0, 0, 0, 0), (149, .imul, 1, 0, 0, 0, 0), (150, .aload_n 0, 1, 0, 0, 0, 0), (151, .getfield 38, 3, 10, 10, 1, 50), (154, .iload 5, 2, 0, 0, 0, 0), (156, .iaload, 1, 0, 0, 0, 0), (157, .iadd, 1, 0, 0, 0, 0), (158, .iaload, 1, 0, 0, 0, 0), (159, .if_icmp .ne 7, 3, 0, 0, 0, 0), (162, .iconst 1, 1, 0, 0, 0, 0), (163, .goto 4, 3, 0, 0, 0, 0), (166, .iconst 0, 1, 0, 0, 0, 0), (167, .istore 4, 2, 0, 0, 0, 0), (169, .iinc 5 1, 3, 0, 0, 0, 0), (172, .goto (-58), 3, 0, 0, 0, 0), (175, .iconst 0, 1, 0, 0, 0, 0), (176, .istore 5, 2, 0, 0, 0, 0), (178, .iload 5, 2, 0, 0, 0, 0), (180, .aload_n 0, 1, 0, 0, 0, 0), (181, .getfield 32, 3, 10, 8, 1, 39), (184, .iload_n 1, 1, 0, 0, 0, 0), (185, .iaload, 1, 0, 0, 0, 0), (186, .if_icmp .ge 55, 3, 0, 0, 0, 0), (189, .iload 4, 2, 0, 0, 0, 0), (191, .ifCond .eq 50, 3, 0, 0, 0, 0), (194, .aload_n 0, 1, 0, 0, 0, 0), (195, .getfield 35, 3, 10, 9, 1, 40), (198, .iload_n 1, 1, 0, 0, 0, 0), (199, .iload 5, 2, 0, 0, 0, 0), (201, .invokestatic 81, 3, 42, 2, 2, 46), (204, .iconst 4, 1, 0, 0, 0, 0), (205, .iadd, 1, 0, 0, 0, 0), (206, .iaload, 1, 0, 0, 0, 0), (207, .aload_n 0, 1, 0, 0, 0, 0), (208, .getfield 35, 3, 10, 9, 1, 40), (211, .iload_n 2, 1, 0, 0, 0, 0), (212, .aload_n 0, 1, 0, 0, 0, 0), (213, .getfield 41, 3, 10, 11, 1, 51), (216, .iload 5, 2, 0, 0, 0, 0), (218, .iaload, 1, 0, 0, 0, 0), (219, .invokestatic 81, 3, 42, 2, 2, 46), (222, .iconst 4, 1, 0, 0, 0, 0), (223, .iadd, 1, 0, 0, 0, 0), (224, .iaload, 1, 0, 0, 0, 0), (225, .if_icmp .ne 7, 3, 0, 0, 0, 0), (228, .iconst 1, 1, 0, 0, 0, 0), (229, .goto 4, 3, 0, 0, 0, 0), (232, .iconst 0, 1, 0, 0, 0, 0), (233, .istore 4, 2, 0, 0, 0, 0), (235, .iinc 5 1, 3, 0, 0, 0, 0), (238, .goto (-60), 3, 0, 0, 0, 0), (241, .iload 4, 2, 0, 0, 0, 0), (243, .ifCond .eq 5, 3, 0, 0, 0, 0), (246, .iconst 1, 1, 0, 0, 0, 0), (247, .ireturn, 1, 0, 0, 0, 0), (248, .aload_n 0, 1, 0, 0, 0, 0), (249, .iload_n 1, 1, 0, 0, 0, 0), (250, .iload_n 2, 1, 0, 0, 0, 0), (251, .invokevirtual 192, 3, 78, 3, 0, 72), (254, .istore_n 3, 1, 0, 0, 0, 0), (255, .goto (-199), 3, 0, 0, 0, 0), (258, .iconst 0, 1, 0, 0, 0, 0), (259, .ireturn, 1, 0, 0, 0, 0)]
/-- LikeTalesModel.over(I)I -/
def kX10_over : List (Nat × jO) := [(0, .iload_n 1, 1, 0, 0, 0, 0), (1, .ifCond .ge 6, 3, 0, 0, 0, 0), (4, .bipush (-6), 2, 0, 0, 0, 0), (6, .ireturn, 1, 0, 0, 0, 0), (7, .iload_n 1, 1, 0, 0, 0, 0), (8, .bipush 10, 2, 0, 0, 0, 0), (10, .if_icmp .ge 26, 3, 0, 0, 0, 0), (13, .aload_n 0, 1, 0, 0, 0, 0), (14, .getfield 38, 3, 10, 10, 1, 50), (17, .iload_n 1, 1, 0, 0, 0, 0), (18, .iaload, 1, 0, 0, 0, 0), (19, .bipush 9, 2, 0, 0, 0, 0), (21, .if_icmp .ne 8, 3, 0, 0, 0, 0), (24, .bipush (-6), 2, 0, 0, 0, 0), (26, .goto 9, 3, 0, 0, 0, 0), (29, .aload_n 0, 1, 0, 0, 0, 0), (30, .getfield 38, 3, 10, 10, 1, 50), (33, .iload_n 1, 1, 0, 0, 0, 0), (34, .iaload, 1, 0, 0, 0, 0), (35, .ireturn, 1, 0, 0, 0, 0), (36, .iload_n 1, 1, 0, 0, 0, 0), (37, .bipush 10, 2, 0, 0, 0, 0), (39, .isub, 1, 0, 0, 0, 0), (40, .istore_n 2, 1, 0, 0, 0, 0), (41, .aload_n 0, 1, 0, 0, 0, 0), (42, .getfield 41, 3, 10, 11, 1, 51), (45, .iload_n 2, 1, 0, 0, 0, 0), (46, .iaload, 1, 0, 0, 0, 0), (47, .ifCond .lt 15, 3, 0, 0, 0, 0), (50, .bipush 10, 2, 0, 0, 0, 0), (52, .aload_n 0, 1, 0, 0, 0, 0), (53, .getfield 41, 3, 10, 11, 1, 51), (56, .iload_n 2, 1, 0, 0, 0, 0), (57, .iaload, 1, 0, 0, 0, 0), (58, .iadd, 1, 0, 0, 0, 0), (59, .goto 26, 3, 0, 0, 0, 0), (62, .aload_n 0, 1, 0, 0, 0, 0), (63, .getfield 56, 3, 10, 24, 1, 61), (66, .iload_n 2, 1, 0, 0, 0, 0), (67, .iaload, 1, 0, 0, 0, 0), (68, .ifCond .lt 15, 3, 0, 0, 0, 0), (71, .bipush 30, 2, 0, 0, 0, 0), (73, .aload_n 0, 1, 0, 0, 0, 0), (74, .getfield 56, 3, 10, 24, 1, 61), (77, .iload_n 2, 1, 0, 0, 0, 0), (78, .iaload, 1, 0, 0, 0, 0), (79, .iadd, 1, 0, 0, 0, 0), (80, .goto 5, 3, 0, 0, 0, 0), (83, .bipush (-6), 2, 0, 0, 0, 0), (85, .ireturn, 1, 0, 0, 0, 0)]
/-- LikeTalesModel.layGuesses()V -/
def kX10_layGuesses : List (Nat × jO) := [(0, .aload_n 0, 1, 0, 0, 0, 0), (1, .iconst 0, 1, 0, 0, 0, 0), (2, .putfield 210, 3, 10, 22, 0, 62), (5, .iconst 0, 1, 0, 0, 0, 0), (6, .istore_n 1, 1, 0, 0, 0, 0), (7, .iload_n 1, 1, 0, 0, 0, 0), (8, .aload_n 0, 1, 0, 0, 0, 0), (9, .getfield 32, 3, 10, 8, 1, 39), (12, .bipush 12, 2, 0, 0, 0, 0), (14, .iaload, 1, 0, 0, 0, 0), (15, .if_icmp .ge 126, 3, 0, 0, 0, 0), (18, .aload_n 0, 1, 0, 0, 0, 0), (19, .getfield 56, 3, 10, 24, 1, 61), (22, .iload_n 1, 1, 0, 0, 0, 0), (23, .bipush (-6), 2, 0, 0, 0, 0), (25, .iastore, 1, 0, 0, 0, 0), (26, .bipush 12, 2, 0, 0, 0, 0), (28, .iload_n 1, 1, 0, 0, 0, 0), (29, .invokestatic 81, 3, 42, 2, 2, 46), (32, .istore_n 2, 1, 0, 0, 0, 0), (33, .aload_n 0, 1, 0, 0, 0, 0), (34, .getfield 41, 3, 10, 11, 1, 51), (37, .iload_n 1, 1, 0, 0, 0, 0), (38, .iaload, 1, 0, 0, 0, 0), (39, .ifCond .ge 7, 3, 0, 0, 0, 0), (42, .iconst 1, 1, 0, 0, 0, 0), (43, .goto 4, 3, 0, 0, 0, 0), (46, .iconst 0, 1, 0, 0, 0, 0), (47, .istore_n 3, 1, 0, 0, 0, 0), (48, .iconst 0, 1, 0, 0, 0, 0), (49, .istore 4, 2, 0, 0, 0, 0), (51, .iload 4, 2, 0, 0, 0, 0), (53, .aload_n 0, 1, 0, 0, 0, 0), (54, .getfield 7, 3, 10, 0, 1, 44), (57, .aload_n 0, 1, 0, 0, 0, 0), (58, .getfield 35, 3, 10, 9, 1, 40), (61, .iload_n 2, 1, 0, 0, 0, 0), (62, .iaload, 1, 0, 0, 0, 0), (63, .iaload, 1, 0, 0, 0, 0), (64, .if_icmp .ge 37, 3, 0, 0, 0, 0), (67, .iload_n 3, 1, 0, 0, 0, 0), (68, .ifCond .eq 25, 3, 0, 0, 0, 0), (71, .aload_n 0, 1, 0, 0, 0, 0), (72, .aload_n 0, 1, 0, 0, 0, 0), (73, .getfield 35, 3, 10, 9, 1, 40), (76, .iload_n 2, 1, 0, 0, 0, 0), (77, .iconst 1, 1, 0, 0, 0, 0), (78, .iadd, 1, 0, 0, 0, 0), (79, .iload 4, 2, 0, 0, 0, 0), (81, .iadd, 1, 0, 0, 0, 0), (82, .iaload, 1, 0, 0, 0, 0), (83, .invokevirtual 213, 3, 89, 2, 0, 76), (86, .ifCond .lt 7, 3, 0, 0, 0, 0), (89, .iconst 1, 1, 0, 0, 0, 0), (90, .goto 4, 3, 0, 0, 0, 0), (93, .iconst 0, 1, 0, 0, 0, 0), (94, .istore_n 3, 1, 0, 0, 0, 0), (95, .iinc 4 1, 3, 0, 0, 0, 0), (98, .goto (-47), 3, 0, 0, 0, 0), (101, .iload_n 3, 1, 0, 0, 0, 0), (102, .ifCond .eq 33, 3, 0, 0, 0, 0), (105, .aload_n 0, 1, 0, 0, 0, 0), (106, .getfield 56, 3, 10, 24, 1, 61), (109, .iload_n 1, 1, 0, 0, 0, 0), (110, .aload_n 0, 1, 0, 0, 0, 0), (111, .getfield 210, 3, 10, 22, 0, 62), (114, .iastore, 1, 0, 0, 0, 0), (115, .aload_n 0, 1, 0, 0, 0, 0), (116, .getfield 53, 3, 10, 23, 1, 63), (119, .aload_n 0, 1, 0, 0, 0, 0), (120, .getfield 210, 3, 10, 22, 0, 62), (123, .iload_n 1, 1, 0, 0, 0, 0), (124, .iastore, 1, 0, 0, 0, 0), (125, .aload_n 0, 1, 0, 0, 0, 0), (126, .dup, 1, 0, 0, 0, 0), (127, .getfield 210, 3, 10, 22, 0, 62), (130, .iconst 1, 1, 0, 0, 0, 0), (131, .iadd, 1, 0, 0, 0, 0), (132, .putfield 210, 3, 10, 22, 0, 62), (135, .iinc 1 1, 3, 0, 0, 0, 0), (138, .goto (-131), 3, 0, 0, 0, 0), (141, .return_, 1, 0, 0, 0, 0)]
/-- LikeTalesModel.hasGuess(II)Z -/
def kX10_hasGuess : List (Nat × jO) := [(0, .bipush 12, 2, 0, 0, 0, 0), (2, .aload_n 0, 1, 0, 0, 0, 0), (3, .getfield 53, 3, 10, 23, 1, 63), (6, .iload_n 1, 1, 0, 0, 0, 0), (7, .iaload, 1, 0, 0, 0, 0), (8, .invokestatic 81, 3, 42, 2, 2, 46), (11, .istore_n 3, 1, 0, 0, 0, 0), (12, .iload_n 2, 1, 0, 0, 0, 0), (13, .ifCond .lt 53, 3, 0, 0, 0, 0), (16, .aload_n 0, 1, 0, 0, 0, 0), (17, .bipush 13, 2, 0, 0, 0, 0), (19, .iload_n 2, 1, 0, 0, 0, 0), (20, .aload_n 0, 1, 0, 0, 0, 0), (21, .aload_n 0, 1, 0, 0, 0, 0), (22, .getfield 35, 3, 10, 9, 1, 40), (25, .iload_n 3, 1, 0, 0, 0, 0), (26, .iconst 1, 1, 0, 0, 0, 0), (27, .iadd, 1, 0, 0, 0, 0), (28, .iaload, 1, 0, 0, 0, 0), (29, .invokevirtual 213, 3, 89, 2, 0, 76), (32, .aload_n 0, 1, 0, 0, 0, 0), (33, .aload_n 0, 1, 0, 0, 0, 0), (34, .getfield 35, 3, 10, 9, 1, 40), (37, .iload_n 3, 1, 0, 0, 0, 0), (38, .iconst 2, 1, 0, 0, 0, 0), (39, .iadd, 1, 0, 0, 0, 0), (40, .iaload, 1, 0, 0, 0, 0), (41, .invokevirtual 213, 3, 89, 2, 0, 76), (44, .aload_n 0, 1, 0, 0, 0, 0), (45, .aload_n 0, 1, 0, 0, 0, 0), (46, .getfield 35, 3, 10, 9, 1, 40), (49, .iload_n 3, 1, 0, 0, 0, 0), (50, .iconst 3, 1, 0, 0, 0, 0), (51, .iadd, 1, 0, 0, 0, 0), (52, .iaload, 1, 0, 0, 0, 0), (53, .invokevirtual 213, 3, 89, 2, 0, 76), (56, .invokevirtual 136, 3, 61, 6, 0, 59), (59, .ifCond .lt 7, 3, 0, 0, 0, 0), (62, .iconst 1, 1, 0, 0, 0, 0), (63, .goto 4, 3, 0, 0, 0, 0), (66, .iconst 0, 1, 0, 0, 0, 0), (67, .ireturn, 1, 1, 0, 0, 0)]
/-- LikeTalesModel.isAgainst(I)Z -/
def kX10_isAgainst : List (Nat × jO) := [(0, .aload_n 0, 1, 0, 0, 0, 0), (1, .iload_n 1, 1, 0, 0, 0, 0), (2, .aload_n 0, 1, 0, 0, 0, 0), (3, .getfield 20, 3, 10, 3, 1, 43), (6, .aload_n 0, 1, 0, 0, 0, 0), (7, .getfield 35, 3, 10, 9, 1, 40), (10, .bipush 12, 2, 0, 0, 0, 0), (12, .aload_n 0, 1, 0, 0, 0, 0), (13, .getfield 53, 3, 10, 23, 1, 63), (16, .iload_n 1, 1, 0, 0, 0, 0), (17, .iaload, 1, 0, 0, 0, 0), (18, .invokestatic 81, 3, 42, 2, 2, 46), (21, .iaload, 1, 0, 0, 0, 0), (22, .iaload, 1, 0, 0, 0, 0), (23, .invokevirtual 216, 3, 91, 3, 0, 77), (26, .ireturn, 1, 1, 0, 0, 0)]
/-- LikeTalesModel.takeKept()V -/
def kX10_takeKept : List (Nat × jO) := [(0, .iconst 0, 1, 0, 0, 0, 0), (1, .istore_n 1, 1, 0, 0, 0, 0), (2, .iload_n 1, 1, 0, 0, 0, 0), (3, .bipush 6, 2, 0, 0, 0, 0), (5, .if_icmp .ge 21, 3, 0, 0, 0, 0), (8, .aload_n 0, 1, 0, 0, 0, 0), (9, .getfield 38, 3, 10, 10, 1, 50), (12, .iload_n 1, 1, 0, 0, 0, 0), (13, .aload_n 0, 1, 0, 0, 0, 0), (14, .getfield 47, 3, 10, 20, 1, 59), (17, .iload_n 1, 1, 0, 0, 0, 0), (18, .iaload, 1, 0, 0, 0, 0), (19, .iastore, 1, 0, 0, 0, 0), (20, .iinc 1 1, 3, 0, 0, 0, 0), (23, .goto (-21), 3, 0, 0, 0, 0), (26, .iconst 0, 1, 0, 0, 0, 0), (27, .istore_n 1, 1, 0, 0, 0, 0), (28, .iload_n 1, 1, 0, 0, 0, 0), (29, .bipush 14, 2, 0, 0, 0, 0), (31, .if_icmp .ge 21, 3, 0, 0, 0, 0), (34, .aload_n 0, 1, 0, 0, 0, 0), (35, .getfield 41, 3, 10, 11, 1, 51), (38, .iload_n 1, 1, 0, 0, 0, 0), (39, .aload_n 0, 1, 0, 0, 0, 0), (40, .getfield 50, 3, 10, 21, 1, 60), (43, .iload_n 1, 1, 0, 0, 0, 0), (44, .iaload, 1, 0, 0, 0, 0), (45, .iastore, 1, 0, 0, 0, 0), (46, .iinc 1 1, 3, 0, 0, 0, 0), (49, .goto (-21), 3, 0, 0, 0, 0), (52, .aload_n 0, 1, 0, 0, 0, 0), (53, .invokevirtual 219, 3, 90, 1, 1, 78), (56, .return_, 1, 0, 0, 0, 0)]
/-- LikeTalesModel.guess(I)I -/
def kX10_guess : List (Nat × jO) := [(0, .aload_n 0, 1, 0, 0, 0, 0), (1, .getfield 89, 3, 10, 17, 4, 41), (4, .ifCond .ne 6, 3, 0, 0, 0, 0), (7, .bipush (-3), 2, 0, 0, 0, 0), (9, .ireturn, 1, 0, 0, 0, 0), (10, .aload_n 0, 1, 0, 0, 0, 0), (11, .invokevirtual 222, 3, 93, 1, 1, 79), (14, .iload_n 1, 1, 0, 0, 0, 0), (15, .iconst (-1), 1, 0, 0, 0, 0), (16, .if_icmp .ne 10, 3, 0, 0, 0, 0), (19, .aload_n 0, 1, 0, 0, 0, 0), (20, .getfield 210, 3, 10, 22, 0, 62), (23, .goto 28, 3, 0, 0, 0, 0), (26, .iload_n 1, 1, 0, 0, 0, 0), (27, .iconst 0, 1, 0, 0, 0, 0), (28, .aload_n 0, 1, 0, 0, 0, 0), (29, .getfield 210, 3, 10, 22, 0, 62), (32, .iconst 1, 1, 0, 0, 0, 0), (33, .isub, 1, 0, 0, 0, 0), (34, .invokestatic 77, 3, 39, 3, 2, 45), (37, .ifCond .eq 12, 3, 0, 0, 0, 0), (40, .aload_n 0, 1, 0, 0, 0, 0), (41, .getfield 53, 3, 10, 23, 1, 63), (44, .iload_n 1, 1, 0, 0, 0, 0), (45, .iaload, 1, 0, 0, 0, 0), (46, .goto 5, 3, 0, 0, 0, 0), (49, .bipush (-6), 2, 0, 0, 0, 0), (51, .ireturn, 1, 0, 0, 0, 0)]
/-- LikeTalesModel.ofGuess(II)I -/
def kX10_ofGuess : List (Nat × jO) := [(0, .aload_n 0, 1, 0, 0, 0, 0), (1, .getfield 89, 3, 10, 17, 4, 41), (4, .ifCond .ne 6, 3, 0, 0, 0, 0), (7, .bipush (-3), 2, 0, 0, 0, 0), (9, .ireturn, 1, 0, 0, 0, 0), (10, .iload_n 2, 1, 0, 0, 0, 0), (11, .iconst 0, 1, 0, 0, 0, 0), (12, .iconst 4, 1, 0, 0, 0, 0), (13, .invokestatic 77, 3, 39, 3, 2, 45), (16, .ifCond .ne 6, 3, 0, 0, 0, 0), (19, .bipush (-2), 2, 0, 0, 0, 0), (21, .ireturn, 1, 0, 0, 0, 0), (22, .aload_n 0, 1, 0, 0, 0, 0), (23, .invokevirtual 222, 3, 93, 1, 1, 79), (26, .iload_n 1, 1, 0, 0, 0, 0), (27, .iconst 0, 1, 0, 0, 0, 0), (28, .aload_n 0, 1, 0, 0, 0, 0), (29, .getfield 210, 3, 10, 22, 0, 62), (32, .iconst 1, 1, 0, 0, 0, 0), (33, .isub, 1, 0, 0, 0, 0), (34, .invokestatic 77, 3, 39, 3, 2, 45), (37, .ifCond .ne 6, 3, 0, 0, 0, 0), (40, .bipush (-6), 2, 0, 0, 0, 0), (42, .ireturn, 1, 0, 0, 0, 0), (43, .bipush 12, 2, 0, 0, 0, 0), (45, .aload_n 0, 1, 0, 0, 0, 0), (46, .getfield 53, 3, 10, 23, 1, 63), (49, .iload_n 1, 1, 0, 0, 0, 0), (50, .iaload, 1, 0, 0, 0, 0), (51, .invokestatic 81, 3, 42, 2, 2, 46), (54, .istore_n 3, 1, 0, 0, 0, 0), (55, .iload_n 2, 1, 0, 0, 0, 0), (56, .iconst 3, 1, 0, 0, 0, 0), (57, .if_icmp .ge 20, 3, 0, 0, 0, 0), (60, .aload_n 0, 1, 0, 0, 0, 0), (61, .aload_n 0, 1, 0, 0, 0, 0), (62, .getfield 35, 3, 10, 9, 1, 40), (65, .iload_n 3, 1, 0, 0, 0, 0), (66, .iconst 1, 1, 0, 0, 0, 0), (67, .iadd, 1, 0, 0, 0, 0), (68, .iload_n 2, 1, 0, 0, 0, 0), (69, .iadd, 1, 0, 0, 0, 0), (70, .iaload, 1, 0, 0, 0, 0), (71, .invokevirtual 213, 3, 89, 2, 0, 76), (74, .goto 43, 3, 0, 0, 0, 0), (77, .iload_n 2, 1, 0, 0, 0, 0), (78, .iconst 3, 1, 0, 0, 0, 0), (79, .if_icmp .ne 25, 3, 0, 0, 0, 0), (82, .aload_n 0, 1, 0, 0, 0, 0), (83, .iload_n 1, 1, 0, 0, 0, 0), (84, .aload_n 0, 1, 0, 0, 0, 0), (85, .getfield 35, 3, 10, 9, 1, 40), (88, .iload_n 3, 1, 0, 0, 0, 0), (89, .iaload, 1, 0, 0, 0, 0), (90, .invokevirtual 216, 3, 91, 3, 0, 77), (93, .ifCond .eq 7, 3, 0, 0, 0, 0), (96, .iconst 1, 1, 0, 0, 0, 0), (97, .goto 20, 3, 0, 0, 0, 0), (100, .iconst 0, 1, 0, 0, 0, 0), (101, .goto 16, 3, 0, 0, 0, 0), (104, .aload_n 0, 1, 0, 0, 0, 0), (105, .iload_n 1, 1, 0, 0, 0, 0), (106, .invokevirtual 225, 3, 92, 2, 0, 80), (109, .ifCond .eq 7, 3, 0, 0, 0, 0), (112, .iconst 1, 1, 0, 0, 0, 0), (113, .goto 4, 3, 0, 0, 0, 0), (116, .iconst 0, 1, 0, 0, 0, 0), (117, .ireturn, 1, 0, 0, 0, 0)]
/-- LikeTalesModel.bits(I)I -/
def kX10_bits : List (Nat × jO) := [(0, .iconst 0, 1, 0, 0, 0, 0), (1, .istore_n 1, 1, 0, 0, 0, 0), (2, .iconst 0, 1, 0, 0, 0, 0), (3, .istore_n 2, 1, 0, 0, 0, 0), (4, .iload_n 2, 1, 0, 0, 0, 0), (5, .bipush 6, 2, 0, 0, 0, 0), (7, .if_icmp .ge 17, 3, 0, 0, 0, 0), (10, .iload_n 1, 1, 0, 0, 0, 0), (11, .iload_n 0, 1, 0, 0, 0, 0), (12, .iload_n 2, 1, 0, 0, 0, 0), (13, .ishr, 1, 0, 0, 0, 0), (14, .iconst 1, 1, 0, 0, 0, 0), (15, .iand, 1, 0, 0, 0, 0), (16, .iadd, 1, 0, 0, 0, 0), (17, .istore_n 1, 1, 0, 0, 0, 0), (18, .iinc 2 1, 3, 0, 0, 0, 0), (21, .goto (-17), 3, 0, 0, 0, 0), (24, .iload_n 1, 1, 0, 0, 0, 0), (25, .ireturn, 1, 0, 0, 0, 0)]
/-- LikeTalesModel.speaks(I)Z -/
def kX10_speaks : List (Nat × jO) := [(0, .iconst 0, 1, 0, 0, 0, 0), (1, .istore_n 2, 1, 0, 0, 0, 0), (2, .iload_n 2, 1, 0, 0, 0, 0), (3, .bipush 6, 2, 0, 0, 0, 0), (5, .if_icmp .ge 35, 3, 0, 0, 0, 0), (8, .aload_n 0, 1, 0, 0, 0, 0), (9, .getfield 38, 3, 10, 10, 1, 50), (12, .iload_n 2, 1, 0, 0, 0, 0), (13, .iload_n 1, 1, 0, 0, 0, 0), (14, .iload_n 2, 1, 0, 0, 0, 0), (15, .ishr, 1, 0, 0, 0, 0), (16, .iconst 1, 1, 0, 0, 0, 0), (17, .iand, 1, 0, 0, 0, 0), (18, .iconst 1, 1, 0, 0, 0, 0), (19, .if_icmp .ne 8, 3, 0, 0, 0, 0), (22, .bipush 9, 2, 0, 0, 0, 0), (24, .goto 9, 3, 0, 0, 0, 0), (27, .aload_n 0, 1, 0, 0, 0, 0), (28, .getfield 47, 3, 10, 20, 1, 59), (31, .iload_n 2, 1, 0, 0, 0, 0), (32, .iaload, 1, 0, 0, 0, 0), (33, .iastore, 1, 0, 0, 0, 0), (34, .iinc 2 1, 3, 0, 0, 0, 0), (37, .goto (-35), 3, 0, 0, 0, 0), (40, .aload_n 0, 1, 0, 0, 0, 0), (41, .bipush 12, 2, 0, 0, 0, 0), (43, .bipush 13, 2, 0, 0, 0, 0), (45, .aload_n 0, 1, 0, 0, 0, 0), (46, .getfield 201, 3, 10, 18, 0, 57), (49, .aload_n 0, 1, 0, 0, 0, 0), (50, .getfield 204, 3, 10, 19, 4, 58), (53, .invokevirtual 188, 3, 74, 5, 0, 71), (56, .pop, 1, 0, 0, 0, 0), (57, .aload_n 0, 1, 0, 0, 0, 0), (58, .invokevirtual 219, 3, 90, 1, 1, 78), (61, .iconst 0, 1, 0, 0, 0, 0), (62, .istore_n 2, 1, 0, 0, 0, 0), (63, .iconst 0, 1, 0, 0, 0, 0), (64, .istore_n 3, 1, 0, 0, 0, 0), (65, .iload_n 3, 1, 0, 0, 0, 0), (66, .aload_n 0, 1, 0, 0, 0, 0), (67, .getfield 210, 3, 10, 22, 0, 62), (70, .if_icmp .ge 27, 3, 0, 0, 0, 0), (73, .iload_n 2, 1, 0, 0, 0, 0), (74, .ifCond .ne 11, 3, 0, 0, 0, 0), (77, .aload_n 0, 1, 0, 0, 0, 0), (78, .iload_n 3, 1, 0, 0, 0, 0), (79, .invokevirtual 225, 3, 92, 2, 0, 80), (82, .ifCond .eq 7, 3, 0, 0, 0, 0), (85, .iconst 1, 1, 0, 0, 0, 0), (86, .goto 4, 3, 0, 0, 0, 0), (89, .iconst 0, 1, 0, 0, 0, 0), (90, .istore_n 2, 1, 0, 0, 0, 0), (91, .iinc 3 1, 3, 0, 0, 0, 0), (94, .goto (-29), 3, 0, 0, 0, 0), (97, .iload_n 2, 1, 0, 0, 0, 0), (98, .ireturn, 1, 1, 0, 0, 0)]
/-- LikeTalesModel.giveUp()I -/
def kX10_giveUp : List (Nat × jO) := [(0, .aload_n 0, 1, 0, 0, 0, 0), (1, .getfield 89, 3, 10, 17, 4, 41), (4, .ifCond .ne 6, 3, 0, 0, 0, 0), (7, .bipush (-3), 2, 0, 0, 0, 0), (9, .ireturn, 1, 0, 0, 0, 0), (10, .iconst 0, 1, 0, 0, 0, 0), (11, .istore_n 1, 1, 0, 0, 0, 0), (12, .iconst 0, 1, 0, 0, 0, 0), (13, .istore_n 2, 1, 0, 0, 0, 0), (14, .iload_n 2, 1, 0, 0, 0, 0), (15, .aload_n 0, 1, 0, 0, 0, 0), (16, .getfield 23, 3, 10, 5, 1, 47), (19, .bipush 12, 2, 0, 0, 0, 0), (21, .iaload, 1, 0, 0, 0, 0), (22, .if_icmp .ge 30, 3, 0, 0, 0, 0), (25, .iload_n 1, 1, 0, 0, 0, 0), (26, .aload_n 0, 1, 0, 0, 0, 0), (27, .getfield 47, 3, 10, 20, 1, 59), (30, .iload_n 2, 1, 0, 0, 0, 0), (31, .iaload, 1, 0, 0, 0, 0), (32, .bipush 9, 2, 0, 0, 0, 0), (34, .if_icmp .ge 9, 3, 0, 0, 0, 0), (37, .iconst 1, 1, 0, 0, 0, 0), (38, .iload_n 2, 1, 0, 0, 0, 0), (39, .ishl, 1, 0, 0, 0, 0), (40, .goto 4, 3, 0, 0, 0, 0), (43, .iconst 0, 1, 0, 0, 0, 0), (44, .ior, 1, 0, 0, 0, 0), (45, .istore_n 1, 1, 0, 0, 0, 0), (46, .iinc 2 1, 3, 0, 0, 0, 0), (49, .goto (-35), 3, 0, 0, 0, 0), (52, .bipush (-6), 2, 0, 0, 0, 0), (54, .istore_n 2, 1, 0, 0, 0, 0), (55, .iconst 0, 1, 0, 0, 0, 0), (56, .istore_n 3, 1, 0, 0, 0, 0), (57, .iload_n 3, 1, 0, 0, 0, 0), (58, .bipush 64, 2, 0, 0, 0, 0), (60, .if_icmp .ge 54, 3, 0, 0, 0, 0), (63, .iload_n 2, 1, 0, 0, 0, 0), (64, .ifCond .lt 14, 3, 0, 0, 0, 0), (67, .iload_n 3, 1, 0, 0, 0, 0), (68, .invokestatic 228, 3, 96, 1, 2, 81), (71, .iload_n 2, 1, 0, 0, 0, 0), (72, .invokestatic 228, 3, 96, 1, 2, 81), (75, .if_icmp .ge 7, 3, 0, 0, 0, 0), (78, .iconst 1, 1, 0, 0, 0, 0), (79, .goto 4, 3, 0, 0, 0, 0), (82, .iconst 0, 1, 0, 0, 0, 0), (83, .istore 4, 2, 0, 0, 0, 0), (85, .iload_n 3, 1, 0, 0, 0, 0), (86, .iload_n 1, 1, 0, 0, 0, 0), (87, .iconst (-1), 1, 0, 0, 0, 0), (88, .ixor, 1, 0, 0, 0, 0), (89, .iand, 1, 0, 0, 0, 0), (90, .ifCond .ne 18, 3, 0, 0, 0, 0), (93, .iload 4, 2, 0, 0, 0, 0), (95, .ifCond .eq 13, 3, 0, 0, 0, 0), (98, .aload_n 0, 1, 0, 0, 0, 0), (99, .iload_n 3, 1, 0, 0, 0, 0), (100, .invokevirtual 231, 3, 97, 2, 0, 82), (103, .ifCond .ne 5, 3, 0, 0, 0, 0), (106, .iload_n 3, 1, 0, 0, 0, 0), (107, .istore_n 2, 1, 0, 0, 0, 0), (108, .iinc 3 1, 3, 0, 0, 0, 0), (111, .goto (-54), 3, 0, 0, 0, 0), (114, .iload_n 2, 1, 0, 0, 0, 0), (115, .ireturn, 1, 0, 0, 0, 0)]
/-- LikeTalesModel.boundOf(II)I -/
def kX10_boundOf : List (Nat × jO) := [(0, .iconst 0, 1, 0, 0, 0, 0), (1, .istore_n 3, 1, 0, 0, 0, 0), (2, .iconst 0, 1, 0, 0, 0, 0), (3, .istore 4, 2, 0, 0, 0, 0), (5, .iload 4, 2, 0, 0, 0, 0), (7, .bipush 16, 2, 0, 0, 0, 0), (9, .if_icmp .ge 188, 3, 0, 0, 0, 0), (12, .iconst 0, 1, 0, 0, 0, 0), (13, .istore 5, 2, 0, 0, 0, 0), (15, .iconst 0, 1, 0, 0, 0, 0), (16, .istore 6, 2, 0, 0, 0, 0), (18, .iconst 0, 1, 0, 0, 0, 0), (19, .istore 7, 2, 0, 0, 0, 0), (21, .iconst 0, 1, 0, 0, 0, 0), (22, .istore 8, 2, 0, 0, 0, 0), (24, .iload 8, 2, 0, 0, 0, 0), (26, .aload_n 0, 1, 0, 0, 0, 0), (27, .getfield 32, 3, 10, 8, 1, 39), (30, .iload_n 1, 1, 0, 0, 0, 0), (31, .iaload, 1, 0, 0, 0, 0), (32, .if_icmp .ge 90, 3, 0, 0, 0, 0), (35, .aload_n 0, 1, 0, 0, 0, 0), (36, .getfield 35, 3, 10, 9, 1, 40), (39, .iload_n 1, 1, 0, 0, 0, 0), (40, .iload 8, 2, 0, 0, 0, 0), (42, .invokestatic 81, 3, 42, 2, 2, 46), (45, .iaload, 1, 0, 0, 0, 0), (46, .iload 4, 2, 0, 0, 0, 0), (48, .if_icmp .ne 7, 3, 0, 0, 0, 0), (51, .iconst 1, 1, 0, 0, 0, 0), (52, .goto 4, 3, 0, 0, 0, 0), (55, .iconst 0, 1, 0, 0, 0, 0), (56, .istore 9, 2, 0, 0, 0, 0), (58, .iload 5, 2, 0, 0, 0, 0), (60, .iload 9, 2, 0, 0, 0, 0), (62, .ifCond .eq 7, 3, 0, 0, 0, 0), (65, .iconst 1, 1, 0, 0, 0, 0), (66, .goto 4, 3, 0, 0, 0, 0), (69, .iconst 0, 1, 0, 0, 0, 0), (70, .iadd, 1, 0, 0, 0, 0), (71, .istore 5, 2, 0, 0, 0, 0), (73, .iload 9, 2, 0, 0, 0, 0), (75, .ifCond .eq 37, 3, 0, 0, 0, 0), (78, .aload_n 0, 1, 0, 0, 0, 0), (79, .getfield 35, 3, 10, 9, 1, 40), (82, .iload_n 1, 1, 0, 0, 0, 0), (83, .iload 8, 2, 0, 0, 0, 0), (85, .invokestatic 81, 3, 42, 2, 2, 46), (88, .iconst 5, 1, 0, 0, 0, 0), (89, .iadd, 1, 0, 0, 0, 0), (90, .iaload, 1, 0, 0, 0, 0), (91, .iload 7, 2, 0, 0, 0, 0), (93, .if_icmp .le 19, 3, 0, 0, 0, 0), (96, .aload_n 0, 1, 0, 0, 0, 0), (97, .getfield 35, 3, 10, 9, 1, 40), (100, .iload_n 1, 1, 0, 0, 0, 0), (101, .iload 8, 2, 0, 0, 0, 0), (103, .invokestatic 81, 3, 42, 2, 2, 46), (106, .iconst 5, 1, 0, 0, 0, 0), (107, .iadd, 1, 0, 0, 0, 0), (108, .iaload, 1, 0, 0, 0, 0), (109, .goto 5, 3, 0, 0, 0, 0), (112, .iload 7, 2, 0, 0, 0, 0), (114, .istore 7, 2, 0, 0, 0, 0), (116, .iinc 8 1, 3, 0, 0, 0, 0), (119, .goto (-95), 3, 0, 0, 0, 0), (122, .iconst 0, 1, 0, 0, 0, 0), (123, .istore 8, 2, 0, 0, 0, 0), (125, .iload 8, 2, 0, 0, 0, 0), (127, .aload_n 0, 1, 0, 0, 0, 0), (128, .getfield 32, 3, 10, 8, 1, 39), (131, .iload_n 2, 1, 0, 0, 0, 0), (132, .iaload, 1, 0, 0, 0, 0), (133, .if_icmp .ge 35, 3, 0, 0, 0, 0), (136, .iload 6, 2, 0, 0, 0, 0), (138, .aload_n 0, 1, 0, 0, 0, 0), (139, .getfield 35, 3, 10, 9, 1, 40), (142, .iload_n 2, 1, 0, 0, 0, 0), (143, .iload 8, 2, 0, 0, 0, 0), (145, .invokestatic 81, 3, 42, 2, 2, 46), (148, .iaload, 1, 0, 0, 0, 0), (149, .iload 4, 2, 0, 0, 0, 0), (151, .if_icmp .ne 7, 3, 0, 0, 0, 0), (154, .iconst 1, 1, 0, 0, 0, 0), (155, .goto 4, 3, 0, 0, 0, 0), (158, .iconst 0, 1, 0, 0, 0, 0), (159, .iadd, 1, 0, 0, 0, 0), (160, .istore 6, 2, 0, 0, 0, 0), (162, .iinc 8 1, 3, 0, 0, 0, 0), (165, .goto (-40), 3, 0, 0, 0, 0), (168, .iload_n 3, 1, 0, 0, 0, 0), (169, .iload 5, 2, 0, 0, 0, 0), (171, .iload 6, 2, 0, 0, 0, 0), (173, .if_icmp .ge 8, 3, 0, 0, 0, 0), (176, .iload 5, 2, 0, 0, 0, 0), (178, .goto 5, 3, 0, 0, 0, 0), (181, .iload 6, 2, 0, 0, 0, 0), (183, .bipush 6, 2, 0, 0, 0, 0), (185, .imul, 1, 0, 0, 0, 0), (186, .iload 7, 2, 0, 0, 0, 0), (188, .imul, 1, 0, 0, 0, 0), (189, .iadd, 1, 0, 0, 0, 0), (190, .istore_n 3, 1, 0, 0, 0, 0), (191, .iinc 4 1, 3, 0, 0, 0, 0), (194, .goto (-189), 3, 0, 0, 0, 0), (197, .iconst 0, 1, 0, 0, 0, 0), (198, .istore 4, 2, 0, 0, 0, 0), (200, .iload 4, 2, 0, 0, 0, 0), (202, .bipush 10, 2, 0, 0, 0, 0), (204, .if_icmp .ge 126, 3, 0, 0, 0, 0), (207, .iconst 0, 1, 0, 0, 0, 0), (208, .istore 5, 2, 0, 0, 0, 0), (210, .iconst 0, 1, 0, 0, 0, 0), (211, .istore 6, 2, 0, 0, 0, 0), (213, .iconst 0, 1, 0, 0, 0, 0), (214, .istore 7, 2, 0, 0, 0, 0), (216, .iload 7, 2, 0, 0, 0, 0), (218, .aload_n 0, 1, 0, 0, 0, 0), (219, .getfield 23, 3, 10, 5, 1, 47), (222, .iload_n 1, 1, 0, 0, 0, 0), (223, .iaload, 1, 0, 0, 0, 0), (224, .if_icmp .ge 36, 3, 0, 0, 0, 0), (227, .iload 5, 2, 0, 0, 0, 0), (229, .aload_n 0, 1, 0, 0, 0, 0), (230, .getfield 26, 3, 10, 6, 1, 49), (233, .bipush 6, 2, 0, 0, 0, 0), (235, .iload_n 1, 1, 0, 0, 0, 0), (236, .imul, 1, 0, 0, 0, 0), (237, .iload 7, 2, 0, 0, 0, 0), (239, .iadd, 1, 0, 0, 0, 0), (240, .iaload, 1, 0, 0, 0, 0), (241, .iload 4, 2, 0, 0, 0, 0), (243, .if_icmp .ne 7, 3, 0, 0, 0, 0), (246, .iconst 1, 1, 0, 0, 0, 0), (247, .goto 4, 3, 0, 0, 0, 0), (250, .iconst 0, 1, 0, 0, 0, 0), (251, .iadd, 1, 0, 0, 0, 0), (252, .istore 5, 2, 0, 0, 0, 0), (254, .iinc 7 1, 3, 0, 0, 0, 0), (257, .goto (-41), 3, 0, 0, 0, 0), (260, .iconst 0, 1, 0, 0, 0, 0), (261, .istore 7, 2, 0, 0, 0, 0), (263, .iload 7, 2, 0, 0, 0, 0), (265, .aload_n 0, 1, 0, 0, 0, 0), (266, .getfield 23, 3, 10, 5, 1, 47), (269, .iload_n 2, 1, 0, 0, 0, 0), (270, .iaload, 1, 0, 0, 0, 0), (271, .if_icmp .ge 36, 3, 0, 0, 0, 0), (274, .iload 6, 2, 0, 0, 0, 0), (276, .aload_n 0, 1, 0, 0, 0, 0), (277, .getfield 26, 3, 10, 6, 1, 49), (280, .bipush 6, 2, 0, 0, 0, 0), (282, .iload_n 2, 1, 0, 0, 0, 0), (283, .imul, 1, 0, 0, 0, 0), (284, .iload 7, 2, 0, 0, 0, 0), (286, .iadd, 1, 0, 0, 0, 0), (287, .iaload, 1, 0, 0, 0, 0), (288, .iload 4, 2, 0, 0, 0, 0), (290, .if_icmp .ne 7, 3, 0, 0, 0, 0), (293, .iconst 1, 1, 0, 0, 0, 0), (294, .goto 4, 3, 0, 0, 0, 0), (297, .iconst 0, 1, 0, 0, 0, 0), (298, .iadd, 1, 0, 0, 0, 0), (299, .istore 6, 2, 0, 0, 0, 0), (301, .iinc 7 1, 3, 0, 0, 0, 0), (304, .goto (-41), 3, 0, 0, 0, 0), (307, .iload_n 3, 1, 0, 0, 0, 0), (308, .iload 5, 2, 0, 0, 0, 0), (310, .iload 6, 2, 0, 0, 0, 0), (312, .if_icmp .ge 8, 3, 0, 0, 0, 0), (315, .iload 5, 2, 0, 0, 0, 0), (317, .goto 5, 3, 0, 0, 0, 0), (320, .iload 6, 2, 0, 0, 0, 0), (322, .iadd, 1, 0, 0, 0, 0), (323, .istore_n 3, 1, 0, 0, 0, 0), (324, .iinc 4 1, 3, 0, 0, 0, 0), (327, .goto (-127), 3, 0, 0, 0, 0), (330, .iload_n 3, 1, 0, 0, 0, 0), (331, .ireturn, 1, 0, 0, 0, 0)]
/-- LikeTalesModel.bound(II)I -/
def kX10_bound : List (Nat × jO) := [(0, .iload_n 1, 1, 0, 0, 0, 0), (1, .invokestatic 118, 3, 41, 1, 2, 54), (4, .ifCond .eq 19, 3, 0, 0, 0, 0), (7, .iload_n 2, 1, 0, 0, 0, 0), (8, .invokestatic 118, 3, 41, 1, 2, 54), (11, .ifCond .eq 12, 3, 0, 0, 0, 0), (14, .aload_n 0, 1, 0, 0, 0, 0), (15, .iload_n 1, 1, 0, 0, 0, 0), (16, .iload_n 2, 1, 0, 0, 0, 0), (17, .invokevirtual 234, 3, 99, 3, 0, 83), (20, .goto 4, 3, 0, 0, 0, 0), (23, .iconst (-1), 1, 0, 0, 0, 0), (24, .ireturn, 1, 0, 0, 0, 0)]
/-- LikeTalesModel.likest(I)I -/
def kX10_likest : List (Nat × jO) := [(0, .iconst 1, 1, 0, 0, 0, 0), (1, .iload_n 1, 1, 0, 0, 0, 0), (2, .ishl, 1, 0, 0, 0, 0), (3, .istore_n 2, 1, 0, 0, 0, 0), (4, .bipush (-6), 2, 0, 0, 0, 0), (6, .istore_n 3, 1, 0, 0, 0, 0), (7, .aload_n 0, 1, 0, 0, 0, 0), (8, .iconst 0, 1, 0, 0, 0, 0), (9, .putfield 237, 3, 10, 25, 0, 64), (12, .aload_n 0, 1, 0, 0, 0, 0), (13, .bipush (-6), 2, 0, 0, 0, 0), (15, .putfield 240, 3, 10, 26, 0, 65), (18, .iconst 0, 1, 0, 0, 0, 0), (19, .istore 4, 2, 0, 0, 0, 0), (21, .iload 4, 2, 0, 0, 0, 0), (23, .bipush 12, 2, 0, 0, 0, 0), (25, .if_icmp .ge 210, 3, 0, 0, 0, 0), (28, .bipush (-6), 2, 0, 0, 0, 0), (30, .istore 5, 2, 0, 0, 0, 0), (32, .iconst 0, 1, 0, 0, 0, 0), (33, .istore 6, 2, 0, 0, 0, 0), (35, .iload 6, 2, 0, 0, 0, 0), (37, .bipush 12, 2, 0, 0, 0, 0), (39, .if_icmp .ge 71, 3, 0, 0, 0, 0), (42, .iload_n 2, 1, 0, 0, 0, 0), (43, .iload 6, 2, 0, 0, 0, 0), (45, .ishr, 1, 0, 0, 0, 0), (46, .iconst 1, 1, 0, 0, 0, 0), (47, .iand, 1, 0, 0, 0, 0), (48, .ifCond .ne 17, 3, 0, 0, 0, 0), (51, .aload_n 0, 1, 0, 0, 0, 0), (52, .getfield 32, 3, 10, 8, 1, 39), (55, .iload 6, 2, 0, 0, 0, 0), (57, .iaload, 1, 0, 0, 0, 0), (58, .ifCond .le 7, 3, 0, 0, 0, 0), (61, .iconst 1, 1, 0, 0, 0, 0), (62, .goto 4, 3, 0, 0, 0, 0), (65, .iconst 0, 1, 0, 0, 0, 0), (66, .istore 7, 2, 0, 0, 0, 0), (68, .iload 7, 2, 0, 0, 0, 0), (70, .ifCond .eq 30, 3, 0, 0, 0, 0), (73, .iload 5, 2, 0, 0, 0, 0), (75, .ifCond .lt 20, 3, 0, 0, 0, 0), (78, .aload_n 0, 1, 0, 0, 0, 0), (79, .iload_n 1, 1, 0, 0, 0, 0), (80, .iload 6, 2, 0, 0, 0, 0), (82, .invokevirtual 234, 3, 99, 3, 0, 83), (85, .aload_n 0, 1, 0, 0, 0, 0), (86, .iload_n 1, 1, 0, 0, 0, 0), (87, .iload 5, 2, 0, 0, 0, 0), (89, .invokevirtual 234, 3, 99, 3, 0, 83), (92, .if_icmp .le 8, 3, 0, 0, 0, 0), (95, .iload 6, 2, 0, 0, 0, 0), (97, .goto 5, 3, 0, 0, 0, 0), (100, .iload 5, 2, 0, 0, 0, 0), (102, .istore 5, 2, 0, 0, 0, 0), (104, .iinc 6 1, 3, 0, 0, 0, 0), (107, .goto (-72), 3, 0, 0, 0, 0), (110, .iload 5, 2, 0, 0, 0, 0), (112, .ifCond .lt 117, 3, 0, 0, 0, 0), (115, .iload_n 2, 1, 0, 0, 0, 0), (116, .iconst 1, 1, 0, 0, 0, 0), (117, .iload 5, 2, 0, 0, 0, 0), (119, .ishl, 1, 0, 0, 0, 0), (120, .ior, 1, 0, 0, 0, 0), (121, .istore_n 2, 1, 0, 0, 0, 0), (122, .aload_n 0, 1, 0, 0, 0, 0), (123, .iload_n 1, 1, 0, 0, 0, 0), (124, .iload 5, 2, 0, 0, 0, 0), (126, .invokevirtual 234, 3, 99, 3, 0, 83), (129, .istore 6, 2, 0, 0, 0, 0), (131, .iload_n 3, 1, 0, 0, 0, 0), (132, .ifCond .lt 27, 3, 0, 0, 0, 0), (135, .iload 6, 2, 0, 0, 0, 0), (137, .aload_n 0, 1, 0, 0, 0, 0), (138, .getfield 240, 3, 10, 26, 0, 65), (141, .if_icmp .gt 18, 3, 0, 0, 0, 0), (144, .iload 6, 2, 0, 0, 0, 0), (146, .aload_n 0, 1, 0, 0, 0, 0), (147, .getfield 240, 3, 10, 26, 0, 65), (150, .if_icmp .ne 79, 3, 0, 0, 0, 0), (153, .iload 5, 2, 0, 0, 0, 0), (155, .iload_n 3, 1, 0, 0, 0, 0), (156, .if_icmp .ge 73, 3, 0, 0, 0, 0), (159, .aload_n 0, 1, 0, 0, 0, 0), (160, .dup, 1, 0, 0, 0, 0), (161, .getfield 237, 3, 10, 25, 0, 64), (164, .iconst 1, 1, 0, 0, 0, 0), (165, .iadd, 1, 0, 0, 0, 0), (166, .putfield 237, 3, 10, 25, 0, 64), (169, .aload_n 0, 1, 0, 0, 0, 0), (170, .iload_n 1, 1, 0, 0, 0, 0), (171, .iload 5, 2, 0, 0, 0, 0), (173, .iconst 0, 1, 0, 0, 0, 0), (174, .aload_n 0, 1, 0, 0, 0, 0), (175, .getfield 114, 3, 10, 4, 0, 46), (178, .iconst 1, 1, 0, 0, 0, 0), (179, .if_icmp .ne 7, 3, 0, 0, 0, 0), (182, .iconst 1, 1, 0, 0, 0, 0), (183, .goto 4, 3, 0, 0, 0, 0), (186, .iconst 0, 1, 0, 0, 0, 0), (187, .invokevirtual 198, 3, 80, 5, 0, 74), (190, .istore 7, 2, 0, 0, 0, 0), (192, .iload_n 3, 1, 0, 0, 0, 0), (193, .ifCond .lt 27, 3, 0, 0, 0, 0), (196, .iload 7, 2, 0, 0, 0, 0), (198, .aload_n 0, 1, 0, 0, 0, 0), (199, .getfield 240, 3, 10, 26, 0, 65), (202, .if_icmp .gt 18, 3, 0, 0, 0, 0), (205, .iload 7, 2, 0, 0, 0, 0), (207, .aload_n 0, 1, 0, 0, 0, 0), (208, .getfield 240, 3, 10, 26, 0, 65), (211, .if_icmp .ne 18, 3, 0, 0, 0, 0), (214, .iload 5, 2, 0, 0, 0, 0), (216, .iload_n 3, 1, 0, 0, 0, 0), (217, .if_icmp .ge 12, 3, 0, 0, 0, 0), (220, .iload 5, 2, 0, 0, 0, 0), (222, .istore_n 3, 1, 0, 0, 0, 0), (223, .aload_n 0, 1, 0, 0, 0, 0), (224, .iload 7, 2, 0, 0, 0, 0), (226, .putfield 240, 3, 10, 26, 0, 65), (229, .iinc 4 1, 3, 0, 0, 0, 0), (232, .goto (-211), 3, 0, 0, 0, 0), (235, .iload_n 3, 1, 0, 0, 0, 0), (236, .ireturn, 1, 0, 0, 0, 0)]
/-- LikeTalesModel.seek(I)I -/
def kX10_seek : List (Nat × jO) := [(0, .iload_n 1, 1, 0, 0, 0, 0), (1, .invokestatic 118, 3, 41, 1, 2, 54), (4, .ifCond .ne 5, 3, 0, 0, 0, 0), (7, .iconst (-1), 1, 0, 0, 0, 0), (8, .ireturn, 1, 0, 0, 0, 0), (9, .aload_n 0, 1, 0, 0, 0, 0), (10, .iload_n 1, 1, 0, 0, 0, 0), (11, .invokevirtual 243, 3, 101, 2, 0, 84), (14, .istore_n 2, 1, 0, 0, 0, 0), (15, .aload_n 0, 1, 0, 0, 0, 0), (16, .iconst 1, 1, 0, 0, 0, 0), (17, .putfield 246, 3, 10, 27, 4, 66), (20, .aload_n 0, 1, 0, 0, 0, 0), (21, .aload_n 0, 1, 0, 0, 0, 0), (22, .getfield 237, 3, 10, 25, 0, 64), (25, .putfield 249, 3, 10, 28, 0, 67), (28, .aload_n 0, 1, 0, 0, 0, 0), (29, .aload_n 0, 1, 0, 0, 0, 0), (30, .getfield 240, 3, 10, 26, 0, 65), (33, .putfield 252, 3, 10, 29, 0, 68), (36, .iload_n 2, 1, 0, 0, 0, 0), (37, .ireturn, 1, 0, 0, 0, 0)]
/-- LikeTalesModel.sought(I)I -/
def kX10_sought : List (Nat × jO) := [(0, .iload_n 1, 1, 0, 0, 0, 0), (1, .iconst 0, 1, 0, 0, 0, 0), (2, .iconst 1, 1, 0, 0, 0, 0), (3, .invokestatic 77, 3, 39, 3, 2, 45), (6, .ifCond .ne 6, 3, 0, 0, 0, 0), (9, .bipush (-2), 2, 0, 0, 0, 0), (11, .ireturn, 1, 0, 0, 0, 0), (12, .aload_n 0, 1, 0, 0, 0, 0), (13, .getfield 246, 3, 10, 27, 4, 66), (16, .ifCond .ne 8, 3, 0, 0, 0, 0), (19, .bipush (-3), 2, 0, 0, 0, 0), (21, .goto 18, 3, 0, 0, 0, 0), (24, .iload_n 1, 1, 0, 0, 0, 0), (25, .ifCond .ne 10, 3, 0, 0, 0, 0), (28, .aload_n 0, 1, 0, 0, 0, 0), (29, .getfield 249, 3, 10, 28, 0, 67), (32, .goto 7, 3, 0, 0, 0, 0), (35, .aload_n 0, 1, 0, 0, 0, 0), (36, .getfield 252, 3, 10, 29, 0, 68), (39, .ireturn, 1, 0, 0, 0, 0)]
/-- LikeTalesModel.moved(I)I -/
def kX10_moved : List (Nat × jO) := [(0, .iload_n 1, 1, 0, 0, 0, 0), (1, .ifCond .ge 8, 3, 0, 0, 0, 0), (4, .bipush (-6), 2, 0, 0, 0, 0), (6, .goto 30, 3, 0, 0, 0, 0), (9, .iload_n 1, 1, 0, 0, 0, 0), (10, .bipush 10, 2, 0, 0, 0, 0), (12, .if_icmp .ge 12, 3, 0, 0, 0, 0), (15, .aload_n 0, 1, 0, 0, 0, 0), (16, .getfield 59, 3, 10, 30, 1, 69), (19, .iload_n 1, 1, 0, 0, 0, 0), (20, .iaload, 1, 0, 0, 0, 0), (21, .goto 15, 3, 0, 0, 0, 0), (24, .bipush 10, 2, 0, 0, 0, 0), (26, .aload_n 0, 1, 0, 0, 0, 0), (27, .getfield 62, 3, 10, 31, 1, 70), (30, .iload_n 1, 1, 0, 0, 0, 0), (31, .bipush 10, 2, 0, 0, 0, 0), (33, .isub, 1, 0, 0, 0, 0), (34, .iaload, 1, 0, 0, 0, 0), (35, .iadd, 1, 0, 0, 0, 0), (36, .ireturn, 1, 0, 0, 0, 0)]
/-- LikeTalesModel.add(IIIII)I -/
def kX10_add : List (Nat × jO) := [(0, .aload_n 0, 1, 0, 0, 0, 0), (1, .bipush 14, 2, 0, 0, 0, 0), (3, .iload_n 1, 1, 0, 0, 0, 0), (4, .iload_n 2, 1, 0, 0, 0, 0), (5, .iload_n 3, 1, 0, 0, 0, 0), (6, .iload 4, 2, 0, 0, 0, 0), (8, .invokevirtual 136, 3, 61, 6, 0, 59), (11, .istore 6, 2, 0, 0, 0, 0), (13, .iload 6, 2, 0, 0, 0, 0), (15, .ifCond .lt 6, 3, 0, 0, 0, 0), (18, .iload 6, 2, 0, 0, 0, 0), (20, .ireturn, 1, 0, 0, 0, 0), (21, .aload_n 0, 1, 0, 0, 0, 0), (22, .bipush 14, 2, 0, 0, 0, 0), (24, .iload_n 1, 1, 0, 0, 0, 0), (25, .iload_n 2, 1, 0, 0, 0, 0), (26, .iload_n 3, 1, 0, 0, 0, 0), (27, .iload 4, 2, 0, 0, 0, 0), (29, .iload 5, 2, 0, 0, 0, 0), (31, .invokevirtual 139, 3, 63, 7, 1, 60), (34, .aload_n 0, 1, 0, 0, 0, 0), (35, .getfield 32, 3, 10, 8, 1, 39), (38, .bipush 14, 2, 0, 0, 0, 0), (40, .iaload, 1, 0, 0, 0, 0), (41, .iconst 1, 1, 0, 0, 0, 0), (42, .isub, 1, 0, 0, 0, 0), (43, .ireturn, 1, 0, 0, 0, 0)]
/-- LikeTalesModel.common(IIII)I -/
def kX10_common : List (Nat × jO) := [(0, .iload_n 1, 1, 0, 0, 0, 0), (1, .invokestatic 118, 3, 41, 1, 2, 54), (4, .ifCond .eq 17, 3, 0, 0, 0, 0), (7, .iload_n 2, 1, 0, 0, 0, 0), (8, .invokestatic 118, 3, 41, 1, 2, 54), (11, .ifCond .eq 10, 3, 0, 0, 0, 0), (14, .iload_n 3, 1, 0, 0, 0, 0), (15, .invokestatic 118, 3, 41, 1, 2, 54), (18, .ifCond .ne 5, 3, 0, 0, 0, 0), (21, .iconst (-1), 1, 0, 0, 0, 0), (22, .ireturn, 1, 0, 0, 0, 0), (23, .iload 4, 2, 0, 0, 0, 0), (25, .invokestatic 195, 3, 81, 1, 2, 73), (28, .ifCond .ne 6, 3, 0, 0, 0, 0), (31, .bipush (-2), 2, 0, 0, 0, 0), (33, .ireturn, 1, 0, 0, 0, 0), (34, .iload_n 3, 1, 0, 0, 0, 0), (35, .iload_n 1, 1, 0, 0, 0, 0), (36, .if_icmp .eq 8, 3, 0, 0, 0, 0), (39, .iload_n 3, 1, 0, 0, 0, 0), (40, .iload_n 2, 1, 0, 0, 0, 0), (41, .if_icmp .ne 6, 3, 0, 0, 0, 0), (44, .bipush (-5), 2, 0, 0, 0, 0), (46, .ireturn, 1, 0, 0, 0, 0), (47, .aload_n 0, 1, 0, 0, 0, 0), (48, .iload_n 1, 1, 0, 0, 0, 0), (49, .iload_n 2, 1, 0, 0, 0, 0), (50, .iload 4, 2, 0, 0, 0, 0), (52, .aload_n 0, 1, 0, 0, 0, 0), (53, .getfield 114, 3, 10, 4, 0, 46), (56, .iconst 1, 1, 0, 0, 0, 0), (57, .if_icmp .ne 7, 3, 0, 0, 0, 0), (60, .iconst 1, 1, 0, 0, 0, 0), (61, .goto 4, 3, 0, 0, 0, 0), (64, .iconst 0, 1, 0, 0, 0, 0), (65, .invokevirtual 198, 3, 80, 5, 0, 74), (68, .pop, 1, 0, 0, 0, 0), (69, .aload_n 0, 1, 0, 0, 0, 0), (70, .bipush 14, 2, 0, 0, 0, 0), (72, .iconst 0, 1, 0, 0, 0, 0), (73, .invokevirtual 121, 3, 55, 3, 1, 55), (76, .iconst 0, 1, 0, 0, 0, 0), (77, .istore 5, 2, 0, 0, 0, 0), (79, .iload 5, 2, 0, 0, 0, 0), (81, .aload_n 0, 1, 0, 0, 0, 0), (82, .getfield 23, 3, 10, 5, 1, 47), (85, .iload_n 1, 1, 0, 0, 0, 0), (86, .iaload, 1, 0, 0, 0, 0), (87, .if_icmp .ge 121, 3, 0, 0, 0, 0), (90, .aload_n 0, 1, 0, 0, 0, 0), (91, .getfield 38, 3, 10, 10, 1, 50), (94, .iload 5, 2, 0, 0, 0, 0), (96, .iaload, 1, 0, 0, 0, 0), (97, .bipush 9, 2, 0, 0, 0, 0), (99, .if_icmp .ge 103, 3, 0, 0, 0, 0), (102, .aload_n 0, 1, 0, 0, 0, 0), (103, .getfield 59, 3, 10, 30, 1, 69), (106, .iload 5, 2, 0, 0, 0, 0), (108, .aload_n 0, 1, 0, 0, 0, 0), (109, .getfield 23, 3, 10, 5, 1, 47), (112, .bipush 14, 2, 0, 0, 0, 0), (114, .iaload, 1, 0, 0, 0, 0), (115, .iastore, 1, 0, 0, 0, 0), (116, .aload_n 0, 1, 0, 0, 0, 0), (117, .getfield 26, 3, 10, 6, 1, 49), (120, .bipush 6, 2, 0, 0, 0, 0), (122, .iload_n 1, 1, 0, 0, 0, 0), (123, .imul, 1, 0, 0, 0, 0), (124, .iload 5, 2, 0, 0, 0, 0), (126, .iadd, 1, 0, 0, 0, 0), (127, .iaload, 1, 0, 0, 0, 0), (128, .aload_n 0, 1, 0, 0, 0, 0), (129, .getfield 26, 3, 10, 6, 1, 49), (132, .bipush 6, 2, 0, 0, 0, 0), (134, .iload_n 2, 1, 0, 0, 0, 0), (135, .imul, 1, 0, 0, 0, 0), (136, .aload_n 0, 1, 0, 0, 0, 0), (137, .getfield 38, 3, 10, 10, 1, 50), (140, .iload 5, 2, 0, 0, 0, 0), (142, .iaload, 1, 0, 0, 0, 0), (143, .iadd, 1, 0, 0, 0, 0), (144, .iaload, 1, 0, 0, 0, 0), (145, .if_icmp .ne 7, 3, 0, 0, 0, 0), (148, .iconst 1, 1, 0, 0, 0, 0), (149, .goto 4, 3, 0, 0, 0, 0), (152, .iconst 0, 1, 0, 0, 0, 0), (153, .istore 6, 2, 0, 0, 0, 0), (155, .aload_n 0, 1, 0, 0, 0, 0), (156, .getfield 26, 3, 10, 6, 1, 49), (159, .bipush 84, 2, 0, 0, 0, 0), (161, .aload_n 0, 1, 0, 0, 0, 0), (162, .getfield 23, 3, 10, 5, 1, 47), (165, .bipush 14, 2, 0, 0, 0, 0), (167, .iaload, 1, 0, 0, 0, 0), (168, .iadd, 1, 0, 0, 0, 0), (169, .iload 6, 2, 0, 0, 0, 0), (171, .ifCond .eq 18, 3, 0, 0, 0, 0), (174, .aload_n 0, 1, 0, 0, 0, 0), (175, .getfield 26, 3, 10, 6, 1, 49), (178, .bipush 6, 2, 0, 0, 0, 0), (180, .iload_n 1, 1, 0, 0, 0, 0), (181, .imul, 1, 0, 0, 0, 0), (182, .iload 5, 2, 0, 0, 0, 0), (184, .iadd, 1, 0, 0, 0, 0), (185, .iaload, 1, 0, 0, 0, 0), (186, .goto 4, 3, 0, 0, 0, 0), (189, .iconst 0, 1, 0, 0, 0, 0), (190, .iastore, 1, 0, 0, 0, 0), (191, .aload_n 0, 1, 0, 0, 0, 0), (192, .getfield 23, 3, 10, 5, 1, 47), (195, .bipush 14, 2, 0, 0, 0, 0), (197, .dup2, 1, 0, 0, 0, 0), (198, .iaload, 1, 0, 0, 0, 0), (199, .iconst 1, 1, 0, 0, 0, 0), (200, .iadd, 1, 0, 0, 0, 0), (201, .iastore, 1, 0, 0, 0, 0), (202, .iinc 5 1, 3, 0, 0, 0, 0), (205, .goto (-126), 3, 0, 0, 0, 0), (208, .iconst 0, 1, 0, 0, 0, 0), (209, .istore 5, 2, 0, 0, 0, 0), (211, .iload 5, 2, 0, 0, 0, 0), (213, .aload_n 0, 1, 0, 0, 0, 0), (214, .getfield 32, 3, 10, 8, 1, 39), (217, .iload_n 1, 1, 0, 0, 0, 0), (218, .iaload, 1, 0, 0, 0, 0), (219, .if_icmp .ge 126, 3, 0, 0, 0, 0), (222, .aload_n 0, 1, 0, 0, 0, 0), (223, .getfield 41, 3, 10, 11, 1, 51), (226, .iload 5, 2, 0, 0, 0, 0), (228, .iaload, 1, 0, 0, 0, 0), (229, .ifCond .lt 110, 3, 0, 0, 0, 0), (232, .iload_n 1, 1, 0, 0, 0, 0), (233, .iload 5, 2, 0, 0, 0, 0), (235, .invokestatic 81, 3, 42, 2, 2, 46), (238, .istore 6, 2, 0, 0, 0, 0), (240, .aload_n 0, 1, 0, 0, 0, 0), (241, .getfield 35, 3, 10, 9, 1, 40), (244, .iload_n 2, 1, 0, 0, 0, 0), (245, .aload_n 0, 1, 0, 0, 0, 0), (246, .getfield 41, 3, 10, 11, 1, 51), (249, .iload 5, 2, 0, 0, 0, 0), (251, .iaload, 1, 0, 0, 0, 0), (252, .invokestatic 81, 3, 42, 2, 2, 46), (255, .iaload, 1, 0, 0, 0, 0), (256, .istore 7, 2, 0, 0, 0, 0), (258, .aload_n 0, 1, 0, 0, 0, 0), (259, .aload_n 0, 1, 0, 0, 0, 0), (260, .getfield 35, 3, 10, 9, 1, 40), (263, .iload 6, 2, 0, 0, 0, 0), (265, .iaload, 1, 0, 0, 0, 0), (266, .aload_n 0, 1, 0, 0, 0, 0), (267, .aload_n 0, 1, 0, 0, 0, 0), (268, .getfield 35, 3, 10, 9, 1, 40), (271, .iload 6, 2, 0, 0, 0, 0), (273, .iaload, 1, 0, 0, 0, 0), (274, .iload 7, 2, 0, 0, 0, 0), (276, .iload 4, 2, 0, 0, 0, 0), (278, .invokevirtual 110, 3, 52, 4, 0, 53), (281, .invokevirtual 107, 3, 47, 3, 0, 52), (284, .istore 8, 2, 0, 0, 0, 0), (286, .aload_n 0, 1, 0, 0, 0, 0), (287, .getfield 62, 3, 10, 31, 1, 70), (290, .iload 5, 2, 0, 0, 0, 0), (292, .aload_n 0, 1, 0, 0, 0, 0), (293, .iload 8, 2, 0, 0, 0, 0), (295, .aload_n 0, 1, 0, 0, 0, 0), (296, .aload_n 0, 1, 0, 0, 0, 0), (297, .getfield 35, 3, 10, 9, 1, 40), (300, .iload 6, 2, 0, 0, 0, 0), (302, .iconst 1, 1, 0, 0, 0, 0), (303, .iadd, 1, 0, 0, 0, 0), (304, .iaload, 1, 0, 0, 0, 0), (305, .invokevirtual 255, 3, 104, 2, 0, 85), (308, .aload_n 0, 1, 0, 0, 0, 0), (309, .aload_n 0, 1, 0, 0, 0, 0), (310, .getfield 35, 3, 10, 9, 1, 40), (313, .iload 6, 2, 0, 0, 0, 0), (315, .iconst 2, 1, 0, 0, 0, 0), (316, .iadd, 1, 0, 0, 0, 0), (317, .iaload, 1, 0, 0, 0, 0), (318, .invokevirtual 255, 3, 104, 2, 0, 85), (321, .aload_n 0, 1, 0, 0, 0, 0), (322, .aload_n 0, 1, 0, 0, 0, 0), (323, .getfield 35, 3, 10, 9, 1, 40), (326, .iload 6, 2, 0, 0, 0, 0), (328, .iconst 3, 1, 0, 0, 0, 0), (329, .iadd, 1, 0, 0, 0, 0), (330, .iaload, 1, 0, 0, 0, 0), (331, .invokevirtual 255, 3, 104, 2, 0, 85), (334, .iconst (-1), 1, 0, 0, 0, 0), (335, .invokevirtual 258, 3, 105, 6, 0, 86), (338, .iastore, 1, 0, 0, 0, 0), (339, .iinc 5 1, 3, 0, 0, 0, 0), (342, .goto (-131), 3, 0, 0, 0, 0), (345, .aload_n 0, 1, 0, 0, 0, 0), (346, .iload_n 3, 1, 0, 0, 0, 0), (347, .bipush 14, 2, 0, 0, 0, 0), (349, .invokevirtual 146, 3, 68, 3, 1, 62), (352, .aload_n 0, 1, 0, 0, 0, 0), (353, .getfield 32, 3, 10, 8, 1, 39), (356, .iload_n 3, 1, 0, 0, 0, 0), (357, .iaload, 1, 0, 0, 0, 0), (358, .ireturn, 1, 0, 0, 0, 0)]
/-- LikeTalesModel.inMade(II)I -/
def kX10_inMade : List (Nat × jO) := [(0, .iload_n 2, 1, 0, 0, 0, 0), (1, .bipush 10, 2, 0, 0, 0, 0), (3, .if_icmp .ge 52, 3, 0, 0, 0, 0), (6, .iconst 0, 1, 0, 0, 0, 0), (7, .istore_n 3, 1, 0, 0, 0, 0), (8, .iload_n 3, 1, 0, 0, 0, 0), (9, .aload_n 0, 1, 0, 0, 0, 0), (10, .getfield 23, 3, 10, 5, 1, 47), (13, .iload_n 1, 1, 0, 0, 0, 0), (14, .iaload, 1, 0, 0, 0, 0), (15, .if_icmp .ge 37, 3, 0, 0, 0, 0), (18, .aload_n 0, 1, 0, 0, 0, 0), (19, .getfield 65, 3, 10, 32, 1, 71), (22, .iload_n 3, 1, 0, 0, 0, 0), (23, .iaload, 1, 0, 0, 0, 0), (24, .iload_n 2, 1, 0, 0, 0, 0), (25, .if_icmp .ne 21, 3, 0, 0, 0, 0), (28, .aload_n 0, 1, 0, 0, 0, 0), (29, .getfield 38, 3, 10, 10, 1, 50), (32, .iload_n 3, 1, 0, 0, 0, 0), (33, .iaload, 1, 0, 0, 0, 0), (34, .bipush 9, 2, 0, 0, 0, 0), (36, .if_icmp .ge 10, 3, 0, 0, 0, 0), (39, .aload_n 0, 1, 0, 0, 0, 0), (40, .getfield 38, 3, 10, 10, 1, 50), (43, .iload_n 3, 1, 0, 0, 0, 0), (44, .iaload, 1, 0, 0, 0, 0), (45, .ireturn, 1, 0, 0, 0, 0), (46, .iinc 3 1, 3, 0, 0, 0, 0), (49, .goto (-41), 3, 0, 0, 0, 0), (52, .bipush (-6), 2, 0, 0, 0, 0), (54, .ireturn, 1, 0, 0, 0, 0), (55, .aload_n 0, 1, 0, 0, 0, 0), (56, .getfield 74, 3, 10, 35, 1, 72), (59, .iload_n 2, 1, 0, 0, 0, 0), (60, .bipush 10, 2, 0, 0, 0, 0), (62, .isub, 1, 0, 0, 0, 0), (63, .iaload, 1, 0, 0, 0, 0), (64, .ifCond .lt 16, 3, 0, 0, 0, 0), (67, .bipush 10, 2, 0, 0, 0, 0), (69, .aload_n 0, 1, 0, 0, 0, 0), (70, .getfield 74, 3, 10, 35, 1, 72), (73, .iload_n 2, 1, 0, 0, 0, 0), (74, .bipush 10, 2, 0, 0, 0, 0), (76, .isub, 1, 0, 0, 0, 0), (77, .iaload, 1, 0, 0, 0, 0), (78, .iadd, 1, 0, 0, 0, 0), (79, .ireturn, 1, 0, 0, 0, 0), (80, .iconst 0, 1, 0, 0, 0, 0), (81, .istore_n 3, 1, 0, 0, 0, 0), (82, .iload_n 3, 1, 0, 0, 0, 0), (83, .aload_n 0, 1, 0, 0, 0, 0), (84, .getfield 32, 3, 10, 8, 1, 39), (87, .iload_n 1, 1, 0, 0, 0, 0), (88, .iaload, 1, 0, 0, 0, 0), (89, .if_icmp .ge 60, 3, 0, 0, 0, 0), (92, .aload_n 0, 1, 0, 0, 0, 0), (93, .getfield 68, 3, 10, 33, 1, 73), (96, .iload_n 3, 1, 0, 0, 0, 0), (97, .iaload, 1, 0, 0, 0, 0), (98, .iload_n 2, 1, 0, 0, 0, 0), (99, .bipush 10, 2, 0, 0, 0, 0), (101, .isub, 1, 0, 0, 0, 0), (102, .if_icmp .ne 41, 3, 0, 0, 0, 0), (105, .aload_n 0, 1, 0, 0, 0, 0), (106, .getfield 41, 3, 10, 11, 1, 51), (109, .iload_n 3, 1, 0, 0, 0, 0), (110, .iaload, 1, 0, 0, 0, 0), (111, .ifCond .lt 32, 3, 0, 0, 0, 0), (114, .aload_n 0, 1, 0, 0, 0, 0), (115, .getfield 71, 3, 10, 34, 1, 74), (118, .aload_n 0, 1, 0, 0, 0, 0), (119, .getfield 41, 3, 10, 11, 1, 51), (122, .iload_n 3, 1, 0, 0, 0, 0), (123, .iaload, 1, 0, 0, 0, 0), (124, .iaload, 1, 0, 0, 0, 0), (125, .ifCond .lt 18, 3, 0, 0, 0, 0), (128, .bipush 10, 2, 0, 0, 0, 0), (130, .aload_n 0, 1, 0, 0, 0, 0), (131, .getfield 71, 3, 10, 34, 1, 74), (134, .aload_n 0, 1, 0, 0, 0, 0), (135, .getfield 41, 3, 10, 11, 1, 51), (138, .iload_n 3, 1, 0, 0, 0, 0), (139, .iaload, 1, 0, 0, 0, 0), (140, .iaload, 1, 0, 0, 0, 0), (141, .iadd, 1, 0, 0, 0, 0), (142, .ireturn, 1, 0, 0, 0, 0), (143, .iinc 3 1, 3, 0, 0, 0, 0), (146, .goto (-64), 3, 0, 0, 0, 0), (149, .bipush (-6), 2, 0, 0, 0, 0), (151, .ireturn, 1, 0, 0, 0, 0)]
/-- LikeTalesModel.series(IIII)I -/
def kX10_series : List (Nat × jO) := [(0, .iload_n 1, 1, 0, 0, 0, 0), (1, .invokestatic 118, 3, 41, 1, 2, 54), (4, .ifCond .eq 25, 3, 0, 0, 0, 0), (7, .iload_n 2, 1, 0, 0, 0, 0), (8, .invokestatic 118, 3, 41, 1, 2, 54), (11, .ifCond .eq 18, 3, 0, 0, 0, 0), (14, .iload_n 3, 1, 0, 0, 0, 0), (15, .invokestatic 118, 3, 41, 1, 2, 54), (18, .ifCond .eq 11, 3, 0, 0, 0, 0), (21, .iload 4, 2, 0, 0, 0, 0), (23, .invokestatic 118, 3, 41, 1, 2, 54), (26, .ifCond .ne 5, 3, 0, 0, 0, 0), (29, .iconst (-1), 1, 0, 0, 0, 0), (30, .ireturn, 1, 0, 0, 0, 0), (31, .aload_n 0, 1, 0, 0, 0, 0), (32, .iload_n 1, 1, 0, 0, 0, 0), (33, .iload_n 2, 1, 0, 0, 0, 0), (34, .iconst 0, 1, 0, 0, 0, 0), (35, .aload_n 0, 1, 0, 0, 0, 0), (36, .getfield 114, 3, 10, 4, 0, 46), (39, .iconst 1, 1, 0, 0, 0, 0), (40, .if_icmp .ne 7, 3, 0, 0, 0, 0), (43, .iconst 1, 1, 0, 0, 0, 0), (44, .goto 4, 3, 0, 0, 0, 0), (47, .iconst 0, 1, 0, 0, 0, 0), (48, .invokevirtual 198, 3, 80, 5, 0, 74), (51, .pop, 1, 0, 0, 0, 0), (52, .iconst 0, 1, 0, 0, 0, 0), (53, .istore 5, 2, 0, 0, 0, 0), (55, .iconst 0, 1, 0, 0, 0, 0), (56, .istore 6, 2, 0, 0, 0, 0), (58, .iload 6, 2, 0, 0, 0, 0), (60, .bipush 6, 2, 0, 0, 0, 0), (62, .if_icmp .ge 23, 3, 0, 0, 0, 0), (65, .aload_n 0, 1, 0, 0, 0, 0), (66, .getfield 65, 3, 10, 32, 1, 71), (69, .iload 6, 2, 0, 0, 0, 0), (71, .aload_n 0, 1, 0, 0, 0, 0), (72, .getfield 38, 3, 10, 10, 1, 50), (75, .iload 6, 2, 0, 0, 0, 0), (77, .iaload, 1, 0, 0, 0, 0), (78, .iastore, 1, 0, 0, 0, 0), (79, .iinc 6 1, 3, 0, 0, 0, 0), (82, .goto (-24), 3, 0, 0, 0, 0), (85, .iconst 0, 1, 0, 0, 0, 0), (86, .istore 6, 2, 0, 0, 0, 0), (88, .iload 6, 2, 0, 0, 0, 0), (90, .aload_n 0, 1, 0, 0, 0, 0), (91, .getfield 32, 3, 10, 8, 1, 39), (94, .iload_n 1, 1, 0, 0, 0, 0), (95, .iaload, 1, 0, 0, 0, 0), (96, .if_icmp .ge 51, 3, 0, 0, 0, 0), (99, .aload_n 0, 1, 0, 0, 0, 0), (100, .getfield 68, 3, 10, 33, 1, 73), (103, .iload 6, 2, 0, 0, 0, 0), (105, .aload_n 0, 1, 0, 0, 0, 0), (106, .getfield 41, 3, 10, 11, 1, 51), (109, .iload 6, 2, 0, 0, 0, 0), (111, .iaload, 1, 0, 0, 0, 0), (112, .iastore, 1, 0, 0, 0, 0), (113, .iload 5, 2, 0, 0, 0, 0), (115, .aload_n 0, 1, 0, 0, 0, 0), (116, .getfield 41, 3, 10, 11, 1, 51), (119, .iload 6, 2, 0, 0, 0, 0), (121, .iaload, 1, 0, 0, 0, 0), (122, .ifCond .lt 15, 3, 0, 0, 0, 0), (125, .iconst 1, 1, 0, 0, 0, 0), (126, .aload_n 0, 1, 0, 0, 0, 0), (127, .getfield 41, 3, 10, 11, 1, 51), (130, .iload 6, 2, 0, 0, 0, 0), (132, .iaload, 1, 0, 0, 0, 0), (133, .ishl, 1, 0, 0, 0, 0), (134, .goto 4, 3, 0, 0, 0, 0), (137, .iconst 0, 1, 0, 0, 0, 0), (138, .ior, 1, 0, 0, 0, 0), (139, .istore 5, 2, 0, 0, 0, 0), (141, .iinc 6 1, 3, 0, 0, 0, 0), (144, .goto (-56), 3, 0, 0, 0, 0), (147, .aload_n 0, 1, 0, 0, 0, 0), (148, .iload_n 1, 1, 0, 0, 0, 0), (149, .iload_n 3, 1, 0, 0, 0, 0), (150, .iconst 0, 1, 0, 0, 0, 0), (151, .aload_n 0, 1, 0, 0, 0, 0), (152, .getfield 114, 3, 10, 4, 0, 46), (155, .iconst 1, 1, 0, 0, 0, 0), (156, .if_icmp .ne 7, 3, 0, 0, 0, 0), (159, .iconst 1, 1, 0, 0, 0, 0), (160, .goto 4, 3, 0, 0, 0, 0), (163, .iconst 0, 1, 0, 0, 0, 0), (164, .invokevirtual 198, 3, 80, 5, 0, 74), (167, .pop, 1, 0, 0, 0, 0), (168, .iconst 0, 1, 0, 0, 0, 0), (169, .istore 6, 2, 0, 0, 0, 0), (171, .iconst 0, 1, 0, 0, 0, 0), (172, .istore 7, 2, 0, 0, 0, 0), (174, .iload 7, 2, 0, 0, 0, 0), (176, .aload_n 0, 1, 0, 0, 0, 0), (177, .getfield 32, 3, 10, 8, 1, 39), (180, .iload_n 1, 1, 0, 0, 0, 0), (181, .iaload, 1, 0, 0, 0, 0), (182, .if_icmp .ge 47, 3, 0, 0, 0, 0), (185, .iload 6, 2, 0, 0, 0, 0), (187, .aload_n 0, 1, 0, 0, 0, 0), (188, .getfield 68, 3, 10, 33, 1, 73), (191, .iload 7, 2, 0, 0, 0, 0), (193, .iaload, 1, 0, 0, 0, 0), (194, .ifCond .ge 25, 3, 0, 0, 0, 0), (197, .aload_n 0, 1, 0, 0, 0, 0), (198, .getfield 41, 3, 10, 11, 1, 51), (201, .iload 7, 2, 0, 0, 0, 0), (203, .iaload, 1, 0, 0, 0, 0), (204, .ifCond .lt 15, 3, 0, 0, 0, 0), (207, .iconst 1, 1, 0, 0, 0, 0), (208, .aload_n 0, 1, 0, 0, 0, 0), (209, .getfield 41, 3, 10, 11, 1, 51), (212, .iload 7, 2, 0, 0, 0, 0), (214, .iaload, 1, 0, 0, 0, 0), (215, .ishl, 1, 0, 0, 0, 0), (216, .goto 4, 3, 0, 0, 0, 0), (219, .iconst 0, 1, 0, 0, 0, 0), (220, .ior, 1, 0, 0, 0, 0), (221, .istore 6, 2, 0, 0, 0, 0), (223, .iinc 7 1, 3, 0, 0, 0, 0), (226, .goto (-52), 3, 0, 0, 0, 0), (229, .aload_n 0, 1, 0, 0, 0, 0), (230, .bipush 14, 2, 0, 0, 0, 0), (232, .aload_n 0, 1, 0, 0, 0, 0), (233, .getfield 23, 3, 10, 5, 1, 47), (236, .iload_n 3, 1, 0, 0, 0, 0), (237, .iaload, 1, 0, 0, 0, 0), (238, .invokevirtual 121, 3, 55, 3, 1, 55), (241, .aload_n 0, 1, 0, 0, 0, 0), (242, .getfield 29, 3, 10, 7, 1, 48), (245, .bipush 14, 2, 0, 0, 0, 0), (247, .aload_n 0, 1, 0, 0, 0, 0), (248, .getfield 29, 3, 10, 7, 1, 48), (251, .iload_n 3, 1, 0, 0, 0, 0), (252, .iaload, 1, 0, 0, 0, 0), (253, .iastore, 1, 0, 0, 0, 0), (254, .iconst 0, 1, 0, 0, 0, 0), (255, .istore 7, 2, 0, 0, 0, 0), (257, .iload 7, 2, 0, 0, 0, 0), (259, .bipush 6, 2, 0, 0, 0, 0), (261, .if_icmp .ge 40, 3, 0, 0, 0, 0), (264, .aload_n 0, 1, 0, 0, 0, 0), (265, .getfield 26, 3, 10, 6, 1, 49), (268, .bipush 84, 2, 0, 0, 0, 0), (270, .iload 7, 2, 0, 0, 0, 0), (272, .iadd, 1, 0, 0, 0, 0), (273, .aload_n 0, 1, 0, 0, 0, 0), (274, .getfield 26, 3, 10, 6, 1, 49), (277, .bipush 6, 2, 0, 0, 0, 0), (279, .iload_n 3, 1, 0, 0, 0, 0), (280, .imul, 1, 0, 0, 0, 0), (281, .iload 7, 2, 0, 0, 0, 0), (283, .iadd, 1, 0, 0, 0, 0), (284, .iaload, 1, 0, 0, 0, 0), (285, .iastore, 1, 0, 0, 0, 0), (286, .aload_n 0, 1, 0, 0, 0, 0), (287, .getfield 59, 3, 10, 30, 1, 69), (290, .iload 7, 2, 0, 0, 0, 0), (292, .iload 7, 2, 0, 0, 0, 0), (294, .iastore, 1, 0, 0, 0, 0), (295, .iinc 7 1, 3, 0, 0, 0, 0), (298, .goto (-41), 3, 0, 0, 0, 0), (301, .iconst 0, 1, 0, 0, 0, 0), (302, .istore 7, 2, 0, 0, 0, 0), (304, .iload 7, 2, 0, 0, 0, 0), (306, .aload_n 0, 1, 0, 0, 0, 0), (307, .getfield 32, 3, 10, 8, 1, 39), (310, .iload_n 3, 1, 0, 0, 0, 0), (311, .iaload, 1, 0, 0, 0, 0), (312, .if_icmp .ge 207, 3, 0, 0, 0, 0), (315, .iload_n 3, 1, 0, 0, 0, 0), (316, .iload 7, 2, 0, 0, 0, 0), (318, .invokestatic 81, 3, 42, 2, 2, 46), (321, .istore 8, 2, 0, 0, 0, 0), (323, .iconst 0, 1, 0, 0, 0, 0), (324, .istore 9, 2, 0, 0, 0, 0), (326, .iload 9, 2, 0, 0, 0, 0), (328, .aload_n 0, 1, 0, 0, 0, 0), (329, .getfield 7, 3, 10, 0, 1, 44), (332, .aload_n 0, 1, 0, 0, 0, 0), (333, .getfield 35, 3, 10, 9, 1, 40), (336, .iload 8, 2, 0, 0, 0, 0), (338, .iaload, 1, 0, 0, 0, 0), (339, .iaload, 1, 0, 0, 0, 0), (340, .if_icmp .ge 57, 3, 0, 0, 0, 0), (343, .aload_n 0, 1, 0, 0, 0, 0), (344, .getfield 35, 3, 10, 9, 1, 40), (347, .iload 8, 2, 0, 0, 0, 0), (349, .iconst 1, 1, 0, 0, 0, 0), (350, .iadd, 1, 0, 0, 0, 0), (351, .iload 9, 2, 0, 0, 0, 0), (353, .iadd, 1, 0, 0, 0, 0), (354, .iaload, 1, 0, 0, 0, 0), (355, .istore 10, 2, 0, 0, 0, 0), (357, .iload 6, 2, 0, 0, 0, 0), (359, .iload 10, 2, 0, 0, 0, 0), (361, .bipush 10, 2, 0, 0, 0, 0), (363, .if_icmp .lt 24, 3, 0, 0, 0, 0), (366, .iload 6, 2, 0, 0, 0, 0), (368, .iload 10, 2, 0, 0, 0, 0), (370, .bipush 10, 2, 0, 0, 0, 0), (372, .isub, 1, 0, 0, 0, 0), (373, .ishr, 1, 0, 0, 0, 0), (374, .iconst 1, 1, 0, 0, 0, 0), (375, .iand, 1, 0, 0, 0, 0), (376, .iconst 1, 1, 0, 0, 0, 0), (377, .if_icmp .ne 10, 3, 0, 0, 0, 0), (380, .iconst 1, 1, 0, 0, 0, 0), (381, .iload 7, 2, 0, 0, 0, 0), (383, .ishl, 1, 0, 0, 0, 0), (384, .goto 4, 3, 0, 0, 0, 0), (387, .iconst 0, 1, 0, 0, 0, 0), (388, .ior, 1, 0, 0, 0, 0), (389, .istore 6, 2, 0, 0, 0, 0), (391, .iinc 9 1, 3, 0, 0, 0, 0), (394, .goto (-68), 3, 0, 0, 0, 0), (397, .aload_n 0, 1, 0, 0, 0, 0), (398, .getfield 71, 3, 10, 34, 1, 74), (401, .iload 7, 2, 0, 0, 0, 0), (403, .bipush (-6), 2, 0, 0, 0, 0), (405, .iastore, 1, 0, 0, 0, 0), (406, .aload_n 0, 1, 0, 0, 0, 0), (407, .getfield 62, 3, 10, 31, 1, 70), (410, .iload 7, 2, 0, 0, 0, 0), (412, .iconst 0, 1, 0, 0, 0, 0), (413, .iastore, 1, 0, 0, 0, 0), (414, .iload 6, 2, 0, 0, 0, 0), (416, .iload 7, 2, 0, 0, 0, 0), (418, .ishr, 1, 0, 0, 0, 0), (419, .iconst 1, 1, 0, 0, 0, 0), (420, .iand, 1, 0, 0, 0, 0), (421, .ifCond .ne 92, 3, 0, 0, 0, 0), (424, .aload_n 0, 1, 0, 0, 0, 0), (425, .getfield 71, 3, 10, 34, 1, 74), (428, .iload 7, 2, 0, 0, 0, 0), (430, .aload_n 0, 1, 0, 0, 0, 0), (431, .getfield 32, 3, 10, 8, 1, 39), (434, .bipush 14, 2, 0, 0, 0, 0), (436, .iaload, 1, 0, 0, 0, 0), (437, .iastore, 1, 0, 0, 0, 0), (438, .aload_n 0, 1, 0, 0, 0, 0), (439, .getfield 62, 3, 10, 31, 1, 70), (442, .iload 7, 2, 0, 0, 0, 0), (444, .aload_n 0, 1, 0, 0, 0, 0), (445, .getfield 71, 3, 10, 34, 1, 74), (448, .iload 7, 2, 0, 0, 0, 0), (450, .iaload, 1, 0, 0, 0, 0), (451, .iastore, 1, 0, 0, 0, 0), (452, .aload_n 0, 1, 0, 0, 0, 0), (453, .bipush 14, 2, 0, 0, 0, 0), (455, .aload_n 0, 1, 0, 0, 0, 0), (456, .getfield 35, 3, 10, 9, 1, 40), (459, .iload 8, 2, 0, 0, 0, 0), (461, .iaload, 1, 0, 0, 0, 0), (462, .aload_n 0, 1, 0, 0, 0, 0), (463, .aload_n 0, 1, 0, 0, 0, 0), (464, .getfield 35, 3, 10, 9, 1, 40), (467, .iload 8, 2, 0, 0, 0, 0), (469, .iconst 1, 1, 0, 0, 0, 0), (470, .iadd, 1, 0, 0, 0, 0), (471, .iaload, 1, 0, 0, 0, 0), (472, .invokevirtual 255, 3, 104, 2, 0, 85), (475, .aload_n 0, 1, 0, 0, 0, 0), (476, .aload_n 0, 1, 0, 0, 0, 0), (477, .getfield 35, 3, 10, 9, 1, 40), (480, .iload 8, 2, 0, 0, 0, 0), (482, .iconst 2, 1, 0, 0, 0, 0), (483, .iadd, 1, 0, 0, 0, 0), (484, .iaload, 1, 0, 0, 0, 0), (485, .invokevirtual 255, 3, 104, 2, 0, 85), (488, .aload_n 0, 1, 0, 0, 0, 0), (489, .aload_n 0, 1, 0, 0, 0, 0), (490, .getfield 35, 3, 10, 9, 1, 40), (493, .iload 8, 2, 0, 0, 0, 0), (495, .iconst 3, 1, 0, 0, 0, 0), (496, .iadd, 1, 0, 0, 0, 0), (497, .iaload, 1, 0, 0, 0, 0), (498, .invokevirtual 255, 3, 104, 2, 0, 85), (501, .aload_n 0, 1, 0, 0, 0, 0), (502, .getfield 35, 3, 10, 9, 1, 40), (505, .iload 8, 2, 0, 0, 0, 0), (507, .iconst 4, 1, 0, 0, 0, 0), (508, .iadd, 1, 0, 0, 0, 0), (509, .iaload, 1, 0, 0, 0, 0), (510, .invokevirtual 139, 3, 63, 7, 1, 60), (513, .iinc 7 1, 3, 0, 0, 0, 0), (516, .goto (-212), 3, 0, 0, 0, 0), (519, .iconst 0, 1, 0, 0, 0, 0), (520, .istore 7, 2, 0, 0, 0, 0), (522, .iload 7, 2, 0, 0, 0, 0), (524, .aload_n 0, 1, 0, 0, 0, 0), (525, .getfield 32, 3, 10, 8, 1, 39), (528, .iload_n 2, 1, 0, 0, 0, 0), (529, .iaload, 1, 0, 0, 0, 0), (530, .if_icmp .ge 266, 3, 0, 0, 0, 0), (533, .aload_n 0, 1, 0, 0, 0, 0), (534, .getfield 74, 3, 10, 35, 1, 72), (537, .iload 7, 2, 0, 0, 0, 0), (539, .bipush (-6), 2, 0, 0, 0, 0), (541, .iastore, 1, 0, 0, 0, 0), (542, .iload_n 2, 1, 0, 0, 0, 0), (543, .iload 7, 2, 0, 0, 0, 0), (545, .invokestatic 81, 3, 42, 2, 2, 46), (548, .istore 8, 2, 0, 0, 0, 0), (550, .iload 5, 2, 0, 0, 0, 0), (552, .iload 7, 2, 0, 0, 0, 0), (554, .ishr, 1, 0, 0, 0, 0), (555, .iconst 1, 1, 0, 0, 0, 0), (556, .iand, 1, 0, 0, 0, 0), (557, .ifCond .ne 7, 3, 0, 0, 0, 0), (560, .iconst 1, 1, 0, 0, 0, 0), (561, .goto 4, 3, 0, 0, 0, 0), (564, .iconst 0, 1, 0, 0, 0, 0), (565, .istore 9, 2, 0, 0, 0, 0), (567, .iconst 0, 1, 0, 0, 0, 0), (568, .istore 10, 2, 0, 0, 0, 0), (570, .iload 10, 2, 0, 0, 0, 0), (572, .aload_n 0, 1, 0, 0, 0, 0), (573, .getfield 7, 3, 10, 0, 1, 44), (576, .aload_n 0, 1, 0, 0, 0, 0), (577, .getfield 35, 3, 10, 9, 1, 40), (580, .iload 8, 2, 0, 0, 0, 0), (582, .iaload, 1, 0, 0, 0, 0), (583, .iaload, 1, 0, 0, 0, 0), (584, .if_icmp .ge 41, 3, 0, 0, 0, 0), (587, .iload 9, 2, 0, 0, 0, 0), (589, .ifCond .eq 36, 3, 0, 0, 0, 0), (592, .aload_n 0, 1, 0, 0, 0, 0), (593, .iload_n 1, 1, 0, 0, 0, 0), (594, .aload_n 0, 1, 0, 0, 0, 0), (595, .getfield 35, 3, 10, 9, 1, 40), (598, .iload 8, 2, 0, 0, 0, 0), (600, .iconst 1, 1, 0, 0, 0, 0), (601, .iadd, 1, 0, 0, 0, 0), (602, .iload 10, 2, 0, 0, 0, 0), (604, .iadd, 1, 0, 0, 0, 0), (605, .iaload, 1, 0, 0, 0, 0), (606, .invokevirtual 261, 3, 107, 3, 0, 87), (609, .ifCond .lt 7, 3, 0, 0, 0, 0), (612, .iconst 1, 1, 0, 0, 0, 0), (613, .goto 4, 3, 0, 0, 0, 0), (616, .iconst 0, 1, 0, 0, 0, 0), (617, .istore 9, 2, 0, 0, 0, 0), (619, .iinc 10 1, 3, 0, 0, 0, 0), (622, .goto (-52), 3, 0, 0, 0, 0), (625, .iload 9, 2, 0, 0, 0, 0), (627, .ifCond .eq 163, 3, 0, 0, 0, 0), (630, .aload_n 0, 1, 0, 0, 0, 0), (631, .iload_n 1, 1, 0, 0, 0, 0), (632, .aload_n 0, 1, 0, 0, 0, 0), (633, .getfield 35, 3, 10, 9, 1, 40), (636, .iload 8, 2, 0, 0, 0, 0), (638, .iconst 1, 1, 0, 0, 0, 0), (639, .iadd, 1, 0, 0, 0, 0), (640, .iaload, 1, 0, 0, 0, 0), (641, .invokevirtual 261, 3, 107, 3, 0, 87), (644, .istore 10, 2, 0, 0, 0, 0), (646, .aload_n 0, 1, 0, 0, 0, 0), (647, .getfield 7, 3, 10, 0, 1, 44), (650, .aload_n 0, 1, 0, 0, 0, 0), (651, .getfield 35, 3, 10, 9, 1, 40), (654, .iload 8, 2, 0, 0, 0, 0), (656, .iaload, 1, 0, 0, 0, 0), (657, .iaload, 1, 0, 0, 0, 0), (658, .iconst 1, 1, 0, 0, 0, 0), (659, .if_icmp .le 20, 3, 0, 0, 0, 0), (662, .aload_n 0, 1, 0, 0, 0, 0), (663, .iload_n 1, 1, 0, 0, 0, 0), (664, .aload_n 0, 1, 0, 0, 0, 0), (665, .getfield 35, 3, 10, 9, 1, 40), (668, .iload 8, 2, 0, 0, 0, 0), (670, .iconst 2, 1, 0, 0, 0, 0), (671, .iadd, 1, 0, 0, 0, 0), (672, .iaload, 1, 0, 0, 0, 0), (673, .invokevirtual 261, 3, 107, 3, 0, 87), (676, .goto 5, 3, 0, 0, 0, 0), (679, .bipush (-6), 2, 0, 0, 0, 0), (681, .istore 11, 2, 0, 0, 0, 0), (683, .aload_n 0, 1, 0, 0, 0, 0), (684, .getfield 7, 3, 10, 0, 1, 44), (687, .aload_n 0, 1, 0, 0, 0, 0), (688, .getfield 35, 3, 10, 9, 1, 40), (691, .iload 8, 2, 0, 0, 0, 0), (693, .iaload, 1, 0, 0, 0, 0), (694, .iaload, 1, 0, 0, 0, 0), (695, .iconst 2, 1, 0, 0, 0, 0), (696, .if_icmp .le 20, 3, 0, 0, 0, 0), (699, .aload_n 0, 1, 0, 0, 0, 0), (700, .iload_n 1, 1, 0, 0, 0, 0), (701, .aload_n 0, 1, 0, 0, 0, 0), (702, .getfield 35, 3, 10, 9, 1, 40), (705, .iload 8, 2, 0, 0, 0, 0), (707, .iconst 3, 1, 0, 0, 0, 0), (708, .iadd, 1, 0, 0, 0, 0), (709, .iaload, 1, 0, 0, 0, 0), (710, .invokevirtual 261, 3, 107, 3, 0, 87), (713, .goto 5, 3, 0, 0, 0, 0), (716, .bipush (-6), 2, 0, 0, 0, 0), (718, .istore 12, 2, 0, 0, 0, 0), (720, .aload_n 0, 1, 0, 0, 0, 0), (721, .getfield 32, 3, 10, 8, 1, 39), (724, .bipush 14, 2, 0, 0, 0, 0), (726, .iaload, 1, 0, 0, 0, 0), (727, .bipush 14, 2, 0, 0, 0, 0), (729, .if_icmp .ne 28, 3, 0, 0, 0, 0), (732, .aload_n 0, 1, 0, 0, 0, 0), (733, .bipush 14, 2, 0, 0, 0, 0), (735, .aload_n 0, 1, 0, 0, 0, 0), (736, .getfield 35, 3, 10, 9, 1, 40), (739, .iload 8, 2, 0, 0, 0, 0), (741, .iaload, 1, 0, 0, 0, 0), (742, .iload 10, 2, 0, 0, 0, 0), (744, .iload 11, 2, 0, 0, 0, 0), (746, .iload 12, 2, 0, 0, 0, 0), (748, .invokevirtual 136, 3, 61, 6, 0, 59), (751, .ifCond .ge 6, 3, 0, 0, 0, 0), (754, .bipush (-4), 2, 0, 0, 0, 0), (756, .ireturn, 1, 0, 0, 0, 0), (757, .aload_n 0, 1, 0, 0, 0, 0), (758, .getfield 74, 3, 10, 35, 1, 72), (761, .iload 7, 2, 0, 0, 0, 0), (763, .aload_n 0, 1, 0, 0, 0, 0), (764, .aload_n 0, 1, 0, 0, 0, 0), (765, .getfield 35, 3, 10, 9, 1, 40), (768, .iload 8, 2, 0, 0, 0, 0), (770, .iaload, 1, 0, 0, 0, 0), (771, .iload 10, 2, 0, 0, 0, 0), (773, .iload 11, 2, 0, 0, 0, 0), (775, .iload 12, 2, 0, 0, 0, 0), (777, .aload_n 0, 1, 0, 0, 0, 0), (778, .getfield 35, 3, 10, 9, 1, 40), (781, .iload 8, 2, 0, 0, 0, 0), (783, .iconst 4, 1, 0, 0, 0, 0), (784, .iadd, 1, 0, 0, 0, 0), (785, .iaload, 1, 0, 0, 0, 0), (786, .invokevirtual 258, 3, 105, 6, 0, 86), (789, .iastore, 1, 0, 0, 0, 0), (790, .iinc 7 1, 3, 0, 0, 0, 0), (793, .goto (-271), 3, 0, 0, 0, 0), (796, .aload_n 0, 1, 0, 0, 0, 0), (797, .iload 4, 2, 0, 0, 0, 0), (799, .bipush 14, 2, 0, 0, 0, 0), (801, .invokevirtual 146, 3, 68, 3, 1, 62), (804, .aload_n 0, 1, 0, 0, 0, 0), (805, .getfield 32, 3, 10, 8, 1, 39), (808, .iload 4, 2, 0, 0, 0, 0), (810, .iaload, 1, 0, 0, 0, 0), (811, .ireturn, 1, 0, 0, 0, 0)]
/-- LikeTalesModel.leftOut(II)I -/
def kX10_leftOut : List (Nat × jO) := [(0, .iload_n 1, 1, 0, 0, 0, 0), (1, .invokestatic 118, 3, 41, 1, 2, 54), (4, .ifCond .eq 10, 3, 0, 0, 0, 0), (7, .iload_n 2, 1, 0, 0, 0, 0), (8, .invokestatic 118, 3, 41, 1, 2, 54), (11, .ifCond .ne 5, 3, 0, 0, 0, 0), (14, .iconst (-1), 1, 0, 0, 0, 0), (15, .ireturn, 1, 0, 0, 0, 0), (16, .aload_n 0, 1, 0, 0, 0, 0), (17, .iload_n 1, 1, 0, 0, 0, 0), (18, .iload_n 2, 1, 0, 0, 0, 0), (19, .iconst 0, 1, 0, 0, 0, 0), (20, .aload_n 0, 1, 0, 0, 0, 0), (21, .getfield 114, 3, 10, 4, 0, 46), (24, .iconst 1, 1, 0, 0, 0, 0), (25, .if_icmp .ne 7, 3, 0, 0, 0, 0), (28, .iconst 1, 1, 0, 0, 0, 0), (29, .goto 4, 3, 0, 0, 0, 0), (32, .iconst 0, 1, 0, 0, 0, 0), (33, .invokevirtual 198, 3, 80, 5, 0, 74), (36, .pop, 1, 0, 0, 0, 0), (37, .aload_n 0, 1, 0, 0, 0, 0), (38, .getfield 32, 3, 10, 8, 1, 39), (41, .iload_n 1, 1, 0, 0, 0, 0), (42, .iaload, 1, 0, 0, 0, 0), (43, .aload_n 0, 1, 0, 0, 0, 0), (44, .getfield 178, 3, 10, 16, 0, 55), (47, .isub, 1, 0, 0, 0, 0), (48, .ireturn, 1, 0, 0, 0, 0)]
/-- LikeTalesModel.trial(I)I -/
def kX10_trial : List (Nat × jO) := [(0, .iload_n 1, 1, 0, 0, 0, 0), (1, .iconst 0, 1, 0, 0, 0, 0), (2, .iconst 1, 1, 0, 0, 0, 0), (3, .invokestatic 77, 3, 39, 3, 2, 45), (6, .ifCond .ne 17, 3, 0, 0, 0, 0), (9, .iload_n 1, 1, 0, 0, 0, 0), (10, .bipush 10, 2, 0, 0, 0, 0), (12, .bipush 19, 2, 0, 0, 0, 0), (14, .invokestatic 77, 3, 39, 3, 2, 45), (17, .ifCond .ne 6, 3, 0, 0, 0, 0), (20, .bipush (-2), 2, 0, 0, 0, 0), (22, .ireturn, 1, 0, 0, 0, 0), (23, .iconst 0, 1, 0, 0, 0, 0), (24, .istore_n 2, 1, 0, 0, 0, 0), (25, .iconst 0, 1, 0, 0, 0, 0), (26, .istore_n 3, 1, 0, 0, 0, 0), (27, .iconst 0, 1, 0, 0, 0, 0), (28, .istore 4, 2, 0, 0, 0, 0), (30, .iload 4, 2, 0, 0, 0, 0), (32, .bipush 12, 2, 0, 0, 0, 0), (34, .if_icmp .ge 100, 3, 0, 0, 0, 0), (37, .aload_n 0, 1, 0, 0, 0, 0), (38, .getfield 32, 3, 10, 8, 1, 39), (41, .iload 4, 2, 0, 0, 0, 0), (43, .iaload, 1, 0, 0, 0, 0), (44, .ifCond .le 84, 3, 0, 0, 0, 0), (47, .iinc 3 1, 3, 0, 0, 0, 0), (50, .iload_n 1, 1, 0, 0, 0, 0), (51, .iconst 1, 1, 0, 0, 0, 0), (52, .if_icmp .ne 8, 3, 0, 0, 0, 0), (55, .bipush (-6), 2, 0, 0, 0, 0), (57, .goto 9, 3, 0, 0, 0, 0), (60, .aload_n 0, 1, 0, 0, 0, 0), (61, .iload 4, 2, 0, 0, 0, 0), (63, .invokevirtual 243, 3, 101, 2, 0, 84), (66, .istore 5, 2, 0, 0, 0, 0), (68, .iload_n 1, 1, 0, 0, 0, 0), (69, .ifCond .eq 17, 3, 0, 0, 0, 0), (72, .aload_n 0, 1, 0, 0, 0, 0), (73, .getfield 29, 3, 10, 7, 1, 48), (76, .iload 4, 2, 0, 0, 0, 0), (78, .iaload, 1, 0, 0, 0, 0), (79, .iload_n 1, 1, 0, 0, 0, 0), (80, .bipush 10, 2, 0, 0, 0, 0), (82, .isub, 1, 0, 0, 0, 0), (83, .if_icmp .ne 7, 3, 0, 0, 0, 0), (86, .iconst 1, 1, 0, 0, 0, 0), (87, .goto 4, 3, 0, 0, 0, 0), (90, .iconst 0, 1, 0, 0, 0, 0), (91, .istore 6, 2, 0, 0, 0, 0), (93, .iload_n 2, 1, 0, 0, 0, 0), (94, .iload 5, 2, 0, 0, 0, 0), (96, .ifCond .lt 29, 3, 0, 0, 0, 0), (99, .iload 6, 2, 0, 0, 0, 0), (101, .ifCond .eq 24, 3, 0, 0, 0, 0), (104, .aload_n 0, 1, 0, 0, 0, 0), (105, .getfield 29, 3, 10, 7, 1, 48), (108, .iload 5, 2, 0, 0, 0, 0), (110, .iaload, 1, 0, 0, 0, 0), (111, .aload_n 0, 1, 0, 0, 0, 0), (112, .getfield 29, 3, 10, 7, 1, 48), (115, .iload 4, 2, 0, 0, 0, 0), (117, .iaload, 1, 0, 0, 0, 0), (118, .if_icmp .ne 7, 3, 0, 0, 0, 0), (121, .iconst 1, 1, 0, 0, 0, 0), (122, .goto 4, 3, 0, 0, 0, 0), (125, .iconst 0, 1, 0, 0, 0, 0), (126, .iadd, 1, 0, 0, 0, 0), (127, .istore_n 2, 1, 0, 0, 0, 0), (128, .iinc 4 1, 3, 0, 0, 0, 0), (131, .goto (-101), 3, 0, 0, 0, 0), (134, .iload_n 1, 1, 0, 0, 0, 0), (135, .iconst 1, 1, 0, 0, 0, 0), (136, .if_icmp .ne 7, 3, 0, 0, 0, 0), (139, .iload_n 3, 1, 0, 0, 0, 0), (140, .goto 4, 3, 0, 0, 0, 0), (143, .iload_n 2, 1, 0, 0, 0, 0), (144, .ireturn, 1, 0, 0, 0, 0)]
/-- LikeTales$Answering.take(LLikeTales$Net;LLikeTales$Net;IZI)V -/
def kX0_take : List (Nat × jO) := [(0, .aload_n 0, 1, 0, 0, 0, 0), (1, .aload_n 1, 1, 0, 0, 0, 0), (2, .putfield 12, 3, 0, 1, 3, 75), (5, .aload_n 0, 1, 0, 0, 0, 0), (6, .aload_n 2, 1, 0, 0, 0, 0), (7, .putfield 18, 3, 0, 2, 3, 76), (10, .aload_n 0, 1, 0, 0, 0, 0), (11, .iload 5, 2, 0, 0, 0, 0), (13, .putfield 21, 3, 0, 3, 0, 77), (16, .aload_n 0, 1, 0, 0, 0, 0), (17, .getfield 28, 3, 0, 4, 1, 78), (20, .aload_n 1, 1, 0, 0, 0, 0), (21, .aload_n 2, 1, 0, 0, 0, 0), (22, .iload 4, 2, 0, 0, 0, 0), (24, .invokevirtual 64, 3, 166, 4, 1, 88), (27, .iconst 0, 1, 0, 0, 0, 0), (28, .istore 6, 2, 0, 0, 0, 0), (30, .iload 6, 2, 0, 0, 0, 0), (32, .aload_n 0, 1, 0, 0, 0, 0), (33, .getfield 12, 3, 0, 1, 3, 75), (36, .getfield 68, 3, 4, 1, 0, 79), (39, .if_icmp .ge 16, 3, 0, 0, 0, 0), (42, .aload_n 0, 1, 0, 0, 0, 0), (43, .iload 6, 2, 0, 0, 0, 0), (45, .iload_n 3, 1, 0, 0, 0, 0), (46, .invokevirtual 71, 3, 112, 3, 1, 89), (49, .iinc 6 1, 3, 0, 0, 0, 0), (52, .goto (-22), 3, 0, 0, 0, 0), (55, .iconst 0, 1, 0, 0, 0, 0), (56, .istore 6, 2, 0, 0, 0, 0), (58, .iload 6, 2, 0, 0, 0, 0), (60, .bipush 72, 2, 0, 0, 0, 0), (62, .if_icmp .ge 17, 3, 0, 0, 0, 0), (65, .aload_n 0, 1, 0, 0, 0, 0), (66, .getfield 54, 3, 0, 12, 1, 80), (69, .iload 6, 2, 0, 0, 0, 0), (71, .iconst 0, 1, 0, 0, 0, 0), (72, .iastore, 1, 0, 0, 0, 0), (73, .iinc 6 1, 3, 0, 0, 0, 0), (76, .goto (-18), 3, 0, 0, 0, 0), (79, .iconst 0, 1, 0, 0, 0, 0), (80, .istore 6, 2, 0, 0, 0, 0), (82, .iload 6, 2, 0, 0, 0, 0), (84, .aload_n 0, 1, 0, 0, 0, 0), (85, .getfield 18, 3, 0, 2, 3, 76), (88, .getfield 68, 3, 4, 1, 0, 79), (91, .if_icmp .ge 15, 3, 0, 0, 0, 0), (94, .aload_n 0, 1, 0, 0, 0, 0), (95, .iload 6, 2, 0, 0, 0, 0), (97, .invokevirtual 75, 3, 113, 2, 1, 90), (100, .iinc 6 1, 3, 0, 0, 0, 0), (103, .goto (-21), 3, 0, 0, 0, 0), (106, .return_, 1, 0, 0, 0, 0)]
/-- LikeTales$Answering.compareTie(II)V -/
def kX0_compareTie : List (Nat × jO) := [(0, .aload_n 0, 1, 0, 0, 0, 0), (1, .getfield 42, 3, 0, 8, 1, 81), (4, .iload_n 1, 1, 0, 0, 0, 0), (5, .iconst 0, 1, 0, 0, 0, 0), (6, .iastore, 1, 0, 0, 0, 0), (7, .aload_n 0, 1, 0, 0, 0, 0), (8, .getfield 45, 3, 0, 9, 1, 82), (11, .iload_n 1, 1, 0, 0, 0, 0), (12, .iconst 0, 1, 0, 0, 0, 0), (13, .iastore, 1, 0, 0, 0, 0), (14, .aload_n 0, 1, 0, 0, 0, 0), (15, .getfield 48, 3, 0, 10, 1, 83), (18, .iload_n 1, 1, 0, 0, 0, 0), (19, .iconst 0, 1, 0, 0, 0, 0), (20, .iastore, 1, 0, 0, 0, 0), (21, .aload_n 0, 1, 0, 0, 0, 0), (22, .getfield 51, 3, 0, 11, 1, 84), (25, .iload_n 1, 1, 0, 0, 0, 0), (26, .iconst 0, 1, 0, 0, 0, 0), (27, .iastore, 1, 0, 0, 0, 0), (28, .iconst 0, 1, 0, 0, 0, 0), (29, .istore_n 3, 1, 0, 0, 0, 0), (30, .iload_n 3, 1, 0, 0, 0, 0), (31, .aload_n 0, 1, 0, 0, 0, 0), (32, .getfield 18, 3, 0, 2, 3, 76), (35, .getfield 68, 3, 4, 1, 0, 79), (38, .if_icmp .ge 213, 3, 0, 0, 0, 0), (41, .aload_n 0, 1, 0, 0, 0, 0), (42, .getfield 60, 3, 0, 0, 1, 85), (45, .aload_n 0, 1, 0, 0, 0, 0), (46, .getfield 12, 3, 0, 1, 3, 75), (49, .getfield 79, 3, 4, 4, 1, 86), (52, .iload_n 1, 1, 0, 0, 0, 0), (53, .iaload, 1, 0, 0, 0, 0), (54, .aload_n 0, 1, 0, 0, 0, 0), (55, .getfield 18, 3, 0, 2, 3, 76), (58, .getfield 79, 3, 4, 4, 1, 86), (61, .iload_n 3, 1, 0, 0, 0, 0), (62, .iaload, 1, 0, 0, 0, 0), (63, .invokevirtual 82, 3, 139, 3, 0, 91), (66, .istore 4, 2, 0, 0, 0, 0), (68, .aload_n 0, 1, 0, 0, 0, 0), (69, .getfield 21, 3, 0, 3, 0, 77), (72, .iconst 2, 1, 0, 0, 0, 0), (73, .if_icmp .ne 24, 3, 0, 0, 0, 0), (76, .aload_n 0, 1, 0, 0, 0, 0), (77, .getfield 12, 3, 0, 1, 3, 75), (80, .getfield 88, 3, 4, 6, 1, 87), (83, .iload_n 1, 1, 0, 0, 0, 0), (84, .iaload, 1, 0, 0, 0, 0), (85, .aload_n 0, 1, 0, 0, 0, 0), (86, .getfield 18, 3, 0, 2, 3, 76), (89, .getfield 88, 3, 4, 6, 1, 87), (92, .iload_n 3, 1, 0, 0, 0, 0), (93, .iaload, 1, 0, 0, 0, 0), (94, .if_icmp .ne 7, 3, 0, 0, 0, 0), (97, .iconst 1, 1, 0, 0, 0, 0), (98, .goto 4, 3, 0, 0, 0, 0), (101, .iconst 0, 1, 0, 0, 0, 0), (102, .istore 5, 2, 0, 0, 0, 0), (104, .iload 5, 2, 0, 0, 0, 0), (106, .ifCond .eq 139, 3, 0, 0, 0, 0), (109, .iload 4, 2, 0, 0, 0, 0), (111, .iconst (-1), 1, 0, 0, 0, 0), (112, .if_icmp .eq 133, 3, 0, 0, 0, 0), (115, .iload 4, 2, 0, 0, 0, 0), (117, .iload_n 2, 1, 0, 0, 0, 0), (118, .if_icmp .gt 127, 3, 0, 0, 0, 0), (121, .iconst 1, 1, 0, 0, 0, 0), (122, .iload_n 3, 1, 0, 0, 0, 0), (123, .ishl, 1, 0, 0, 0, 0), (124, .istore 6, 2, 0, 0, 0, 0), (126, .aload_n 0, 1, 0, 0, 0, 0), (127, .getfield 42, 3, 0, 8, 1, 81), (130, .iload_n 1, 1, 0, 0, 0, 0), (131, .dup2, 1, 0, 0, 0, 0), (132, .iaload, 1, 0, 0, 0, 0), (133, .iload 6, 2, 0, 0, 0, 0), (135, .ior, 1, 0, 0, 0, 0), (136, .iastore, 1, 0, 0, 0, 0), (137, .aload_n 0, 1, 0, 0, 0, 0), (138, .getfield 48, 3, 0, 10, 1, 83), (141, .iload_n 1, 1, 0, 0, 0, 0), (142, .dup2, 1, 0, 0, 0, 0), (143, .iaload, 1, 0, 0, 0, 0), (144, .iload 4, 2, 0, 0, 0, 0), (146, .ifCond .ne 8, 3, 0, 0, 0, 0), (149, .iload 6, 2, 0, 0, 0, 0), (151, .goto 4, 3, 0, 0, 0, 0), (154, .iconst 0, 1, 0, 0, 0, 0), (155, .ior, 1, 0, 0, 0, 0), (156, .iastore, 1, 0, 0, 0, 0), (157, .aload_n 0, 1, 0, 0, 0, 0), (158, .getfield 51, 3, 0, 11, 1, 84), (161, .iload_n 1, 1, 0, 0, 0, 0), (162, .dup2, 1, 0, 0, 0, 0), (163, .iaload, 1, 0, 0, 0, 0), (164, .iload 4, 2, 0, 0, 0, 0), (166, .iconst 1, 1, 0, 0, 0, 0), (167, .if_icmp .gt 8, 3, 0, 0, 0, 0), (170, .iload 6, 2, 0, 0, 0, 0), (172, .goto 4, 3, 0, 0, 0, 0), (175, .iconst 0, 1, 0, 0, 0, 0), (176, .ior, 1, 0, 0, 0, 0), (177, .iastore, 1, 0, 0, 0, 0), (178, .aload_n 0, 1, 0, 0, 0, 0), (179, .getfield 60, 3, 0, 0, 1, 85), (182, .getfield 91, 3, 3, 1, 1, 88), (185, .aload_n 0, 1, 0, 0, 0, 0), (186, .getfield 12, 3, 0, 1, 3, 75), (189, .getfield 79, 3, 4, 4, 1, 86), (192, .iload_n 1, 1, 0, 0, 0, 0), (193, .iaload, 1, 0, 0, 0, 0), (194, .baload, 1, 0, 0, 0, 0), (195, .ifCond .eq 27, 3, 0, 0, 0, 0), (198, .aload_n 0, 1, 0, 0, 0, 0), (199, .getfield 60, 3, 0, 0, 1, 85), (202, .getfield 91, 3, 3, 1, 1, 88), (205, .aload_n 0, 1, 0, 0, 0, 0), (206, .getfield 18, 3, 0, 2, 3, 76), (209, .getfield 79, 3, 4, 4, 1, 86), (212, .iload_n 3, 1, 0, 0, 0, 0), (213, .iaload, 1, 0, 0, 0, 0), (214, .baload, 1, 0, 0, 0, 0), (215, .ifCond .eq 7, 3, 0, 0, 0, 0), (218, .iconst 1, 1, 0, 0, 0, 0), (219, .goto 4, 3, 0, 0, 0, 0), (222, .iconst 0, 1, 0, 0, 0, 0), (223, .istore 7, 2, 0, 0, 0, 0), (225, .aload_n 0, 1, 0, 0, 0, 0), (226, .getfield 45, 3, 0, 9, 1, 82), (229, .iload_n 1, 1, 0, 0, 0, 0), (230, .dup2, 1, 0, 0, 0, 0), (231, .iaload, 1, 0, 0, 0, 0), (232, .iload 7, 2, 0, 0, 0, 0), (234, .ifCond .eq 8, 3, 0, 0, 0, 0), (237, .iload 6, 2, 0, 0, 0, 0), (239, .goto 4, 3, 0, 0, 0, 0), (242, .iconst 0, 1, 0, 0, 0, 0), (243, .ior, 1, 0, 0, 0, 0), (244, .iastore, 1, 0, 0, 0, 0), (245, .iinc 3 1, 3, 0, 0, 0, 0), (248, .goto (-218), 3, 0, 0, 0, 0), (251, .return_, 1, 0, 0, 0, 0)]
/-- LikeTales$Answering.noteEnds(I)V -/
def kX0_noteEnds : List (Nat × jO) := [(0, .iconst 0, 1, 0, 0, 0, 0), (1, .istore_n 2, 1, 0, 0, 0, 0), (2, .iload_n 2, 1, 0, 0, 0, 0), (3, .iconst 3, 1, 0, 0, 0, 0), (4, .if_icmp .ge 50, 3, 0, 0, 0, 0), (7, .aload_n 0, 1, 0, 0, 0, 0), (8, .getfield 18, 3, 0, 2, 3, 76), (11, .getfield 95, 3, 4, 5, 1, 89), (14, .iload_n 1, 1, 0, 0, 0, 0), (15, .iconst 3, 1, 0, 0, 0, 0), (16, .imul, 1, 0, 0, 0, 0), (17, .iload_n 2, 1, 0, 0, 0, 0), (18, .iadd, 1, 0, 0, 0, 0), (19, .iaload, 1, 0, 0, 0, 0), (20, .istore_n 3, 1, 0, 0, 0, 0), (21, .iload_n 3, 1, 0, 0, 0, 0), (22, .ifCond .lt 26, 3, 0, 0, 0, 0), (25, .iload_n 3, 1, 0, 0, 0, 0), (26, .bipush 24, 2, 0, 0, 0, 0), (28, .if_icmp .ge 20, 3, 0, 0, 0, 0), (31, .aload_n 0, 1, 0, 0, 0, 0), (32, .getfield 54, 3, 0, 12, 1, 80), (35, .iload_n 2, 1, 0, 0, 0, 0), (36, .bipush 24, 2, 0, 0, 0, 0), (38, .imul, 1, 0, 0, 0, 0), (39, .iload_n 3, 1, 0, 0, 0, 0), (40, .iadd, 1, 0, 0, 0, 0), (41, .dup2, 1, 0, 0, 0, 0), (42, .iaload, 1, 0, 0, 0, 0), (43, .iconst 1, 1, 0, 0, 0, 0), (44, .iload_n 1, 1, 0, 0, 0, 0), (45, .ishl, 1, 0, 0, 0, 0), (46, .ior, 1, 0, 0, 0, 0), (47, .iastore, 1, 0, 0, 0, 0), (48, .iinc 2 1, 3, 0, 0, 0, 0), (51, .goto (-49), 3, 0, 0, 0, 0), (54, .return_, 1, 0, 0, 0, 0)]
/-- LikeTales$Answering.readDigits(I)Z -/
def kX0_readDigits : List (Nat × jO) := [(0, .iload_n 1, 1, 0, 0, 0, 0), (1, .istore_n 2, 1, 0, 0, 0, 0), (2, .iconst 0, 1, 0, 0, 0, 0), (3, .istore_n 3, 1, 0, 0, 0, 0), (4, .aload_n 0, 1, 0, 0, 0, 0), (5, .getfield 12, 3, 0, 1, 3, 75), (8, .getfield 98, 3, 4, 0, 0, 90), (11, .iconst 1, 1, 0, 0, 0, 0), (12, .isub, 1, 0, 0, 0, 0), (13, .istore 4, 2, 0, 0, 0, 0), (15, .iload 4, 2, 0, 0, 0, 0), (17, .ifCond .lt 105, 3, 0, 0, 0, 0), (20, .iload_n 2, 1, 0, 0, 0, 0), (21, .bipush 10, 2, 0, 0, 0, 0), (23, .irem, 1, 0, 0, 0, 0), (24, .istore 5, 2, 0, 0, 0, 0), (26, .iload_n 2, 1, 0, 0, 0, 0), (27, .bipush 10, 2, 0, 0, 0, 0), (29, .idiv, 1, 0, 0, 0, 0), (30, .istore_n 2, 1, 0, 0, 0, 0), (31, .iload 5, 2, 0, 0, 0, 0), (33, .ifCond .lt 28, 3, 0, 0, 0, 0), (36, .iload 5, 2, 0, 0, 0, 0), (38, .aload_n 0, 1, 0, 0, 0, 0), (39, .getfield 18, 3, 0, 2, 3, 76), (42, .getfield 98, 3, 4, 0, 0, 90), (45, .if_icmp .ge 16, 3, 0, 0, 0, 0), (48, .iload_n 3, 1, 0, 0, 0, 0), (49, .iload 5, 2, 0, 0, 0, 0), (51, .ishr, 1, 0, 0, 0, 0), (52, .iconst 1, 1, 0, 0, 0, 0), (53, .iand, 1, 0, 0, 0, 0), (54, .ifCond .ne 7, 3, 0, 0, 0, 0), (57, .iconst 1, 1, 0, 0, 0, 0), (58, .goto 4, 3, 0, 0, 0, 0), (61, .iconst 0, 1, 0, 0, 0, 0), (62, .istore 6, 2, 0, 0, 0, 0), (64, .iload 5, 2, 0, 0, 0, 0), (66, .bipush 9, 2, 0, 0, 0, 0), (68, .if_icmp .eq 10, 3, 0, 0, 0, 0), (71, .iload 6, 2, 0, 0, 0, 0), (73, .ifCond .ne 5, 3, 0, 0, 0, 0), (76, .iconst 0, 1, 0, 0, 0, 0), (77, .ireturn, 1, 1, 0, 0, 0), (78, .aload_n 0, 1, 0, 0, 0, 0), (79, .getfield 32, 3, 0, 5, 1, 91), (82, .iload 4, 2, 0, 0, 0, 0), (84, .iload 5, 2, 0, 0, 0, 0), (86, .bipush 9, 2, 0, 0, 0, 0), (88, .if_icmp .ne 7, 3, 0, 0, 0, 0), (91, .iconst (-1), 1, 0, 0, 0, 0), (92, .goto 5, 3, 0, 0, 0, 0), (95, .iload 5, 2, 0, 0, 0, 0), (97, .iastore, 1, 0, 0, 0, 0), (98, .iload_n 3, 1, 0, 0, 0, 0), (99, .iload 5, 2, 0, 0, 0, 0), (101, .bipush 9, 2, 0, 0, 0, 0), (103, .if_icmp .ne 7, 3, 0, 0, 0, 0), (106, .iconst 0, 1, 0, 0, 0, 0), (107, .goto 7, 3, 0, 0, 0, 0), (110, .iconst 1, 1, 0, 0, 0, 0), (111, .iload 5, 2, 0, 0, 0, 0), (113, .ishl, 1, 0, 0, 0, 0), (114, .ior, 1, 0, 0, 0, 0), (115, .istore_n 3, 1, 0, 0, 0, 0), (116, .iinc 4 (-1), 3, 0, 0, 0, 0), (119, .goto (-104), 3, 0, 0, 0, 0), (122, .iload_n 2, 1, 0, 0, 0, 0), (123, .ifCond .ne 7, 3, 0, 0, 0, 0), (126, .iconst 1, 1, 0, 0, 0, 0), (127, .goto 4, 3, 0, 0, 0, 0), (130, .iconst 0, 1, 0, 0, 0, 0), (131, .ireturn, 1, 1, 0, 0, 0)]
/-- LikeTales$Answering.settle()I -/
def kX0_settle : List (Nat × jO) := [(0, .iconst 0, 1, 0, 0, 0, 0), (1, .istore_n 1, 1, 0, 0, 0, 0), (2, .iconst 0, 1, 0, 0, 0, 0), (3, .istore_n 2, 1, 0, 0, 0, 0), (4, .iconst 0, 1, 0, 0, 0, 0), (5, .istore_n 3, 1, 0, 0, 0, 0), (6, .iload_n 3, 1, 0, 0, 0, 0), (7, .aload_n 0, 1, 0, 0, 0, 0), (8, .getfield 12, 3, 0, 1, 3, 75), (11, .getfield 68, 3, 4, 1, 0, 79), (14, .if_icmp .ge 132, 3, 0, 0, 0, 0), (17, .aload_n 0, 1, 0, 0, 0, 0), (18, .iload_n 3, 1, 0, 0, 0, 0), (19, .invokevirtual 101, 3, 119, 2, 0, 92), (22, .iload_n 2, 1, 0, 0, 0, 0), (23, .iconst (-1), 1, 0, 0, 0, 0), (24, .ixor, 1, 0, 0, 0, 0), (25, .iand, 1, 0, 0, 0, 0), (26, .istore 4, 2, 0, 0, 0, 0), (28, .aload_n 0, 1, 0, 0, 0, 0), (29, .getfield 36, 3, 0, 6, 1, 92), (32, .iload_n 3, 1, 0, 0, 0, 0), (33, .aload_n 0, 1, 0, 0, 0, 0), (34, .aload_n 0, 1, 0, 0, 0, 0), (35, .getfield 28, 3, 0, 4, 1, 78), (38, .getfield 105, 3, 7, 2, 4, 93), (41, .ifCond .eq 20, 3, 0, 0, 0, 0), (44, .aload_n 0, 1, 0, 0, 0, 0), (45, .getfield 28, 3, 0, 4, 1, 78), (48, .iload_n 3, 1, 0, 0, 0, 0), (49, .iload 4, 2, 0, 0, 0, 0), (51, .aload_n 0, 1, 0, 0, 0, 0), (52, .getfield 36, 3, 0, 6, 1, 92), (55, .invokevirtual 109, 3, 167, 4, 0, 93), (58, .goto 5, 3, 0, 0, 0, 0), (61, .iload 4, 2, 0, 0, 0, 0), (63, .invokevirtual 113, 3, 121, 2, 0, 94), (66, .iastore, 1, 0, 0, 0, 0), (67, .aload_n 0, 1, 0, 0, 0, 0), (68, .getfield 36, 3, 0, 6, 1, 92), (71, .iload_n 3, 1, 0, 0, 0, 0), (72, .iaload, 1, 0, 0, 0, 0), (73, .iconst (-1), 1, 0, 0, 0, 0), (74, .if_icmp .ne 7, 3, 0, 0, 0, 0), (77, .iconst 0, 1, 0, 0, 0, 0), (78, .goto 11, 3, 0, 0, 0, 0), (81, .iconst 1, 1, 0, 0, 0, 0), (82, .aload_n 0, 1, 0, 0, 0, 0), (83, .getfield 36, 3, 0, 6, 1, 92), (86, .iload_n 3, 1, 0, 0, 0, 0), (87, .iaload, 1, 0, 0, 0, 0), (88, .ishl, 1, 0, 0, 0, 0), (89, .istore 5, 2, 0, 0, 0, 0), (91, .aload_n 0, 1, 0, 0, 0, 0), (92, .getfield 39, 3, 0, 7, 1, 94), (95, .iload_n 3, 1, 0, 0, 0, 0), (96, .iload 5, 2, 0, 0, 0, 0), (98, .iastore, 1, 0, 0, 0, 0), (99, .iload_n 2, 1, 0, 0, 0, 0), (100, .iload 5, 2, 0, 0, 0, 0), (102, .ior, 1, 0, 0, 0, 0), (103, .istore_n 2, 1, 0, 0, 0, 0), (104, .iload_n 1, 1, 0, 0, 0, 0), (105, .aload_n 0, 1, 0, 0, 0, 0), (106, .aload_n 0, 1, 0, 0, 0, 0), (107, .getfield 12, 3, 0, 1, 3, 75), (110, .getfield 116, 3, 4, 7, 1, 95), (113, .iload_n 3, 1, 0, 0, 0, 0), (114, .iaload, 1, 0, 0, 0, 0), (115, .iload 5, 2, 0, 0, 0, 0), (117, .aload_n 0, 1, 0, 0, 0, 0), (118, .getfield 48, 3, 0, 10, 1, 83), (121, .iload_n 3, 1, 0, 0, 0, 0), (122, .iaload, 1, 0, 0, 0, 0), (123, .iand, 1, 0, 0, 0, 0), (124, .iload 5, 2, 0, 0, 0, 0), (126, .aload_n 0, 1, 0, 0, 0, 0), (127, .getfield 51, 3, 0, 11, 1, 84), (130, .iload_n 3, 1, 0, 0, 0, 0), (131, .iaload, 1, 0, 0, 0, 0), (132, .iand, 1, 0, 0, 0, 0), (133, .iload 5, 2, 0, 0, 0, 0), (135, .invokevirtual 119, 3, 118, 5, 0, 95), (138, .iadd, 1, 0, 0, 0, 0), (139, .istore_n 1, 1, 0, 0, 0, 0), (140, .iinc 3 1, 3, 0, 0, 0, 0), (143, .goto (-137), 3, 0, 0, 0, 0), (146, .iload_n 1, 1, 0, 0, 0, 0), (147, .ireturn, 1, 0, 0, 0, 0)]
/-- LikeTales$Answering.hope(I)I -/
def kX0_hope : List (Nat × jO) := [(0, .aload_n 0, 1, 0, 0, 0, 0), (1, .iload_n 1, 1, 0, 0, 0, 0), (2, .invokevirtual 123, 3, 117, 2, 1, 96), (5, .iconst 0, 1, 0, 0, 0, 0), (6, .istore_n 2, 1, 0, 0, 0, 0), (7, .iconst 0, 1, 0, 0, 0, 0), (8, .istore_n 3, 1, 0, 0, 0, 0), (9, .iconst 0, 1, 0, 0, 0, 0), (10, .istore 4, 2, 0, 0, 0, 0), (12, .iconst 0, 1, 0, 0, 0, 0), (13, .istore 5, 2, 0, 0, 0, 0), (15, .iconst 0, 1, 0, 0, 0, 0), (16, .istore 6, 2, 0, 0, 0, 0), (18, .iload 6, 2, 0, 0, 0, 0), (20, .aload_n 0, 1, 0, 0, 0, 0), (21, .getfield 12, 3, 0, 1, 3, 75), (24, .getfield 68, 3, 4, 1, 0, 79), (27, .if_icmp .ge 135, 3, 0, 0, 0, 0), (30, .aload_n 0, 1, 0, 0, 0, 0), (31, .iload 6, 2, 0, 0, 0, 0), (33, .invokevirtual 101, 3, 119, 2, 0, 92), (36, .istore 7, 2, 0, 0, 0, 0), (38, .aload_n 0, 1, 0, 0, 0, 0), (39, .getfield 39, 3, 0, 7, 1, 94), (42, .iload 6, 2, 0, 0, 0, 0), (44, .iload 7, 2, 0, 0, 0, 0), (46, .iastore, 1, 0, 0, 0, 0), (47, .iload 5, 2, 0, 0, 0, 0), (49, .iload 7, 2, 0, 0, 0, 0), (51, .ior, 1, 0, 0, 0, 0), (52, .istore 5, 2, 0, 0, 0, 0), (54, .iload_n 3, 1, 0, 0, 0, 0), (55, .iload 7, 2, 0, 0, 0, 0), (57, .aload_n 0, 1, 0, 0, 0, 0), (58, .getfield 48, 3, 0, 10, 1, 83), (61, .iload 6, 2, 0, 0, 0, 0), (63, .iaload, 1, 0, 0, 0, 0), (64, .iand, 1, 0, 0, 0, 0), (65, .ior, 1, 0, 0, 0, 0), (66, .istore_n 3, 1, 0, 0, 0, 0), (67, .iload 4, 2, 0, 0, 0, 0), (69, .iload 7, 2, 0, 0, 0, 0), (71, .aload_n 0, 1, 0, 0, 0, 0), (72, .getfield 51, 3, 0, 11, 1, 84), (75, .iload 6, 2, 0, 0, 0, 0), (77, .iaload, 1, 0, 0, 0, 0), (78, .iand, 1, 0, 0, 0, 0), (79, .ior, 1, 0, 0, 0, 0), (80, .istore 4, 2, 0, 0, 0, 0), (82, .aload_n 0, 1, 0, 0, 0, 0), (83, .getfield 28, 3, 0, 4, 1, 78), (86, .getfield 105, 3, 7, 2, 4, 93), (89, .ifCond .eq 28, 3, 0, 0, 0, 0), (92, .aload_n 0, 1, 0, 0, 0, 0), (93, .getfield 28, 3, 0, 4, 1, 78), (96, .iload 6, 2, 0, 0, 0, 0), (98, .iload 7, 2, 0, 0, 0, 0), (100, .invokevirtual 126, 3, 169, 3, 0, 97), (103, .ifCond .eq 14, 3, 0, 0, 0, 0), (106, .aload_n 0, 1, 0, 0, 0, 0), (107, .iload 6, 2, 0, 0, 0, 0), (109, .iload 7, 2, 0, 0, 0, 0), (111, .invokevirtual 130, 3, 122, 3, 1, 98), (114, .goto 42, 3, 0, 0, 0, 0), (117, .iload_n 2, 1, 0, 0, 0, 0), (118, .aload_n 0, 1, 0, 0, 0, 0), (119, .aload_n 0, 1, 0, 0, 0, 0), (120, .getfield 12, 3, 0, 1, 3, 75), (123, .getfield 116, 3, 4, 7, 1, 95), (126, .iload 6, 2, 0, 0, 0, 0), (128, .iaload, 1, 0, 0, 0, 0), (129, .iload 7, 2, 0, 0, 0, 0), (131, .aload_n 0, 1, 0, 0, 0, 0), (132, .getfield 48, 3, 0, 10, 1, 83), (135, .iload 6, 2, 0, 0, 0, 0), (137, .iaload, 1, 0, 0, 0, 0), (138, .iand, 1, 0, 0, 0, 0), (139, .iload 7, 2, 0, 0, 0, 0), (141, .aload_n 0, 1, 0, 0, 0, 0), (142, .getfield 51, 3, 0, 11, 1, 84), (145, .iload 6, 2, 0, 0, 0, 0), (147, .iaload, 1, 0, 0, 0, 0), (148, .iand, 1, 0, 0, 0, 0), (149, .iload 7, 2, 0, 0, 0, 0), (151, .invokevirtual 119, 3, 118, 5, 0, 95), (154, .iadd, 1, 0, 0, 0, 0), (155, .istore_n 2, 1, 0, 0, 0, 0), (156, .iinc 6 1, 3, 0, 0, 0, 0), (159, .goto (-141), 3, 0, 0, 0, 0), (162, .iload_n 2, 1, 0, 0, 0, 0), (163, .aload_n 0, 1, 0, 0, 0, 0), (164, .getfield 28, 3, 0, 4, 1, 78), (167, .getfield 105, 3, 7, 2, 4, 93), (170, .ifCond .eq 13, 3, 0, 0, 0, 0), (173, .aload_n 0, 1, 0, 0, 0, 0), (174, .getfield 28, 3, 0, 4, 1, 78), (177, .invokevirtual 133, 3, 171, 1, 0, 99), (180, .goto 4, 3, 0, 0, 0, 0), (183, .iconst 0, 1, 0, 0, 0, 0), (184, .iadd, 1, 0, 0, 0, 0), (185, .istore_n 2, 1, 0, 0, 0, 0), (186, .iconst 0, 1, 0, 0, 0, 0), (187, .istore 6, 2, 0, 0, 0, 0), (189, .iconst 0, 1, 0, 0, 0, 0), (190, .istore 7, 2, 0, 0, 0, 0), (192, .iload 7, 2, 0, 0, 0, 0), (194, .aload_n 0, 1, 0, 0, 0, 0), (195, .getfield 18, 3, 0, 2, 3, 76), (198, .getfield 68, 3, 4, 1, 0, 79), (201, .if_icmp .ge 48, 3, 0, 0, 0, 0), (204, .iconst 1, 1, 0, 0, 0, 0), (205, .iload 7, 2, 0, 0, 0, 0), (207, .ishl, 1, 0, 0, 0, 0), (208, .istore 8, 2, 0, 0, 0, 0), (210, .iload 6, 2, 0, 0, 0, 0), (212, .aload_n 0, 1, 0, 0, 0, 0), (213, .aload_n 0, 1, 0, 0, 0, 0), (214, .getfield 18, 3, 0, 2, 3, 76), (217, .getfield 116, 3, 4, 7, 1, 95), (220, .iload 7, 2, 0, 0, 0, 0), (222, .iaload, 1, 0, 0, 0, 0), (223, .iload_n 3, 1, 0, 0, 0, 0), (224, .iload 8, 2, 0, 0, 0, 0), (226, .iand, 1, 0, 0, 0, 0), (227, .iload 4, 2, 0, 0, 0, 0), (229, .iload 8, 2, 0, 0, 0, 0), (231, .iand, 1, 0, 0, 0, 0), (232, .iload 5, 2, 0, 0, 0, 0), (234, .iload 8, 2, 0, 0, 0, 0), (236, .iand, 1, 0, 0, 0, 0), (237, .invokevirtual 119, 3, 118, 5, 0, 95), (240, .iadd, 1, 0, 0, 0, 0), (241, .istore 6, 2, 0, 0, 0, 0), (243, .iinc 7 1, 3, 0, 0, 0, 0), (246, .goto (-54), 3, 0, 0, 0, 0), (249, .iload_n 2, 1, 0, 0, 0, 0), (250, .iload 6, 2, 0, 0, 0, 0), (252, .invokestatic 137, 3, 0, 2, 5, 0), (255, .ireturn, 1, 0, 0, 0, 0)]
/-- LikeTales$Answering.noteFree(I)V -/
def kX0_noteFree : List (Nat × jO) := [(0, .iconst 0, 1, 0, 0, 0, 0), (1, .istore_n 2, 1, 0, 0, 0, 0), (2, .iload_n 2, 1, 0, 0, 0, 0), (3, .iconst 3, 1, 0, 0, 0, 0), (4, .if_icmp .ge 63, 3, 0, 0, 0, 0), (7, .iconst 0, 1, 0, 0, 0, 0), (8, .istore_n 3, 1, 0, 0, 0, 0), (9, .iconst 0, 1, 0, 0, 0, 0), (10, .istore 4, 2, 0, 0, 0, 0), (12, .iload 4, 2, 0, 0, 0, 0), (14, .aload_n 0, 1, 0, 0, 0, 0), (15, .getfield 18, 3, 0, 2, 3, 76), (18, .getfield 98, 3, 4, 0, 0, 90), (21, .if_icmp .ge 33, 3, 0, 0, 0, 0), (24, .iload_n 1, 1, 0, 0, 0, 0), (25, .iload 4, 2, 0, 0, 0, 0), (27, .ishr, 1, 0, 0, 0, 0), (28, .iconst 1, 1, 0, 0, 0, 0), (29, .iand, 1, 0, 0, 0, 0), (30, .ifCond .ne 18, 3, 0, 0, 0, 0), (33, .iload_n 3, 1, 0, 0, 0, 0), (34, .aload_n 0, 1, 0, 0, 0, 0), (35, .getfield 54, 3, 0, 12, 1, 80), (38, .iload_n 2, 1, 0, 0, 0, 0), (39, .bipush 24, 2, 0, 0, 0, 0), (41, .imul, 1, 0, 0, 0, 0), (42, .iload 4, 2, 0, 0, 0, 0), (44, .iadd, 1, 0, 0, 0, 0), (45, .iaload, 1, 0, 0, 0, 0), (46, .ior, 1, 0, 0, 0, 0), (47, .istore_n 3, 1, 0, 0, 0, 0), (48, .iinc 4 1, 3, 0, 0, 0, 0), (51, .goto (-39), 3, 0, 0, 0, 0), (54, .aload_n 0, 1, 0, 0, 0, 0), (55, .getfield 57, 3, 0, 13, 1, 96), (58, .iload_n 2, 1, 0, 0, 0, 0), (59, .iload_n 3, 1, 0, 0, 0, 0), (60, .iastore, 1, 0, 0, 0, 0), (61, .iinc 2 1, 3, 0, 0, 0, 0), (64, .goto (-62), 3, 0, 0, 0, 0), (67, .return_, 1, 0, 0, 0, 0)]
/-- LikeTales$Answering.gain(IIII)I -/
def kX0_gain : List (Nat × jO) := [(0, .aload_n 0, 1, 0, 0, 0, 0), (1, .getfield 21, 3, 0, 3, 0, 77), (4, .ifCond .eq 14, 3, 0, 0, 0, 0), (7, .iload 4, 2, 0, 0, 0, 0), (9, .ifCond .eq 7, 3, 0, 0, 0, 0), (12, .iconst 1, 1, 0, 0, 0, 0), (13, .goto 4, 3, 0, 0, 0, 0), (16, .iconst 0, 1, 0, 0, 0, 0), (17, .ireturn, 1, 0, 0, 0, 0), (18, .iload_n 1, 1, 0, 0, 0, 0), (19, .iload_n 2, 1, 0, 0, 0, 0), (20, .ifCond .eq 8, 3, 0, 0, 0, 0), (23, .bipush 6, 2, 0, 0, 0, 0), (25, .goto 21, 3, 0, 0, 0, 0), (28, .iload_n 3, 1, 0, 0, 0, 0), (29, .ifCond .eq 7, 3, 0, 0, 0, 0), (32, .iconst 4, 1, 0, 0, 0, 0), (33, .goto 13, 3, 0, 0, 0, 0), (36, .iload 4, 2, 0, 0, 0, 0), (38, .ifCond .eq 7, 3, 0, 0, 0, 0), (41, .iconst 3, 1, 0, 0, 0, 0), (42, .goto 4, 3, 0, 0, 0, 0), (45, .iconst 0, 1, 0, 0, 0, 0), (46, .imul, 1, 0, 0, 0, 0), (47, .ireturn, 1, 0, 0, 0, 0)]
/-- LikeTales$Answering.reachable(I)I -/
def kX0_reachable : List (Nat × jO) := [(0, .aload_n 0, 1, 0, 0, 0, 0), (1, .getfield 12, 3, 0, 1, 3, 75), (4, .getfield 95, 3, 4, 5, 1, 89), (7, .iload_n 1, 1, 0, 0, 0, 0), (8, .iconst 3, 1, 0, 0, 0, 0), (9, .imul, 1, 0, 0, 0, 0), (10, .iaload, 1, 0, 0, 0, 0), (11, .istore_n 2, 1, 0, 0, 0, 0), (12, .aload_n 0, 1, 0, 0, 0, 0), (13, .getfield 12, 3, 0, 1, 3, 75), (16, .getfield 95, 3, 4, 5, 1, 89), (19, .iload_n 1, 1, 0, 0, 0, 0), (20, .iconst 3, 1, 0, 0, 0, 0), (21, .imul, 1, 0, 0, 0, 0), (22, .iconst 1, 1, 0, 0, 0, 0), (23, .iadd, 1, 0, 0, 0, 0), (24, .iaload, 1, 0, 0, 0, 0), (25, .istore_n 3, 1, 0, 0, 0, 0), (26, .aload_n 0, 1, 0, 0, 0, 0), (27, .getfield 12, 3, 0, 1, 3, 75), (30, .getfield 95, 3, 4, 5, 1, 89), (33, .iload_n 1, 1, 0, 0, 0, 0), (34, .iconst 3, 1, 0, 0, 0, 0), (35, .imul, 1, 0, 0, 0, 0), (36, .iconst 2, 1, 0, 0, 0, 0), (37, .iadd, 1, 0, 0, 0, 0), (38, .iaload, 1, 0, 0, 0, 0), (39, .istore 4, 2, 0, 0, 0, 0), (41, .aload_n 0, 1, 0, 0, 0, 0), (42, .getfield 42, 3, 0, 8, 1, 81), (45, .iload_n 1, 1, 0, 0, 0, 0), (46, .iaload, 1, 0, 0, 0, 0), (47, .istore 5, 2, 0, 0, 0, 0), (49, .iload 5, 2, 0, 0, 0, 0), (51, .ifCond .ne 5, 3, 0, 0, 0, 0), (54, .iconst 0, 1, 0, 0, 0, 0), (55, .ireturn, 1, 0, 0, 0, 0), (56, .iload 5, 2, 0, 0, 0, 0), (58, .aload_n 0, 1, 0, 0, 0, 0), (59, .iload_n 2, 1, 0, 0, 0, 0), (60, .iconst 0, 1, 0, 0, 0, 0), (61, .invokevirtual 142, 3, 120, 3, 0, 100), (64, .iand, 1, 0, 0, 0, 0), (65, .istore 5, 2, 0, 0, 0, 0), (67, .iload_n 3, 1, 0, 0, 0, 0), (68, .iconst (-1), 1, 0, 0, 0, 0), (69, .if_icmp .eq 14, 3, 0, 0, 0, 0), (72, .iload 5, 2, 0, 0, 0, 0), (74, .aload_n 0, 1, 0, 0, 0, 0), (75, .iload_n 3, 1, 0, 0, 0, 0), (76, .iconst 1, 1, 0, 0, 0, 0), (77, .invokevirtual 142, 3, 120, 3, 0, 100), (80, .iand, 1, 0, 0, 0, 0), (81, .istore 5, 2, 0, 0, 0, 0), (83, .iload 4, 2, 0, 0, 0, 0), (85, .iconst (-1), 1, 0, 0, 0, 0), (86, .if_icmp .eq 15, 3, 0, 0, 0, 0), (89, .iload 5, 2, 0, 0, 0, 0), (91, .aload_n 0, 1, 0, 0, 0, 0), (92, .iload 4, 2, 0, 0, 0, 0), (94, .iconst 2, 1, 0, 0, 0, 0), (95, .invokevirtual 142, 3, 120, 3, 0, 100), (98, .iand, 1, 0, 0, 0, 0), (99, .istore 5, 2, 0, 0, 0, 0), (101, .aload_n 0, 1, 0, 0, 0, 0), (102, .getfield 45, 3, 0, 9, 1, 82), (105, .iload_n 1, 1, 0, 0, 0, 0), (106, .iaload, 1, 0, 0, 0, 0), (107, .ifCond .eq 28, 3, 0, 0, 0, 0), (110, .iload 5, 2, 0, 0, 0, 0), (112, .aload_n 0, 1, 0, 0, 0, 0), (113, .getfield 45, 3, 0, 9, 1, 82), (116, .iload_n 1, 1, 0, 0, 0, 0), (117, .iaload, 1, 0, 0, 0, 0), (118, .aload_n 0, 1, 0, 0, 0, 0), (119, .iload_n 2, 1, 0, 0, 0, 0), (120, .iconst 1, 1, 0, 0, 0, 0), (121, .invokevirtual 142, 3, 120, 3, 0, 100), (124, .iand, 1, 0, 0, 0, 0), (125, .aload_n 0, 1, 0, 0, 0, 0), (126, .iload_n 3, 1, 0, 0, 0, 0), (127, .iconst 0, 1, 0, 0, 0, 0), (128, .invokevirtual 142, 3, 120, 3, 0, 100), (131, .iand, 1, 0, 0, 0, 0), (132, .ior, 1, 0, 0, 0, 0), (133, .istore 5, 2, 0, 0, 0, 0), (135, .iload 5, 2, 0, 0, 0, 0), (137, .ireturn, 1, 0, 0, 0, 0)]
/-- LikeTales$Answering.reach(II)I -/
def kX0_reach : List (Nat × jO) := [(0, .iload_n 1, 1, 0, 0, 0, 0), (1, .bipush 6, 2, 0, 0, 0, 0), (3, .if_icmp .ge 51, 3, 0, 0, 0, 0), (6, .iload_n 1, 1, 0, 0, 0, 0), (7, .ifCond .ge 7, 3, 0, 0, 0, 0), (10, .iconst (-1), 1, 0, 0, 0, 0), (11, .goto 9, 3, 0, 0, 0, 0), (14, .aload_n 0, 1, 0, 0, 0, 0), (15, .getfield 32, 3, 0, 5, 1, 91), (18, .iload_n 1, 1, 0, 0, 0, 0), (19, .iaload, 1, 0, 0, 0, 0), (20, .istore_n 3, 1, 0, 0, 0, 0), (21, .iload_n 3, 1, 0, 0, 0, 0), (22, .bipush (-2), 2, 0, 0, 0, 0), (24, .if_icmp .ne 10, 3, 0, 0, 0, 0), (27, .aload_n 0, 1, 0, 0, 0, 0), (28, .getfield 57, 3, 0, 13, 1, 96), (31, .iload_n 2, 1, 0, 0, 0, 0), (32, .iaload, 1, 0, 0, 0, 0), (33, .ireturn, 1, 0, 0, 0, 0), (34, .iload_n 3, 1, 0, 0, 0, 0), (35, .ifCond .ge 7, 3, 0, 0, 0, 0), (38, .iconst 0, 1, 0, 0, 0, 0), (39, .goto 14, 3, 0, 0, 0, 0), (42, .aload_n 0, 1, 0, 0, 0, 0), (43, .getfield 54, 3, 0, 12, 1, 80), (46, .iload_n 2, 1, 0, 0, 0, 0), (47, .bipush 24, 2, 0, 0, 0, 0), (49, .imul, 1, 0, 0, 0, 0), (50, .iload_n 3, 1, 0, 0, 0, 0), (51, .iadd, 1, 0, 0, 0, 0), (52, .iaload, 1, 0, 0, 0, 0), (53, .ireturn, 1, 0, 0, 0, 0), (54, .iload_n 1, 1, 0, 0, 0, 0), (55, .bipush 10, 2, 0, 0, 0, 0), (57, .isub, 1, 0, 0, 0, 0), (58, .istore_n 3, 1, 0, 0, 0, 0), (59, .iload_n 3, 1, 0, 0, 0, 0), (60, .ifCond .lt 9, 3, 0, 0, 0, 0), (63, .iload_n 3, 1, 0, 0, 0, 0), (64, .bipush 14, 2, 0, 0, 0, 0), (66, .if_icmp .lt 7, 3, 0, 0, 0, 0), (69, .iconst 0, 1, 0, 0, 0, 0), (70, .goto 9, 3, 0, 0, 0, 0), (73, .aload_n 0, 1, 0, 0, 0, 0), (74, .getfield 39, 3, 0, 7, 1, 94), (77, .iload_n 3, 1, 0, 0, 0, 0), (78, .iaload, 1, 0, 0, 0, 0), (79, .istore 4, 2, 0, 0, 0, 0), (81, .iconst 0, 1, 0, 0, 0, 0), (82, .istore 5, 2, 0, 0, 0, 0), (84, .iconst 0, 1, 0, 0, 0, 0), (85, .istore 6, 2, 0, 0, 0, 0), (87, .iload 6, 2, 0, 0, 0, 0), (89, .aload_n 0, 1, 0, 0, 0, 0), (90, .getfield 18, 3, 0, 2, 3, 76), (93, .getfield 68, 3, 4, 1, 0, 79), (96, .if_icmp .ge 47, 3, 0, 0, 0, 0), (99, .iload 4, 2, 0, 0, 0, 0), (101, .iload 6, 2, 0, 0, 0, 0), (103, .ishr, 1, 0, 0, 0, 0), (104, .ifCond .eq 39, 3, 0, 0, 0, 0), (107, .iload 4, 2, 0, 0, 0, 0), (109, .iload 6, 2, 0, 0, 0, 0), (111, .ishr, 1, 0, 0, 0, 0), (112, .iconst 1, 1, 0, 0, 0, 0), (113, .iand, 1, 0, 0, 0, 0), (114, .ifCond .eq 23, 3, 0, 0, 0, 0), (117, .iload 5, 2, 0, 0, 0, 0), (119, .aload_n 0, 1, 0, 0, 0, 0), (120, .getfield 54, 3, 0, 12, 1, 80), (123, .iload_n 2, 1, 0, 0, 0, 0), (124, .bipush 24, 2, 0, 0, 0, 0), (126, .imul, 1, 0, 0, 0, 0), (127, .bipush 10, 2, 0, 0, 0, 0), (129, .iadd, 1, 0, 0, 0, 0), (130, .iload 6, 2, 0, 0, 0, 0), (132, .iadd, 1, 0, 0, 0, 0), (133, .iaload, 1, 0, 0, 0, 0), (134, .ior, 1, 0, 0, 0, 0), (135, .istore 5, 2, 0, 0, 0, 0), (137, .iinc 6 1, 3, 0, 0, 0, 0), (140, .goto (-53), 3, 0, 0, 0, 0), (143, .iload 5, 2, 0, 0, 0, 0), (145, .ireturn, 1, 0, 0, 0, 0)]
/-- LikeTales$Answering.firstOf(I)I -/
def kX0_firstOf : List (Nat × jO) := [(0, .iconst 0, 1, 0, 0, 0, 0), (1, .istore_n 2, 1, 0, 0, 0, 0), (2, .iload_n 2, 1, 0, 0, 0, 0), (3, .aload_n 0, 1, 0, 0, 0, 0), (4, .getfield 18, 3, 0, 2, 3, 76), (7, .getfield 68, 3, 4, 1, 0, 79), (10, .if_icmp .ge 25, 3, 0, 0, 0, 0), (13, .iload_n 1, 1, 0, 0, 0, 0), (14, .iload_n 2, 1, 0, 0, 0, 0), (15, .ishr, 1, 0, 0, 0, 0), (16, .ifCond .eq 19, 3, 0, 0, 0, 0), (19, .iload_n 1, 1, 0, 0, 0, 0), (20, .iload_n 2, 1, 0, 0, 0, 0), (21, .ishr, 1, 0, 0, 0, 0), (22, .iconst 1, 1, 0, 0, 0, 0), (23, .iand, 1, 0, 0, 0, 0), (24, .ifCond .eq 5, 3, 0, 0, 0, 0), (27, .iload_n 2, 1, 0, 0, 0, 0), (28, .ireturn, 1, 0, 0, 0, 0), (29, .iinc 2 1, 3, 0, 0, 0, 0), (32, .goto (-30), 3, 0, 0, 0, 0), (35, .iconst (-1), 1, 0, 0, 0, 0), (36, .ireturn, 1, 0, 0, 0, 0)]
/-- LikeTales$Answering.spread(II)V -/
def kX0_spread : List (Nat × jO) := [(0, .iconst 0, 1, 0, 0, 0, 0), (1, .istore_n 3, 1, 0, 0, 0, 0), (2, .iload_n 3, 1, 0, 0, 0, 0), (3, .bipush 10, 2, 0, 0, 0, 0), (5, .if_icmp .ge 69, 3, 0, 0, 0, 0), (8, .iload_n 2, 1, 0, 0, 0, 0), (9, .aload_n 0, 1, 0, 0, 0, 0), (10, .getfield 28, 3, 0, 4, 1, 78), (13, .getfield 145, 3, 7, 3, 1, 97), (16, .iload_n 3, 1, 0, 0, 0, 0), (17, .iaload, 1, 0, 0, 0, 0), (18, .iand, 1, 0, 0, 0, 0), (19, .istore 4, 2, 0, 0, 0, 0), (21, .iload 4, 2, 0, 0, 0, 0), (23, .ifCond .eq 45, 3, 0, 0, 0, 0), (26, .aload_n 0, 1, 0, 0, 0, 0), (27, .getfield 28, 3, 0, 4, 1, 78), (30, .iload_n 1, 1, 0, 0, 0, 0), (31, .iload_n 3, 1, 0, 0, 0, 0), (32, .aload_n 0, 1, 0, 0, 0, 0), (33, .aload_n 0, 1, 0, 0, 0, 0), (34, .getfield 12, 3, 0, 1, 3, 75), (37, .getfield 116, 3, 4, 7, 1, 95), (40, .iload_n 1, 1, 0, 0, 0, 0), (41, .iaload, 1, 0, 0, 0, 0), (42, .iload 4, 2, 0, 0, 0, 0), (44, .aload_n 0, 1, 0, 0, 0, 0), (45, .getfield 48, 3, 0, 10, 1, 83), (48, .iload_n 1, 1, 0, 0, 0, 0), (49, .iaload, 1, 0, 0, 0, 0), (50, .iand, 1, 0, 0, 0, 0), (51, .iload 4, 2, 0, 0, 0, 0), (53, .aload_n 0, 1, 0, 0, 0, 0), (54, .getfield 51, 3, 0, 11, 1, 84), (57, .iload_n 1, 1, 0, 0, 0, 0), (58, .iaload, 1, 0, 0, 0, 0), (59, .iand, 1, 0, 0, 0, 0), (60, .iload 4, 2, 0, 0, 0, 0), (62, .invokevirtual 119, 3, 118, 5, 0, 95), (65, .invokevirtual 148, 3, 170, 4, 1, 101), (68, .iinc 3 1, 3, 0, 0, 0, 0), (71, .goto (-69), 3, 0, 0, 0, 0), (74, .return_, 1, 0, 0, 0, 0)]
/-- LikeTales$Answering.sortsShared()I -/
def kX0_sortsShared : List (Nat × jO) := [(0, .iconst 0, 1, 0, 0, 0, 0), (1, .istore_n 1, 1, 0, 0, 0, 0), (2, .iconst 0, 1, 0, 0, 0, 0), (3, .istore_n 2, 1, 0, 0, 0, 0), (4, .iload_n 2, 1, 0, 0, 0, 0), (5, .aload_n 0, 1, 0, 0, 0, 0), (6, .getfield 12, 3, 0, 1, 3, 75), (9, .getfield 98, 3, 4, 0, 0, 90), (12, .if_icmp .ge 44, 3, 0, 0, 0, 0), (15, .aload_n 0, 1, 0, 0, 0, 0), (16, .getfield 32, 3, 0, 5, 1, 91), (19, .iload_n 2, 1, 0, 0, 0, 0), (20, .iaload, 1, 0, 0, 0, 0), (21, .istore_n 3, 1, 0, 0, 0, 0), (22, .iload_n 3, 1, 0, 0, 0, 0), (23, .ifCond .lt 27, 3, 0, 0, 0, 0), (26, .aload_n 0, 1, 0, 0, 0, 0), (27, .getfield 12, 3, 0, 1, 3, 75), (30, .getfield 152, 3, 4, 3, 1, 98), (33, .iload_n 2, 1, 0, 0, 0, 0), (34, .iaload, 1, 0, 0, 0, 0), (35, .aload_n 0, 1, 0, 0, 0, 0), (36, .getfield 18, 3, 0, 2, 3, 76), (39, .getfield 152, 3, 4, 3, 1, 98), (42, .iload_n 3, 1, 0, 0, 0, 0), (43, .iaload, 1, 0, 0, 0, 0), (44, .if_icmp .ne 6, 3, 0, 0, 0, 0), (47, .iinc 1 1, 3, 0, 0, 0, 0), (50, .iinc 2 1, 3, 0, 0, 0, 0), (53, .goto (-49), 3, 0, 0, 0, 0), (56, .iload_n 1, 1, 0, 0, 0, 0), (57, .ireturn, 1, 0, 0, 0, 0)]
/-- LikeTales$Guesses.gather()V -/
def kX1_gather : List (Nat × jO) := [(0, .aload_n 0, 1, 0, 0, 0, 0), (1, .iconst 0, 1, 0, 0, 0, 0), (2, .putfield 9, 3, 1, 3, 0, 99), (5, .iconst 0, 1, 0, 0, 0, 0), (6, .istore_n 1, 1, 0, 0, 0, 0), (7, .iload_n 1, 1, 0, 0, 0, 0), (8, .aload_n 0, 1, 0, 0, 0, 0), (9, .getfield 22, 3, 1, 0, 1, 100), (12, .getfield 32, 3, 4, 1, 0, 101), (15, .if_icmp .ge 64, 3, 0, 0, 0, 0), (18, .aload_n 0, 1, 0, 0, 0, 0), (19, .getfield 19, 3, 1, 5, 1, 102), (22, .iload_n 1, 1, 0, 0, 0, 0), (23, .iconst (-1), 1, 0, 0, 0, 0), (24, .iastore, 1, 0, 0, 0, 0), (25, .aload_n 0, 1, 0, 0, 0, 0), (26, .getfield 29, 3, 1, 2, 1, 103), (29, .iload_n 1, 1, 0, 0, 0, 0), (30, .iaload, 1, 0, 0, 0, 0), (31, .iconst (-1), 1, 0, 0, 0, 0), (32, .if_icmp .ne 41, 3, 0, 0, 0, 0), (35, .aload_n 0, 1, 0, 0, 0, 0), (36, .iload_n 1, 1, 0, 0, 0, 0), (37, .invokevirtual 36, 3, 125, 2, 0, 102), (40, .ifCond .eq 33, 3, 0, 0, 0, 0), (43, .aload_n 0, 1, 0, 0, 0, 0), (44, .getfield 19, 3, 1, 5, 1, 102), (47, .iload_n 1, 1, 0, 0, 0, 0), (48, .aload_n 0, 1, 0, 0, 0, 0), (49, .getfield 9, 3, 1, 3, 0, 99), (52, .iastore, 1, 0, 0, 0, 0), (53, .aload_n 0, 1, 0, 0, 0, 0), (54, .getfield 15, 3, 1, 4, 1, 104), (57, .aload_n 0, 1, 0, 0, 0, 0), (58, .getfield 9, 3, 1, 3, 0, 99), (61, .iload_n 1, 1, 0, 0, 0, 0), (62, .iastore, 1, 0, 0, 0, 0), (63, .aload_n 0, 1, 0, 0, 0, 0), (64, .dup, 1, 0, 0, 0, 0), (65, .getfield 9, 3, 1, 3, 0, 99), (68, .iconst 1, 1, 0, 0, 0, 0), (69, .iadd, 1, 0, 0, 0, 0), (70, .putfield 9, 3, 1, 3, 0, 99), (73, .iinc 1 1, 3, 0, 0, 0, 0), (76, .goto (-69), 3, 0, 0, 0, 0), (79, .return_, 1, 0, 0, 0, 0)]
/-- LikeTales$Guesses.isGuess(I)Z -/
def kX1_isGuess : List (Nat × jO) := [(0, .iconst 0, 1, 0, 0, 0, 0), (1, .istore_n 2, 1, 0, 0, 0, 0), (2, .iload_n 2, 1, 0, 0, 0, 0), (3, .iconst 3, 1, 0, 0, 0, 0), (4, .if_icmp .ge 39, 3, 0, 0, 0, 0), (7, .aload_n 0, 1, 0, 0, 0, 0), (8, .getfield 22, 3, 1, 0, 1, 100), (11, .getfield 40, 3, 4, 5, 1, 105), (14, .iload_n 1, 1, 0, 0, 0, 0), (15, .iconst 3, 1, 0, 0, 0, 0), (16, .imul, 1, 0, 0, 0, 0), (17, .iload_n 2, 1, 0, 0, 0, 0), (18, .iadd, 1, 0, 0, 0, 0), (19, .iaload, 1, 0, 0, 0, 0), (20, .istore_n 3, 1, 0, 0, 0, 0), (21, .iload_n 3, 1, 0, 0, 0, 0), (22, .iconst (-1), 1, 0, 0, 0, 0), (23, .if_icmp .eq 14, 3, 0, 0, 0, 0), (26, .aload_n 0, 1, 0, 0, 0, 0), (27, .iload_n 3, 1, 0, 0, 0, 0), (28, .invokevirtual 43, 3, 126, 2, 0, 103), (31, .iconst (-1), 1, 0, 0, 0, 0), (32, .if_icmp .ne 5, 3, 0, 0, 0, 0), (35, .iconst 0, 1, 0, 0, 0, 0), (36, .ireturn, 1, 1, 0, 0, 0), (37, .iinc 2 1, 3, 0, 0, 0, 0), (40, .goto (-38), 3, 0, 0, 0, 0), (43, .iconst 1, 1, 0, 0, 0, 0), (44, .ireturn, 1, 1, 0, 0, 0)]
/-- LikeTales$Guesses.over(I)I -/
def kX1_over : List (Nat × jO) := [(0, .iload_n 1, 1, 0, 0, 0, 0), (1, .bipush 6, 2, 0, 0, 0, 0), (3, .if_icmp .ge 27, 3, 0, 0, 0, 0), (6, .iload_n 1, 1, 0, 0, 0, 0), (7, .ifCond .lt 12, 3, 0, 0, 0, 0), (10, .aload_n 0, 1, 0, 0, 0, 0), (11, .getfield 26, 3, 1, 1, 1, 106), (14, .iload_n 1, 1, 0, 0, 0, 0), (15, .iaload, 1, 0, 0, 0, 0), (16, .ifCond .ge 7, 3, 0, 0, 0, 0), (19, .iconst (-1), 1, 0, 0, 0, 0), (20, .goto 9, 3, 0, 0, 0, 0), (23, .aload_n 0, 1, 0, 0, 0, 0), (24, .getfield 26, 3, 1, 1, 1, 106), (27, .iload_n 1, 1, 0, 0, 0, 0), (28, .iaload, 1, 0, 0, 0, 0), (29, .ireturn, 1, 0, 0, 0, 0), (30, .iload_n 1, 1, 0, 0, 0, 0), (31, .bipush 10, 2, 0, 0, 0, 0), (33, .isub, 1, 0, 0, 0, 0), (34, .istore_n 2, 1, 0, 0, 0, 0), (35, .iload_n 2, 1, 0, 0, 0, 0), (36, .ifCond .lt 14, 3, 0, 0, 0, 0), (39, .iload_n 2, 1, 0, 0, 0, 0), (40, .aload_n 0, 1, 0, 0, 0, 0), (41, .getfield 22, 3, 1, 0, 1, 100), (44, .getfield 32, 3, 4, 1, 0, 101), (47, .if_icmp .lt 5, 3, 0, 0, 0, 0), (50, .iconst (-1), 1, 0, 0, 0, 0), (51, .ireturn, 1, 0, 0, 0, 0), (52, .aload_n 0, 1, 0, 0, 0, 0), (53, .getfield 29, 3, 1, 2, 1, 103), (56, .iload_n 2, 1, 0, 0, 0, 0), (57, .iaload, 1, 0, 0, 0, 0), (58, .iconst (-1), 1, 0, 0, 0, 0), (59, .if_icmp .eq 13, 3, 0, 0, 0, 0), (62, .bipush 10, 2, 0, 0, 0, 0), (64, .aload_n 0, 1, 0, 0, 0, 0), (65, .getfield 29, 3, 1, 2, 1, 103), (68, .iload_n 2, 1, 0, 0, 0, 0), (69, .iaload, 1, 0, 0, 0, 0), (70, .iadd, 1, 0, 0, 0, 0), (71, .ireturn, 1, 0, 0, 0, 0), (72, .aload_n 0, 1, 0, 0, 0, 0), (73, .getfield 19, 3, 1, 5, 1, 102), (76, .iload_n 2, 1, 0, 0, 0, 0), (77, .iaload, 1, 0, 0, 0, 0), (78, .iconst (-1), 1, 0, 0, 0, 0), (79, .if_icmp .ne 7, 3, 0, 0, 0, 0), (82, .iconst (-1), 1, 0, 0, 0, 0), (83, .goto 12, 3, 0, 0, 0, 0), (86, .bipush 30, 2, 0, 0, 0, 0), (88, .aload_n 0, 1, 0, 0, 0, 0), (89, .getfield 19, 3, 1, 5, 1, 102), (92, .iload_n 2, 1, 0, 0, 0, 0), (93, .iaload, 1, 0, 0, 0, 0), (94, .iadd, 1, 0, 0, 0, 0), (95, .ireturn, 1, 0, 0, 0, 0)]
/-- LikeTales$Guesses.endOver(II)I -/
def kX1_endOver : List (Nat × jO) := [(0, .aload_n 0, 1, 0, 0, 0, 0), (1, .aload_n 0, 1, 0, 0, 0, 0), (2, .getfield 22, 3, 1, 0, 1, 100), (5, .getfield 40, 3, 4, 5, 1, 105), (8, .aload_n 0, 1, 0, 0, 0, 0), (9, .getfield 15, 3, 1, 4, 1, 104), (12, .iload_n 1, 1, 0, 0, 0, 0), (13, .iaload, 1, 0, 0, 0, 0), (14, .iconst 3, 1, 0, 0, 0, 0), (15, .imul, 1, 0, 0, 0, 0), (16, .iload_n 2, 1, 0, 0, 0, 0), (17, .iadd, 1, 0, 0, 0, 0), (18, .iaload, 1, 0, 0, 0, 0), (19, .invokevirtual 43, 3, 126, 2, 0, 103), (22, .ireturn, 1, 0, 0, 0, 0)]
/-- LikeTales$Guesses.isHeld(ILLikeTales$Net;LLikeTales$Language;)Z -/
def kX1_isHeld : List (Nat × jO) := [(0, .aload_n 0, 1, 0, 0, 0, 0), (1, .iload_n 1, 1, 0, 0, 0, 0), (2, .aload_n 0, 1, 0, 0, 0, 0), (3, .getfield 22, 3, 1, 0, 1, 100), (6, .getfield 47, 3, 4, 4, 1, 107), (9, .aload_n 0, 1, 0, 0, 0, 0), (10, .getfield 15, 3, 1, 4, 1, 104), (13, .iload_n 1, 1, 0, 0, 0, 0), (14, .iaload, 1, 0, 0, 0, 0), (15, .iaload, 1, 0, 0, 0, 0), (16, .aload_n 2, 1, 0, 0, 0, 0), (17, .aload_n 3, 1, 0, 0, 0, 0), (18, .invokevirtual 50, 3, 130, 5, 0, 104), (21, .ireturn, 1, 1, 0, 0, 0)]
/-- LikeTales$Guesses.isAgainst(ILLikeTales$Net;LLikeTales$Language;)Z -/
def kX1_isAgainst : List (Nat × jO) := [(0, .aload_n 3, 1, 0, 0, 0, 0), (1, .getfield 54, 3, 3, 3, 1, 108), (4, .aload_n 0, 1, 0, 0, 0, 0), (5, .getfield 22, 3, 1, 0, 1, 100), (8, .getfield 47, 3, 4, 4, 1, 107), (11, .aload_n 0, 1, 0, 0, 0, 0), (12, .getfield 15, 3, 1, 4, 1, 104), (15, .iload_n 1, 1, 0, 0, 0, 0), (16, .iaload, 1, 0, 0, 0, 0), (17, .iaload, 1, 0, 0, 0, 0), (18, .iaload, 1, 0, 0, 0, 0), (19, .istore 4, 2, 0, 0, 0, 0), (21, .iload 4, 2, 0, 0, 0, 0), (23, .iconst (-1), 1, 0, 0, 0, 0), (24, .if_icmp .eq 19, 3, 0, 0, 0, 0), (27, .aload_n 0, 1, 0, 0, 0, 0), (28, .iload_n 1, 1, 0, 0, 0, 0), (29, .iload 4, 2, 0, 0, 0, 0), (31, .aload_n 2, 1, 0, 0, 0, 0), (32, .aload_n 3, 1, 0, 0, 0, 0), (33, .invokevirtual 50, 3, 130, 5, 0, 104), (36, .ifCond .eq 7, 3, 0, 0, 0, 0), (39, .iconst 1, 1, 0, 0, 0, 0), (40, .goto 4, 3, 0, 0, 0, 0), (43, .iconst 0, 1, 0, 0, 0, 0), (44, .ireturn, 1, 1, 0, 0, 0)]
/-- LikeTales$Guesses.isTold(IILLikeTales$Net;LLikeTales$Language;)Z -/
def kX1_isTold : List (Nat × jO) := [(0, .aload_n 3, 1, 0, 0, 0, 0), (1, .aload 4, 2, 0, 0, 0, 0), (3, .iload_n 2, 1, 0, 0, 0, 0), (4, .aload_n 0, 1, 0, 0, 0, 0), (5, .iload_n 1, 1, 0, 0, 0, 0), (6, .iconst 0, 1, 0, 0, 0, 0), (7, .invokevirtual 59, 3, 127, 3, 0, 105), (10, .aload_n 0, 1, 0, 0, 0, 0), (11, .iload_n 1, 1, 0, 0, 0, 0), (12, .iconst 1, 1, 0, 0, 0, 0), (13, .invokevirtual 59, 3, 127, 3, 0, 105), (16, .aload_n 0, 1, 0, 0, 0, 0), (17, .iload_n 1, 1, 0, 0, 0, 0), (18, .iconst 2, 1, 0, 0, 0, 0), (19, .invokevirtual 59, 3, 127, 3, 0, 105), (22, .invokevirtual 63, 3, 144, 6, 0, 106), (25, .iconst (-1), 1, 0, 0, 0, 0), (26, .if_icmp .eq 7, 3, 0, 0, 0, 0), (29, .iconst 1, 1, 0, 0, 0, 0), (30, .goto 4, 3, 0, 0, 0, 0), (33, .iconst 0, 1, 0, 0, 0, 0), (34, .ireturn, 1, 1, 0, 0, 0)]
/-- LikeTales$Kept.take(LLikeTales$Net;LLikeTales$Net;IZ)V -/
def kX2_take : List (Nat × jO) := [(0, .aload_n 0, 1, 0, 0, 0, 0), (1, .iconst 1, 1, 0, 0, 0, 0), (2, .putfield 9, 3, 2, 0, 4, 109), (5, .aload_n 0, 1, 0, 0, 0, 0), (6, .iload_n 3, 1, 0, 0, 0, 0), (7, .putfield 15, 3, 2, 1, 0, 110), (10, .aload_n 0, 1, 0, 0, 0, 0), (11, .iload 4, 2, 0, 0, 0, 0), (13, .putfield 19, 3, 2, 2, 4, 111), (16, .aload_n 0, 1, 0, 0, 0, 0), (17, .getfield 29, 3, 2, 3, 1, 112), (20, .aload_n 1, 1, 0, 0, 0, 0), (21, .invokevirtual 48, 3, 141, 2, 1, 107), (24, .aload_n 0, 1, 0, 0, 0, 0), (25, .getfield 25, 3, 2, 4, 1, 113), (28, .aload_n 2, 1, 0, 0, 0, 0), (29, .invokevirtual 48, 3, 141, 2, 1, 107), (32, .return_, 1, 0, 0, 0, 0)]
/-- LikeTales$Kept.takePairing([I[I)V -/
def kX2_takePairing : List (Nat × jO) := [(0, .aload_n 1, 1, 0, 0, 0, 0), (1, .arraylength, 1, 0, 0, 0, 0), (2, .bipush 6, 2, 0, 0, 0, 0), (4, .if_icmp .lt 10, 3, 0, 0, 0, 0), (7, .aload_n 2, 1, 0, 0, 0, 0), (8, .arraylength, 1, 0, 0, 0, 0), (9, .bipush 14, 2, 0, 0, 0, 0), (11, .if_icmp .ge 4, 3, 0, 0, 0, 0), (14, .return_, 1, 0, 0, 0, 0), (15, .aload_n 1, 1, 0, 0, 0, 0), (16, .iconst 0, 1, 0, 0, 0, 0), (17, .aload_n 0, 1, 0, 0, 0, 0), (18, .getfield 32, 3, 2, 5, 1, 114), (21, .iconst 0, 1, 0, 0, 0, 0), (22, .bipush 6, 2, 0, 0, 0, 0), (24, .invokestatic 52, 3, 0, 5, 6, 1), (27, .aload_n 2, 1, 0, 0, 0, 0), (28, .iconst 0, 1, 0, 0, 0, 0), (29, .aload_n 0, 1, 0, 0, 0, 0), (30, .getfield 36, 3, 2, 6, 1, 115), (33, .iconst 0, 1, 0, 0, 0, 0), (34, .bipush 14, 2, 0, 0, 0, 0), (36, .invokestatic 52, 3, 0, 5, 6, 1), (39, .aload_n 0, 1, 0, 0, 0, 0), (40, .getfield 44, 3, 2, 7, 1, 116), (43, .invokevirtual 58, 3, 124, 1, 1, 108), (46, .return_, 1, 0, 0, 0, 0)]
/-- LikeTales$Kept.pairedThings()I -/
def kX2_pairedThings : List (Nat × jO) := [(0, .iconst 0, 1, 0, 0, 0, 0), (1, .istore_n 1, 1, 0, 0, 0, 0), (2, .iconst 0, 1, 0, 0, 0, 0), (3, .istore_n 2, 1, 0, 0, 0, 0), (4, .iload_n 2, 1, 0, 0, 0, 0), (5, .aload_n 0, 1, 0, 0, 0, 0), (6, .getfield 29, 3, 2, 3, 1, 112), (9, .getfield 61, 3, 4, 0, 0, 117), (12, .if_icmp .ge 28, 3, 0, 0, 0, 0), (15, .iload_n 1, 1, 0, 0, 0, 0), (16, .aload_n 0, 1, 0, 0, 0, 0), (17, .getfield 32, 3, 2, 5, 1, 114), (20, .iload_n 2, 1, 0, 0, 0, 0), (21, .iaload, 1, 0, 0, 0, 0), (22, .ifCond .lt 9, 3, 0, 0, 0, 0), (25, .iconst 1, 1, 0, 0, 0, 0), (26, .iload_n 2, 1, 0, 0, 0, 0), (27, .ishl, 1, 0, 0, 0, 0), (28, .goto 4, 3, 0, 0, 0, 0), (31, .iconst 0, 1, 0, 0, 0, 0), (32, .ior, 1, 0, 0, 0, 0), (33, .istore_n 1, 1, 0, 0, 0, 0), (34, .iinc 2 1, 3, 0, 0, 0, 0), (37, .goto (-33), 3, 0, 0, 0, 0), (40, .iload_n 1, 1, 0, 0, 0, 0), (41, .ireturn, 1, 0, 0, 0, 0)]
/-- LikeTales$Language.isLinked(I)Z -/
def kX3_isLinked : List (Nat × jO) := [(0, .aload_n 0, 1, 0, 0, 0, 0), (1, .getfield 19, 3, 3, 2, 1, 118), (4, .iload_n 1, 1, 0, 0, 0, 0), (5, .iaload, 1, 0, 0, 0, 0), (6, .iconst (-1), 1, 0, 0, 0, 0), (7, .if_icmp .ne 13, 3, 0, 0, 0, 0), (10, .aload_n 0, 1, 0, 0, 0, 0), (11, .getfield 22, 3, 3, 3, 1, 119), (14, .iload_n 1, 1, 0, 0, 0, 0), (15, .iaload, 1, 0, 0, 0, 0), (16, .iconst (-1), 1, 0, 0, 0, 0), (17, .if_icmp .eq 5, 3, 0, 0, 0, 0), (20, .iconst 1, 1, 0, 0, 0, 0), (21, .ireturn, 1, 1, 0, 0, 0), (22, .iconst 0, 1, 0, 0, 0, 0), (23, .istore_n 2, 1, 0, 0, 0, 0), (24, .iload_n 2, 1, 0, 0, 0, 0), (25, .bipush 16, 2, 0, 0, 0, 0), (27, .if_icmp .ge 21, 3, 0, 0, 0, 0), (30, .aload_n 0, 1, 0, 0, 0, 0), (31, .getfield 19, 3, 3, 2, 1, 118), (34, .iload_n 2, 1, 0, 0, 0, 0), (35, .iaload, 1, 0, 0, 0, 0), (36, .iload_n 1, 1, 0, 0, 0, 0), (37, .if_icmp .ne 5, 3, 0, 0, 0, 0), (40, .iconst 1, 1, 0, 0, 0, 0), (41, .ireturn, 1, 1, 0, 0, 0), (42, .iinc 2 1, 3, 0, 0, 0, 0), (45, .goto (-21), 3, 0, 0, 0, 0), (48, .iconst 0, 1, 0, 0, 0, 0), (49, .ireturn, 1, 1, 0, 0, 0)]
/-- LikeTales$Language.mayStandOver(II)Z -/
def kX3_mayStandOver : List (Nat × jO) := [(0, .aload_n 0, 1, 0, 0, 0, 0), (1, .getfield 9, 3, 3, 0, 1, 120), (4, .iload_n 1, 1, 0, 0, 0, 0), (5, .iaload, 1, 0, 0, 0, 0), (6, .aload_n 0, 1, 0, 0, 0, 0), (7, .getfield 9, 3, 3, 0, 1, 120), (10, .iload_n 2, 1, 0, 0, 0, 0), (11, .iaload, 1, 0, 0, 0, 0), (12, .if_icmp .eq 5, 3, 0, 0, 0, 0), (15, .iconst 0, 1, 0, 0, 0, 0), (16, .ireturn, 1, 1, 0, 0, 0), (17, .iload_n 1, 1, 0, 0, 0, 0), (18, .istore_n 3, 1, 0, 0, 0, 0), (19, .iconst 0, 1, 0, 0, 0, 0), (20, .istore 4, 2, 0, 0, 0, 0), (22, .iload 4, 2, 0, 0, 0, 0), (24, .bipush 16, 2, 0, 0, 0, 0), (26, .if_icmp .gt 28, 3, 0, 0, 0, 0), (29, .iload_n 3, 1, 0, 0, 0, 0), (30, .iconst (-1), 1, 0, 0, 0, 0), (31, .if_icmp .eq 23, 3, 0, 0, 0, 0), (34, .iload_n 3, 1, 0, 0, 0, 0), (35, .iload_n 2, 1, 0, 0, 0, 0), (36, .if_icmp .ne 5, 3, 0, 0, 0, 0), (39, .iconst 0, 1, 0, 0, 0, 0), (40, .ireturn, 1, 1, 0, 0, 0), (41, .aload_n 0, 1, 0, 0, 0, 0), (42, .getfield 19, 3, 3, 2, 1, 118), (45, .iload_n 3, 1, 0, 0, 0, 0), (46, .iaload, 1, 0, 0, 0, 0), (47, .istore_n 3, 1, 0, 0, 0, 0), (48, .iinc 4 1, 3, 0, 0, 0, 0), (51, .goto (-29), 3, 0, 0, 0, 0), (54, .iconst 1, 1, 0, 0, 0, 0), (55, .ireturn, 1, 1, 0, 0, 0)]
/-- LikeTales$Language.oppose(II)V -/
def kX3_oppose : List (Nat × jO) := [(0, .aload_n 0, 1, 0, 0, 0, 0), (1, .iload_n 1, 1, 0, 0, 0, 0), (2, .invokevirtual 25, 3, 137, 2, 1, 109), (5, .aload_n 0, 1, 0, 0, 0, 0), (6, .iload_n 2, 1, 0, 0, 0, 0), (7, .invokevirtual 25, 3, 137, 2, 1, 109), (10, .iload_n 1, 1, 0, 0, 0, 0), (11, .iload_n 2, 1, 0, 0, 0, 0), (12, .if_icmp .eq 17, 3, 0, 0, 0, 0), (15, .aload_n 0, 1, 0, 0, 0, 0), (16, .getfield 22, 3, 3, 3, 1, 119), (19, .iload_n 1, 1, 0, 0, 0, 0), (20, .iload_n 2, 1, 0, 0, 0, 0), (21, .iastore, 1, 0, 0, 0, 0), (22, .aload_n 0, 1, 0, 0, 0, 0), (23, .getfield 22, 3, 3, 3, 1, 119), (26, .iload_n 2, 1, 0, 0, 0, 0), (27, .iload_n 1, 1, 0, 0, 0, 0), (28, .iastore, 1, 0, 0, 0, 0), (29, .return_, 1, 0, 0, 0, 0)]
/-- LikeTales$Language.loosen(I)V -/
def kX3_loosen : List (Nat × jO) := [(0, .aload_n 0, 1, 0, 0, 0, 0), (1, .getfield 22, 3, 3, 3, 1, 119), (4, .iload_n 1, 1, 0, 0, 0, 0), (5, .iaload, 1, 0, 0, 0, 0), (6, .istore_n 2, 1, 0, 0, 0, 0), (7, .iload_n 2, 1, 0, 0, 0, 0), (8, .iconst (-1), 1, 0, 0, 0, 0), (9, .if_icmp .eq 17, 3, 0, 0, 0, 0), (12, .aload_n 0, 1, 0, 0, 0, 0), (13, .getfield 22, 3, 3, 3, 1, 119), (16, .iload_n 2, 1, 0, 0, 0, 0), (17, .iconst (-1), 1, 0, 0, 0, 0), (18, .iastore, 1, 0, 0, 0, 0), (19, .aload_n 0, 1, 0, 0, 0, 0), (20, .getfield 22, 3, 3, 3, 1, 119), (23, .iload_n 1, 1, 0, 0, 0, 0), (24, .iconst (-1), 1, 0, 0, 0, 0), (25, .iastore, 1, 0, 0, 0, 0), (26, .return_, 1, 0, 0, 0, 0)]
/-- LikeTales$Language.above(II)I -/
def kX3_above : List (Nat × jO) := [(0, .iload_n 1, 1, 0, 0, 0, 0), (1, .istore_n 3, 1, 0, 0, 0, 0), (2, .iconst 0, 1, 0, 0, 0, 0), (3, .istore 4, 2, 0, 0, 0, 0), (5, .iload 4, 2, 0, 0, 0, 0), (7, .iload_n 2, 1, 0, 0, 0, 0), (8, .if_icmp .ge 26, 3, 0, 0, 0, 0), (11, .aload_n 0, 1, 0, 0, 0, 0), (12, .getfield 19, 3, 3, 2, 1, 118), (15, .iload_n 3, 1, 0, 0, 0, 0), (16, .iaload, 1, 0, 0, 0, 0), (17, .iconst (-1), 1, 0, 0, 0, 0), (18, .if_icmp .eq 16, 3, 0, 0, 0, 0), (21, .aload_n 0, 1, 0, 0, 0, 0), (22, .getfield 19, 3, 3, 2, 1, 118), (25, .iload_n 3, 1, 0, 0, 0, 0), (26, .iaload, 1, 0, 0, 0, 0), (27, .istore_n 3, 1, 0, 0, 0, 0), (28, .iinc 4 1, 3, 0, 0, 0, 0), (31, .goto (-26), 3, 0, 0, 0, 0), (34, .iload_n 3, 1, 0, 0, 0, 0), (35, .ireturn, 1, 0, 0, 0, 0)]
/-- LikeTales$Language.meetingLevel(II)I -/
def kX3_meetingLevel : List (Nat × jO) := [(0, .iconst 0, 1, 0, 0, 0, 0), (1, .istore_n 3, 1, 0, 0, 0, 0), (2, .iload_n 3, 1, 0, 0, 0, 0), (3, .iconst 2, 1, 0, 0, 0, 0), (4, .if_icmp .gt 26, 3, 0, 0, 0, 0), (7, .aload_n 0, 1, 0, 0, 0, 0), (8, .iload_n 1, 1, 0, 0, 0, 0), (9, .iload_n 3, 1, 0, 0, 0, 0), (10, .invokevirtual 29, 3, 138, 3, 0, 110), (13, .aload_n 0, 1, 0, 0, 0, 0), (14, .iload_n 2, 1, 0, 0, 0, 0), (15, .iload_n 3, 1, 0, 0, 0, 0), (16, .invokevirtual 29, 3, 138, 3, 0, 110), (19, .if_icmp .ne 5, 3, 0, 0, 0, 0), (22, .iload_n 3, 1, 0, 0, 0, 0), (23, .ireturn, 1, 0, 0, 0, 0), (24, .iinc 3 1, 3, 0, 0, 0, 0), (27, .goto (-25), 3, 0, 0, 0, 0), (30, .iconst (-1), 1, 0, 0, 0, 0), (31, .ireturn, 1, 0, 0, 0, 0)]
/-- LikeTales$Net.empty(I)V -/
def kX4_empty : List (Nat × jO) := [(0, .aload_n 0, 1, 0, 0, 0, 0), (1, .iload_n 1, 1, 0, 0, 0, 0), (2, .putfield 9, 3, 4, 0, 0, 121), (5, .aload_n 0, 1, 0, 0, 0, 0), (6, .iconst 0, 1, 0, 0, 0, 0), (7, .putfield 15, 3, 4, 1, 0, 122), (10, .aload_n 0, 1, 0, 0, 0, 0), (11, .iconst 0, 1, 0, 0, 0, 0), (12, .putfield 18, 3, 4, 2, 0, 123), (15, .iconst 0, 1, 0, 0, 0, 0), (16, .istore_n 2, 1, 0, 0, 0, 0), (17, .iload_n 2, 1, 0, 0, 0, 0), (18, .bipush 6, 2, 0, 0, 0, 0), (20, .if_icmp .ge 16, 3, 0, 0, 0, 0), (23, .aload_n 0, 1, 0, 0, 0, 0), (24, .getfield 21, 3, 4, 3, 1, 124), (27, .iload_n 2, 1, 0, 0, 0, 0), (28, .iconst 0, 1, 0, 0, 0, 0), (29, .iastore, 1, 0, 0, 0, 0), (30, .iinc 2 1, 3, 0, 0, 0, 0), (33, .goto (-16), 3, 0, 0, 0, 0), (36, .return_, 1, 0, 0, 0, 0)]
/-- LikeTales$Net.become(LLikeTales$Net;)V -/
def kX4_become : List (Nat × jO) := [(0, .aload_n 0, 1, 0, 0, 0, 0), (1, .aload_n 1, 1, 0, 0, 0, 0), (2, .getfield 9, 3, 4, 0, 0, 121), (5, .putfield 9, 3, 4, 0, 0, 121), (8, .aload_n 0, 1, 0, 0, 0, 0), (9, .aload_n 1, 1, 0, 0, 0, 0), (10, .getfield 15, 3, 4, 1, 0, 122), (13, .putfield 15, 3, 4, 1, 0, 122), (16, .aload_n 0, 1, 0, 0, 0, 0), (17, .aload_n 1, 1, 0, 0, 0, 0), (18, .getfield 18, 3, 4, 2, 0, 123), (21, .putfield 18, 3, 4, 2, 0, 123), (24, .aload_n 1, 1, 0, 0, 0, 0), (25, .getfield 21, 3, 4, 3, 1, 124), (28, .iconst 0, 1, 0, 0, 0, 0), (29, .aload_n 0, 1, 0, 0, 0, 0), (30, .getfield 21, 3, 4, 3, 1, 124), (33, .iconst 0, 1, 0, 0, 0, 0), (34, .bipush 6, 2, 0, 0, 0, 0), (36, .invokestatic 37, 3, 0, 5, 6, 2), (39, .aload_n 1, 1, 0, 0, 0, 0), (40, .getfield 25, 3, 4, 4, 1, 125), (43, .iconst 0, 1, 0, 0, 0, 0), (44, .aload_n 0, 1, 0, 0, 0, 0), (45, .getfield 25, 3, 4, 4, 1, 125), (48, .iconst 0, 1, 0, 0, 0, 0), (49, .bipush 14, 2, 0, 0, 0, 0), (51, .invokestatic 37, 3, 0, 5, 6, 2), (54, .aload_n 1, 1, 0, 0, 0, 0), (55, .getfield 28, 3, 4, 5, 1, 126), (58, .iconst 0, 1, 0, 0, 0, 0), (59, .aload_n 0, 1, 0, 0, 0, 0), (60, .getfield 28, 3, 4, 5, 1, 126), (63, .iconst 0, 1, 0, 0, 0, 0), (64, .bipush 42, 2, 0, 0, 0, 0), (66, .invokestatic 37, 3, 0, 5, 6, 2), (69, .aload_n 1, 1, 0, 0, 0, 0), (70, .getfield 31, 3, 4, 6, 1, 127), (73, .iconst 0, 1, 0, 0, 0, 0), (74, .aload_n 0, 1, 0, 0, 0, 0), (75, .getfield 31, 3, 4, 6, 1, 127), (78, .iconst 0, 1, 0, 0, 0, 0), (79, .bipush 14, 2, 0, 0, 0, 0), (81, .invokestatic 37, 3, 0, 5, 6, 2), (84, .aload_n 1, 1, 0, 0, 0, 0), (85, .getfield 34, 3, 4, 7, 1, 128), (88, .iconst 0, 1, 0, 0, 0, 0), (89, .aload_n 0, 1, 0, 0, 0, 0), (90, .getfield 34, 3, 4, 7, 1, 128), (93, .iconst 0, 1, 0, 0, 0, 0), (94, .bipush 14, 2, 0, 0, 0, 0), (96, .invokestatic 37, 3, 0, 5, 6, 2), (99, .return_, 1, 0, 0, 0, 0)]
/-- LikeTales$Net.hasEnds(IIII)Z -/
def kX4_hasEnds : List (Nat × jO) := [(0, .aload_n 0, 1, 0, 0, 0, 0), (1, .iload_n 2, 1, 0, 0, 0, 0), (2, .invokevirtual 43, 3, 143, 2, 0, 111), (5, .ifCond .eq 51, 3, 0, 0, 0, 0), (8, .iload_n 1, 1, 0, 0, 0, 0), (9, .iconst 2, 1, 0, 0, 0, 0), (10, .if_icmp .lt 14, 3, 0, 0, 0, 0), (13, .aload_n 0, 1, 0, 0, 0, 0), (14, .iload_n 3, 1, 0, 0, 0, 0), (15, .invokevirtual 43, 3, 143, 2, 0, 111), (18, .ifCond .eq 38, 3, 0, 0, 0, 0), (21, .goto 8, 3, 0, 0, 0, 0), (24, .iload_n 3, 1, 0, 0, 0, 0), (25, .iconst (-1), 1, 0, 0, 0, 0), (26, .if_icmp .ne 30, 3, 0, 0, 0, 0), (29, .iload_n 1, 1, 0, 0, 0, 0), (30, .iconst 3, 1, 0, 0, 0, 0), (31, .if_icmp .lt 15, 3, 0, 0, 0, 0), (34, .aload_n 0, 1, 0, 0, 0, 0), (35, .iload 4, 2, 0, 0, 0, 0), (37, .invokevirtual 43, 3, 143, 2, 0, 111), (40, .ifCond .eq 16, 3, 0, 0, 0, 0), (43, .goto 9, 3, 0, 0, 0, 0), (46, .iload 4, 2, 0, 0, 0, 0), (48, .iconst (-1), 1, 0, 0, 0, 0), (49, .if_icmp .ne 7, 3, 0, 0, 0, 0), (52, .iconst 1, 1, 0, 0, 0, 0), (53, .goto 4, 3, 0, 0, 0, 0), (56, .iconst 0, 1, 0, 0, 0, 0), (57, .ireturn, 1, 1, 0, 0, 0)]
/-- LikeTales$Net.isEnd(I)Z -/
def kX4_isEnd : List (Nat × jO) := [(0, .iload_n 1, 1, 0, 0, 0, 0), (1, .ifCond .lt 11, 3, 0, 0, 0, 0), (4, .iload_n 1, 1, 0, 0, 0, 0), (5, .aload_n 0, 1, 0, 0, 0, 0), (6, .getfield 9, 3, 4, 0, 0, 121), (9, .if_icmp .lt 20, 3, 0, 0, 0, 0), (12, .iload_n 1, 1, 0, 0, 0, 0), (13, .bipush 10, 2, 0, 0, 0, 0), (15, .if_icmp .lt 18, 3, 0, 0, 0, 0), (18, .iload_n 1, 1, 0, 0, 0, 0), (19, .bipush 10, 2, 0, 0, 0, 0), (21, .aload_n 0, 1, 0, 0, 0, 0), (22, .getfield 15, 3, 4, 1, 0, 122), (25, .iadd, 1, 0, 0, 0, 0), (26, .if_icmp .ge 7, 3, 0, 0, 0, 0), (29, .iconst 1, 1, 0, 0, 0, 0), (30, .goto 4, 3, 0, 0, 0, 0), (33, .iconst 0, 1, 0, 0, 0, 0), (34, .ireturn, 1, 1, 0, 0, 0)]
/-- LikeTales$Net.find(LLikeTales$Language;IIII)I -/
def kX4_find : List (Nat × jO) := [(0, .iconst 0, 1, 0, 0, 0, 0), (1, .istore 6, 2, 0, 0, 0, 0), (3, .iload 6, 2, 0, 0, 0, 0), (5, .aload_n 0, 1, 0, 0, 0, 0), (6, .getfield 15, 3, 4, 1, 0, 122), (9, .if_icmp .ge 110, 3, 0, 0, 0, 0), (12, .aload_n 0, 1, 0, 0, 0, 0), (13, .getfield 25, 3, 4, 4, 1, 125), (16, .iload 6, 2, 0, 0, 0, 0), (18, .iaload, 1, 0, 0, 0, 0), (19, .iload_n 2, 1, 0, 0, 0, 0), (20, .if_icmp .ne 93, 3, 0, 0, 0, 0), (23, .aload_n 0, 1, 0, 0, 0, 0), (24, .getfield 28, 3, 4, 5, 1, 126), (27, .iload 6, 2, 0, 0, 0, 0), (29, .iconst 3, 1, 0, 0, 0, 0), (30, .imul, 1, 0, 0, 0, 0), (31, .iaload, 1, 0, 0, 0, 0), (32, .istore 7, 2, 0, 0, 0, 0), (34, .aload_n 0, 1, 0, 0, 0, 0), (35, .getfield 28, 3, 4, 5, 1, 126), (38, .iload 6, 2, 0, 0, 0, 0), (40, .iconst 3, 1, 0, 0, 0, 0), (41, .imul, 1, 0, 0, 0, 0), (42, .iconst 1, 1, 0, 0, 0, 0), (43, .iadd, 1, 0, 0, 0, 0), (44, .iaload, 1, 0, 0, 0, 0), (45, .istore 8, 2, 0, 0, 0, 0), (47, .iload 7, 2, 0, 0, 0, 0), (49, .iload_n 3, 1, 0, 0, 0, 0), (50, .if_icmp .ne 30, 3, 0, 0, 0, 0), (53, .iload 8, 2, 0, 0, 0, 0), (55, .iload 4, 2, 0, 0, 0, 0), (57, .if_icmp .ne 23, 3, 0, 0, 0, 0), (60, .aload_n 0, 1, 0, 0, 0, 0), (61, .getfield 28, 3, 4, 5, 1, 126), (64, .iload 6, 2, 0, 0, 0, 0), (66, .iconst 3, 1, 0, 0, 0, 0), (67, .imul, 1, 0, 0, 0, 0), (68, .iconst 2, 1, 0, 0, 0, 0), (69, .iadd, 1, 0, 0, 0, 0), (70, .iaload, 1, 0, 0, 0, 0), (71, .iload 5, 2, 0, 0, 0, 0), (73, .if_icmp .ne 7, 3, 0, 0, 0, 0), (76, .iconst 1, 1, 0, 0, 0, 0), (77, .goto 4, 3, 0, 0, 0, 0), (80, .iconst 0, 1, 0, 0, 0, 0), (81, .istore 9, 2, 0, 0, 0, 0), (83, .iload 9, 2, 0, 0, 0, 0), (85, .ifCond .ne 25, 3, 0, 0, 0, 0), (88, .aload_n 1, 1, 0, 0, 0, 0), (89, .getfield 47, 3, 3, 1, 1, 129), (92, .iload_n 2, 1, 0, 0, 0, 0), (93, .baload, 1, 0, 0, 0, 0), (94, .ifCond .eq 19, 3, 0, 0, 0, 0), (97, .iload 7, 2, 0, 0, 0, 0), (99, .iload 4, 2, 0, 0, 0, 0), (101, .if_icmp .ne 12, 3, 0, 0, 0, 0), (104, .iload 8, 2, 0, 0, 0, 0), (106, .iload_n 3, 1, 0, 0, 0, 0), (107, .if_icmp .ne 6, 3, 0, 0, 0, 0), (110, .iload 6, 2, 0, 0, 0, 0), (112, .ireturn, 1, 0, 0, 0, 0), (113, .iinc 6 1, 3, 0, 0, 0, 0), (116, .goto (-113), 3, 0, 0, 0, 0), (119, .iconst (-1), 1, 0, 0, 0, 0), (120, .ireturn, 1, 0, 0, 0, 0)]
/-- LikeTales$Net.put(IIIII)I -/
def kX4_put : List (Nat × jO) := [(0, .aload_n 0, 1, 0, 0, 0, 0), (1, .getfield 15, 3, 4, 1, 0, 122), (4, .bipush 14, 2, 0, 0, 0, 0), (6, .if_icmp .lt 5, 3, 0, 0, 0, 0), (9, .iconst (-1), 1, 0, 0, 0, 0), (10, .ireturn, 1, 0, 0, 0, 0), (11, .aload_n 0, 1, 0, 0, 0, 0), (12, .getfield 15, 3, 4, 1, 0, 122), (15, .istore 6, 2, 0, 0, 0, 0), (17, .aload_n 0, 1, 0, 0, 0, 0), (18, .getfield 25, 3, 4, 4, 1, 125), (21, .iload 6, 2, 0, 0, 0, 0), (23, .iload_n 1, 1, 0, 0, 0, 0), (24, .iastore, 1, 0, 0, 0, 0), (25, .aload_n 0, 1, 0, 0, 0, 0), (26, .getfield 28, 3, 4, 5, 1, 126), (29, .iload 6, 2, 0, 0, 0, 0), (31, .iconst 3, 1, 0, 0, 0, 0), (32, .imul, 1, 0, 0, 0, 0), (33, .iload_n 2, 1, 0, 0, 0, 0), (34, .iastore, 1, 0, 0, 0, 0), (35, .aload_n 0, 1, 0, 0, 0, 0), (36, .getfield 28, 3, 4, 5, 1, 126), (39, .iload 6, 2, 0, 0, 0, 0), (41, .iconst 3, 1, 0, 0, 0, 0), (42, .imul, 1, 0, 0, 0, 0), (43, .iconst 1, 1, 0, 0, 0, 0), (44, .iadd, 1, 0, 0, 0, 0), (45, .iload_n 3, 1, 0, 0, 0, 0), (46, .iastore, 1, 0, 0, 0, 0), (47, .aload_n 0, 1, 0, 0, 0, 0), (48, .getfield 28, 3, 4, 5, 1, 126), (51, .iload 6, 2, 0, 0, 0, 0), (53, .iconst 3, 1, 0, 0, 0, 0), (54, .imul, 1, 0, 0, 0, 0), (55, .iconst 2, 1, 0, 0, 0, 0), (56, .iadd, 1, 0, 0, 0, 0), (57, .iload 4, 2, 0, 0, 0, 0), (59, .iastore, 1, 0, 0, 0, 0), (60, .aload_n 0, 1, 0, 0, 0, 0), (61, .getfield 31, 3, 4, 6, 1, 127), (64, .iload 6, 2, 0, 0, 0, 0), (66, .iload 5, 2, 0, 0, 0, 0), (68, .iastore, 1, 0, 0, 0, 0), (69, .aload_n 0, 1, 0, 0, 0, 0), (70, .getfield 34, 3, 4, 7, 1, 128), (73, .iload 6, 2, 0, 0, 0, 0), (75, .iconst 1, 1, 0, 0, 0, 0), (76, .aload_n 0, 1, 0, 0, 0, 0), (77, .iload_n 2, 1, 0, 0, 0, 0), (78, .invokevirtual 53, 3, 146, 2, 0, 112), (81, .aload_n 0, 1, 0, 0, 0, 0), (82, .iload_n 3, 1, 0, 0, 0, 0), (83, .invokevirtual 53, 3, 146, 2, 0, 112), (86, .aload_n 0, 1, 0, 0, 0, 0), (87, .iload 4, 2, 0, 0, 0, 0), (89, .invokevirtual 53, 3, 146, 2, 0, 112), (92, .invokestatic 57, 3, 0, 2, 4, 3), (95, .invokestatic 57, 3, 0, 2, 4, 3), (98, .iadd, 1, 0, 0, 0, 0), (99, .iastore, 1, 0, 0, 0, 0), (100, .aload_n 0, 1, 0, 0, 0, 0), (101, .dup, 1, 0, 0, 0, 0), (102, .getfield 15, 3, 4, 1, 0, 122), (105, .iconst 1, 1, 0, 0, 0, 0), (106, .iadd, 1, 0, 0, 0, 0), (107, .putfield 15, 3, 4, 1, 0, 122), (110, .iload 6, 2, 0, 0, 0, 0), (112, .ireturn, 1, 0, 0, 0, 0)]
/-- LikeTales$Net.heightOfEnd(I)I -/
def kX4_heightOfEnd : List (Nat × jO) := [(0, .iload_n 1, 1, 0, 0, 0, 0), (1, .bipush 10, 2, 0, 0, 0, 0), (3, .if_icmp .lt 26, 3, 0, 0, 0, 0), (6, .iload_n 1, 1, 0, 0, 0, 0), (7, .bipush 10, 2, 0, 0, 0, 0), (9, .aload_n 0, 1, 0, 0, 0, 0), (10, .getfield 15, 3, 4, 1, 0, 122), (13, .iadd, 1, 0, 0, 0, 0), (14, .if_icmp .ge 15, 3, 0, 0, 0, 0), (17, .aload_n 0, 1, 0, 0, 0, 0), (18, .getfield 34, 3, 4, 7, 1, 128), (21, .iload_n 1, 1, 0, 0, 0, 0), (22, .bipush 10, 2, 0, 0, 0, 0), (24, .isub, 1, 0, 0, 0, 0), (25, .iaload, 1, 0, 0, 0, 0), (26, .goto 4, 3, 0, 0, 0, 0), (29, .iconst 0, 1, 0, 0, 0, 0), (30, .ireturn, 1, 0, 0, 0, 0)]
/-- LikeTales$Net.greatestHeight()I -/
def kX4_greatestHeight : List (Nat × jO) := [(0, .iconst 0, 1, 0, 0, 0, 0), (1, .istore_n 1, 1, 0, 0, 0, 0), (2, .iconst 0, 1, 0, 0, 0, 0), (3, .istore_n 2, 1, 0, 0, 0, 0), (4, .iload_n 2, 1, 0, 0, 0, 0), (5, .aload_n 0, 1, 0, 0, 0, 0), (6, .getfield 15, 3, 4, 1, 0, 122), (9, .if_icmp .ge 20, 3, 0, 0, 0, 0), (12, .iload_n 1, 1, 0, 0, 0, 0), (13, .aload_n 0, 1, 0, 0, 0, 0), (14, .getfield 34, 3, 4, 7, 1, 128), (17, .iload_n 2, 1, 0, 0, 0, 0), (18, .iaload, 1, 0, 0, 0, 0), (19, .invokestatic 57, 3, 0, 2, 4, 3), (22, .istore_n 1, 1, 0, 0, 0, 0), (23, .iinc 2 1, 3, 0, 0, 0, 0), (26, .goto (-22), 3, 0, 0, 0, 0), (29, .iload_n 1, 1, 0, 0, 0, 0), (30, .ireturn, 1, 0, 0, 0, 0)]
/-- LikeTales$Net.countOfKind(I)I -/
def kX4_countOfKind : List (Nat × jO) := [(0, .iconst 0, 1, 0, 0, 0, 0), (1, .istore_n 2, 1, 0, 0, 0, 0), (2, .iconst 0, 1, 0, 0, 0, 0), (3, .istore_n 3, 1, 0, 0, 0, 0), (4, .iload_n 3, 1, 0, 0, 0, 0), (5, .aload_n 0, 1, 0, 0, 0, 0), (6, .getfield 15, 3, 4, 1, 0, 122), (9, .if_icmp .ge 22, 3, 0, 0, 0, 0), (12, .aload_n 0, 1, 0, 0, 0, 0), (13, .getfield 25, 3, 4, 4, 1, 125), (16, .iload_n 3, 1, 0, 0, 0, 0), (17, .iaload, 1, 0, 0, 0, 0), (18, .iload_n 1, 1, 0, 0, 0, 0), (19, .if_icmp .ne 6, 3, 0, 0, 0, 0), (22, .iinc 2 1, 3, 0, 0, 0, 0), (25, .iinc 3 1, 3, 0, 0, 0, 0), (28, .goto (-24), 3, 0, 0, 0, 0), (31, .iload_n 2, 1, 0, 0, 0, 0), (32, .ireturn, 1, 0, 0, 0, 0)]
/-- LikeTales$Net.countOfMoments()I -/
def kX4_countOfMoments : List (Nat × jO) := [(0, .iconst 0, 1, 0, 0, 0, 0), (1, .istore_n 1, 1, 0, 0, 0, 0), (2, .iconst 0, 1, 0, 0, 0, 0), (3, .istore_n 2, 1, 0, 0, 0, 0), (4, .iload_n 2, 1, 0, 0, 0, 0), (5, .aload_n 0, 1, 0, 0, 0, 0), (6, .getfield 15, 3, 4, 1, 0, 122), (9, .if_icmp .ge 22, 3, 0, 0, 0, 0), (12, .aload_n 0, 1, 0, 0, 0, 0), (13, .getfield 31, 3, 4, 6, 1, 127), (16, .iload_n 2, 1, 0, 0, 0, 0), (17, .iaload, 1, 0, 0, 0, 0), (18, .iconst (-1), 1, 0, 0, 0, 0), (19, .if_icmp .eq 6, 3, 0, 0, 0, 0), (22, .iinc 1 1, 3, 0, 0, 0, 0), (25, .iinc 2 1, 3, 0, 0, 0, 0), (28, .goto (-24), 3, 0, 0, 0, 0), (31, .iload_n 1, 1, 0, 0, 0, 0), (32, .ireturn, 1, 0, 0, 0, 0)]
/-- LikeTales$Search.likeness(LLikeTales$Net;LLikeTales$Net;IZ)I -/
def kX5_likeness : List (Nat × jO) := [(0, .aload_n 0, 1, 0, 0, 0, 0), (1, .aload_n 1, 1, 0, 0, 0, 0), (2, .aload_n 2, 1, 0, 0, 0, 0), (3, .iload_n 3, 1, 0, 0, 0, 0), (4, .iload 4, 2, 0, 0, 0, 0), (6, .iconst 0, 1, 0, 0, 0, 0), (7, .invokevirtual 64, 3, 155, 6, 1, 113), (10, .aload_n 0, 1, 0, 0, 0, 0), (11, .iconst 0, 1, 0, 0, 0, 0), (12, .iconst 0, 1, 0, 0, 0, 0), (13, .invokestatic 68, 3, 157, 3, 3, 114), (16, .aload_n 0, 1, 0, 0, 0, 0), (17, .getfield 42, 3, 5, 10, 1, 130), (20, .iconst 0, 1, 0, 0, 0, 0), (21, .aload_n 0, 1, 0, 0, 0, 0), (22, .getfield 63, 3, 5, 1, 1, 131), (25, .iconst 0, 1, 0, 0, 0, 0), (26, .bipush 6, 2, 0, 0, 0, 0), (28, .invokestatic 72, 3, 0, 5, 6, 4), (31, .aload_n 0, 1, 0, 0, 0, 0), (32, .getfield 54, 3, 5, 0, 1, 132), (35, .invokevirtual 78, 3, 115, 1, 0, 115), (38, .pop, 1, 0, 0, 0, 0), (39, .aload_n 0, 1, 0, 0, 0, 0), (40, .getfield 36, 3, 5, 8, 0, 133), (43, .ireturn, 1, 0, 0, 0, 0)]
/-- LikeTales$Search.list(I)I -/
def kX5_list : List (Nat × jO) := [(0, .aload_n 0, 1, 0, 0, 0, 0), (1, .iconst 1, 1, 0, 0, 0, 0), (2, .putfield 45, 3, 5, 11, 4, 134), (5, .aload_n 0, 1, 0, 0, 0, 0), (6, .iconst 0, 1, 0, 0, 0, 0), (7, .putfield 48, 3, 5, 12, 0, 135), (10, .aload_n 0, 1, 0, 0, 0, 0), (11, .iload_n 1, 1, 0, 0, 0, 0), (12, .putfield 51, 3, 5, 13, 0, 136), (15, .aload_n 0, 1, 0, 0, 0, 0), (16, .invokevirtual 82, 3, 156, 1, 1, 116), (19, .aload_n 0, 1, 0, 0, 0, 0), (20, .iconst 0, 1, 0, 0, 0, 0), (21, .iconst 0, 1, 0, 0, 0, 0), (22, .invokestatic 68, 3, 157, 3, 3, 114), (25, .aload_n 0, 1, 0, 0, 0, 0), (26, .iconst 0, 1, 0, 0, 0, 0), (27, .putfield 45, 3, 5, 11, 4, 134), (30, .aload_n 0, 1, 0, 0, 0, 0), (31, .getfield 48, 3, 5, 12, 0, 135), (34, .ireturn, 1, 0, 0, 0, 0)]
/-- LikeTales$Search.digits()I -/
def kX5_digits : List (Nat × jO) := [(0, .iconst 0, 1, 0, 0, 0, 0), (1, .istore_n 1, 1, 0, 0, 0, 0), (2, .iconst 0, 1, 0, 0, 0, 0), (3, .istore_n 2, 1, 0, 0, 0, 0), (4, .iload_n 2, 1, 0, 0, 0, 0), (5, .aload_n 0, 1, 0, 0, 0, 0), (6, .getfield 12, 3, 5, 2, 3, 137), (9, .getfield 85, 3, 4, 0, 0, 138), (12, .if_icmp .ge 36, 3, 0, 0, 0, 0), (15, .iload_n 1, 1, 0, 0, 0, 0), (16, .bipush 10, 2, 0, 0, 0, 0), (18, .imul, 1, 0, 0, 0, 0), (19, .aload_n 0, 1, 0, 0, 0, 0), (20, .getfield 42, 3, 5, 10, 1, 130), (23, .iload_n 2, 1, 0, 0, 0, 0), (24, .iaload, 1, 0, 0, 0, 0), (25, .iconst (-1), 1, 0, 0, 0, 0), (26, .if_icmp .ne 8, 3, 0, 0, 0, 0), (29, .bipush 9, 2, 0, 0, 0, 0), (31, .goto 9, 3, 0, 0, 0, 0), (34, .aload_n 0, 1, 0, 0, 0, 0), (35, .getfield 42, 3, 5, 10, 1, 130), (38, .iload_n 2, 1, 0, 0, 0, 0), (39, .iaload, 1, 0, 0, 0, 0), (40, .iadd, 1, 0, 0, 0, 0), (41, .istore_n 1, 1, 0, 0, 0, 0), (42, .iinc 2 1, 3, 0, 0, 0, 0), (45, .goto (-41), 3, 0, 0, 0, 0), (48, .iload_n 1, 1, 0, 0, 0, 0), (49, .ireturn, 1, 0, 0, 0, 0)]
/-- LikeTales$Search.mostAnswering(LLikeTales$Net;LLikeTales$Net;Z)I -/
def kX5_mostAnswering : List (Nat × jO) := [(0, .aload_n 0, 1, 0, 0, 0, 0), (1, .aload_n 1, 1, 0, 0, 0, 0), (2, .aload_n 2, 1, 0, 0, 0, 0), (3, .iconst 0, 1, 0, 0, 0, 0), (4, .iload_n 3, 1, 0, 0, 0, 0), (5, .iconst 1, 1, 0, 0, 0, 0), (6, .invokevirtual 64, 3, 155, 6, 1, 113), (9, .aload_n 0, 1, 0, 0, 0, 0), (10, .iconst 0, 1, 0, 0, 0, 0), (11, .iconst 0, 1, 0, 0, 0, 0), (12, .invokestatic 68, 3, 157, 3, 3, 114), (15, .aload_n 0, 1, 0, 0, 0, 0), (16, .getfield 36, 3, 5, 8, 0, 133), (19, .ireturn, 1, 0, 0, 0, 0)]
/-- LikeTales$Search.isSame(LLikeTales$Net;LLikeTales$Net;)Z -/
def kX5_isSame : List (Nat × jO) := [(0, .aload_n 0, 1, 0, 0, 0, 0), (1, .aload_n 1, 1, 0, 0, 0, 0), (2, .aload_n 2, 1, 0, 0, 0, 0), (3, .iconst 0, 1, 0, 0, 0, 0), (4, .iconst 0, 1, 0, 0, 0, 0), (5, .iconst 2, 1, 0, 0, 0, 0), (6, .invokevirtual 64, 3, 155, 6, 1, 113), (9, .aload_n 1, 1, 0, 0, 0, 0), (10, .getfield 85, 3, 4, 0, 0, 138), (13, .aload_n 1, 1, 0, 0, 0, 0), (14, .getfield 88, 3, 4, 1, 0, 139), (17, .iadd, 1, 0, 0, 0, 0), (18, .istore_n 3, 1, 0, 0, 0, 0), (19, .aload_n 0, 1, 0, 0, 0, 0), (20, .iload_n 3, 1, 0, 0, 0, 0), (21, .iconst 1, 1, 0, 0, 0, 0), (22, .isub, 1, 0, 0, 0, 0), (23, .putfield 36, 3, 5, 8, 0, 133), (26, .aload_n 0, 1, 0, 0, 0, 0), (27, .aload_n 1, 1, 0, 0, 0, 0), (28, .getfield 85, 3, 4, 0, 0, 138), (31, .putfield 39, 3, 5, 9, 0, 140), (34, .aload_n 0, 1, 0, 0, 0, 0), (35, .iconst 0, 1, 0, 0, 0, 0), (36, .iconst 0, 1, 0, 0, 0, 0), (37, .invokestatic 68, 3, 157, 3, 3, 114), (40, .aload_n 0, 1, 0, 0, 0, 0), (41, .getfield 36, 3, 5, 8, 0, 133), (44, .iload_n 3, 1, 0, 0, 0, 0), (45, .if_icmp .ne 7, 3, 0, 0, 0, 0), (48, .iconst 1, 1, 0, 0, 0, 0), (49, .goto 4, 3, 0, 0, 0, 0), (52, .iconst 0, 1, 0, 0, 0, 0), (53, .ireturn, 1, 1, 0, 0, 0)]
/-- LikeTales$Search.prepare(LLikeTales$Net;LLikeTales$Net;IZI)V -/
def kX5_prepare : List (Nat × jO) := [(0, .aload_n 0, 1, 0, 0, 0, 0), (1, .aload_n 1, 1, 0, 0, 0, 0), (2, .putfield 12, 3, 5, 2, 3, 137), (5, .aload_n 0, 1, 0, 0, 0, 0), (6, .aload_n 2, 1, 0, 0, 0, 0), (7, .putfield 18, 3, 5, 3, 3, 141), (10, .aload_n 0, 1, 0, 0, 0, 0), (11, .getfield 54, 3, 5, 0, 1, 132), (14, .aload_n 1, 1, 0, 0, 0, 0), (15, .aload_n 2, 1, 0, 0, 0, 0), (16, .iload_n 3, 1, 0, 0, 0, 0), (17, .iload 4, 2, 0, 0, 0, 0), (19, .iload 5, 2, 0, 0, 0, 0), (21, .invokevirtual 91, 3, 111, 6, 1, 117), (24, .aload_n 0, 1, 0, 0, 0, 0), (25, .iload 5, 2, 0, 0, 0, 0), (27, .iconst 1, 1, 0, 0, 0, 0), (28, .if_icmp .eq 7, 3, 0, 0, 0, 0), (31, .iconst 1, 1, 0, 0, 0, 0), (32, .goto 4, 3, 0, 0, 0, 0), (35, .iconst 0, 1, 0, 0, 0, 0), (36, .putfield 21, 3, 5, 4, 4, 142), (39, .aload_n 0, 1, 0, 0, 0, 0), (40, .aload_n 0, 1, 0, 0, 0, 0), (41, .getfield 54, 3, 5, 0, 1, 132), (44, .getfield 94, 3, 0, 4, 1, 143), (47, .getfield 98, 3, 7, 2, 4, 144), (50, .ifCond .eq 13, 3, 0, 0, 0, 0), (53, .aload_n 0, 1, 0, 0, 0, 0), (54, .getfield 12, 3, 5, 2, 3, 137), (57, .getfield 85, 3, 4, 0, 0, 138), (60, .goto 22, 3, 0, 0, 0, 0), (63, .iconst 0, 1, 0, 0, 0, 0), (64, .aload_n 0, 1, 0, 0, 0, 0), (65, .getfield 12, 3, 5, 2, 3, 137), (68, .getfield 85, 3, 4, 0, 0, 138), (71, .aload_n 0, 1, 0, 0, 0, 0), (72, .getfield 18, 3, 5, 3, 3, 141), (75, .getfield 85, 3, 4, 0, 0, 138), (78, .isub, 1, 0, 0, 0, 0), (79, .invokestatic 103, 3, 0, 2, 4, 5), (82, .putfield 33, 3, 5, 7, 0, 145), (85, .aload_n 0, 1, 0, 0, 0, 0), (86, .iconst (-1), 1, 0, 0, 0, 0), (87, .putfield 36, 3, 5, 8, 0, 133), (90, .aload_n 0, 1, 0, 0, 0, 0), (91, .iconst (-1), 1, 0, 0, 0, 0), (92, .putfield 39, 3, 5, 9, 0, 140), (95, .iconst 0, 1, 0, 0, 0, 0), (96, .istore 6, 2, 0, 0, 0, 0), (98, .iload 6, 2, 0, 0, 0, 0), (100, .aload_n 0, 1, 0, 0, 0, 0), (101, .getfield 12, 3, 5, 2, 3, 137), (104, .getfield 85, 3, 4, 0, 0, 138), (107, .if_icmp .ge 79, 3, 0, 0, 0, 0), (110, .aload_n 0, 1, 0, 0, 0, 0), (111, .getfield 25, 3, 5, 5, 1, 146), (114, .iload 6, 2, 0, 0, 0, 0), (116, .iconst 0, 1, 0, 0, 0, 0), (117, .iastore, 1, 0, 0, 0, 0), (118, .iconst 0, 1, 0, 0, 0, 0), (119, .istore 7, 2, 0, 0, 0, 0), (121, .iload 7, 2, 0, 0, 0, 0), (123, .aload_n 0, 1, 0, 0, 0, 0), (124, .getfield 18, 3, 5, 3, 3, 141), (127, .getfield 85, 3, 4, 0, 0, 138), (130, .if_icmp .ge 50, 3, 0, 0, 0, 0), (133, .aload_n 0, 1, 0, 0, 0, 0), (134, .getfield 25, 3, 5, 5, 1, 146), (137, .iload 6, 2, 0, 0, 0, 0), (139, .dup2, 1, 0, 0, 0, 0), (140, .iaload, 1, 0, 0, 0, 0), (141, .aload_n 0, 1, 0, 0, 0, 0), (142, .getfield 12, 3, 5, 2, 3, 137), (145, .getfield 109, 3, 4, 3, 1, 147), (148, .iload 6, 2, 0, 0, 0, 0), (150, .iaload, 1, 0, 0, 0, 0), (151, .aload_n 0, 1, 0, 0, 0, 0), (152, .getfield 18, 3, 5, 3, 3, 141), (155, .getfield 109, 3, 4, 3, 1, 147), (158, .iload 7, 2, 0, 0, 0, 0), (160, .iaload, 1, 0, 0, 0, 0), (161, .if_icmp .ne 10, 3, 0, 0, 0, 0), (164, .iconst 1, 1, 0, 0, 0, 0), (165, .iload 7, 2, 0, 0, 0, 0), (167, .ishl, 1, 0, 0, 0, 0), (168, .goto 4, 3, 0, 0, 0, 0), (171, .iconst 0, 1, 0, 0, 0, 0), (172, .ior, 1, 0, 0, 0, 0), (173, .iastore, 1, 0, 0, 0, 0), (174, .iinc 7 1, 3, 0, 0, 0, 0), (177, .goto (-56), 3, 0, 0, 0, 0), (180, .iinc 6 1, 3, 0, 0, 0, 0), (183, .goto (-85), 3, 0, 0, 0, 0), (186, .aload_n 0, 1, 0, 0, 0, 0), (187, .invokevirtual 82, 3, 156, 1, 1, 116), (190, .return_, 1, 0, 0, 0, 0)]
/-- LikeTales$Search.open()V -/
def kX5_open : List (Nat × jO) := [(0, .aload_n 0, 1, 0, 0, 0, 0), (1, .iconst 0, 1, 0, 0, 0, 0), (2, .putfield 29, 3, 5, 6, 0, 148), (5, .iconst 0, 1, 0, 0, 0, 0), (6, .istore_n 1, 1, 0, 0, 0, 0), (7, .iload_n 1, 1, 0, 0, 0, 0), (8, .bipush 6, 2, 0, 0, 0, 0), (10, .if_icmp .ge 17, 3, 0, 0, 0, 0), (13, .aload_n 0, 1, 0, 0, 0, 0), (14, .getfield 63, 3, 5, 1, 1, 131), (17, .iload_n 1, 1, 0, 0, 0, 0), (18, .bipush (-2), 2, 0, 0, 0, 0), (20, .iastore, 1, 0, 0, 0, 0), (21, .iinc 1 1, 3, 0, 0, 0, 0), (24, .goto (-17), 3, 0, 0, 0, 0), (27, .return_, 1, 0, 0, 0, 0)]
/-- LikeTales$Search.place(LLikeTales$Search;II)V -/
def kX5_place : List (Nat × jO) := [(0, .iload_n 1, 1, 0, 0, 0, 0), (1, .aload_n 0, 1, 0, 0, 0, 0), (2, .getfield 12, 3, 5, 2, 3, 137), (5, .getfield 85, 3, 4, 0, 0, 138), (8, .if_icmp .ge 9, 3, 0, 0, 0, 0), (11, .iload_n 1, 1, 0, 0, 0, 0), (12, .bipush 6, 2, 0, 0, 0, 0), (14, .if_icmp .lt 8, 3, 0, 0, 0, 0), (17, .aload_n 0, 1, 0, 0, 0, 0), (18, .invokevirtual 112, 3, 160, 1, 1, 118), (21, .return_, 1, 0, 0, 0, 0), (22, .iconst 0, 1, 0, 0, 0, 0), (23, .istore_n 3, 1, 0, 0, 0, 0), (24, .iload_n 3, 1, 0, 0, 0, 0), (25, .aload_n 0, 1, 0, 0, 0, 0), (26, .getfield 18, 3, 5, 3, 3, 141), (29, .getfield 85, 3, 4, 0, 0, 138), (32, .if_icmp .ge 71, 3, 0, 0, 0, 0), (35, .aload_n 0, 1, 0, 0, 0, 0), (36, .getfield 29, 3, 5, 6, 0, 148), (39, .iload_n 3, 1, 0, 0, 0, 0), (40, .ishr, 1, 0, 0, 0, 0), (41, .iconst 1, 1, 0, 0, 0, 0), (42, .iand, 1, 0, 0, 0, 0), (43, .ifCond .ne 54, 3, 0, 0, 0, 0), (46, .aload_n 0, 1, 0, 0, 0, 0), (47, .getfield 63, 3, 5, 1, 1, 131), (50, .iload_n 1, 1, 0, 0, 0, 0), (51, .iload_n 3, 1, 0, 0, 0, 0), (52, .iastore, 1, 0, 0, 0, 0), (53, .aload_n 0, 1, 0, 0, 0, 0), (54, .dup, 1, 0, 0, 0, 0), (55, .getfield 29, 3, 5, 6, 0, 148), (58, .iconst 1, 1, 0, 0, 0, 0), (59, .iload_n 3, 1, 0, 0, 0, 0), (60, .ishl, 1, 0, 0, 0, 0), (61, .ior, 1, 0, 0, 0, 0), (62, .putfield 29, 3, 5, 6, 0, 148), (65, .aload_n 0, 1, 0, 0, 0, 0), (66, .iload_n 1, 1, 0, 0, 0, 0), (67, .iconst 1, 1, 0, 0, 0, 0), (68, .iadd, 1, 0, 0, 0, 0), (69, .invokevirtual 115, 3, 158, 2, 0, 119), (72, .ifCond .eq 11, 3, 0, 0, 0, 0), (75, .aload_n 0, 1, 0, 0, 0, 0), (76, .iload_n 1, 1, 0, 0, 0, 0), (77, .iconst 1, 1, 0, 0, 0, 0), (78, .iadd, 1, 0, 0, 0, 0), (79, .iload_n 2, 1, 0, 0, 0, 0), (80, .invokestatic 68, 3, 157, 3, 3, 114), (83, .aload_n 0, 1, 0, 0, 0, 0), (84, .dup, 1, 0, 0, 0, 0), (85, .getfield 29, 3, 5, 6, 0, 148), (88, .iconst 1, 1, 0, 0, 0, 0), (89, .iload_n 3, 1, 0, 0, 0, 0), (90, .ishl, 1, 0, 0, 0, 0), (91, .iconst (-1), 1, 0, 0, 0, 0), (92, .ixor, 1, 0, 0, 0, 0), (93, .iand, 1, 0, 0, 0, 0), (94, .putfield 29, 3, 5, 6, 0, 148), (97, .iinc 3 1, 3, 0, 0, 0, 0), (100, .goto (-76), 3, 0, 0, 0, 0), (103, .aload_n 0, 1, 0, 0, 0, 0), (104, .getfield 63, 3, 5, 1, 1, 131), (107, .iload_n 1, 1, 0, 0, 0, 0), (108, .iconst (-1), 1, 0, 0, 0, 0), (109, .iastore, 1, 0, 0, 0, 0), (110, .iload_n 2, 1, 0, 0, 0, 0), (111, .aload_n 0, 1, 0, 0, 0, 0), (112, .getfield 33, 3, 5, 7, 0, 145), (115, .if_icmp .ge 23, 3, 0, 0, 0, 0), (118, .aload_n 0, 1, 0, 0, 0, 0), (119, .iload_n 1, 1, 0, 0, 0, 0), (120, .iconst 1, 1, 0, 0, 0, 0), (121, .iadd, 1, 0, 0, 0, 0), (122, .invokevirtual 115, 3, 158, 2, 0, 119), (125, .ifCond .eq 13, 3, 0, 0, 0, 0), (128, .aload_n 0, 1, 0, 0, 0, 0), (129, .iload_n 1, 1, 0, 0, 0, 0), (130, .iconst 1, 1, 0, 0, 0, 0), (131, .iadd, 1, 0, 0, 0, 0), (132, .iload_n 2, 1, 0, 0, 0, 0), (133, .iconst 1, 1, 0, 0, 0, 0), (134, .iadd, 1, 0, 0, 0, 0), (135, .invokestatic 68, 3, 157, 3, 3, 114), (138, .aload_n 0, 1, 0, 0, 0, 0), (139, .getfield 63, 3, 5, 1, 1, 131), (142, .iload_n 1, 1, 0, 0, 0, 0), (143, .bipush (-2), 2, 0, 0, 0, 0), (145, .iastore, 1, 0, 0, 0, 0), (146, .return_, 1, 0, 0, 0, 0)]
/-- LikeTales$Search.isHopeful(I)Z -/
def kX5_isHopeful : List (Nat × jO) := [(0, .aload_n 0, 1, 0, 0, 0, 0), (1, .getfield 29, 3, 5, 6, 0, 148), (4, .invokestatic 119, 3, 181, 1, 2, 120), (7, .istore_n 2, 1, 0, 0, 0, 0), (8, .iload_n 2, 1, 0, 0, 0, 0), (9, .aload_n 0, 1, 0, 0, 0, 0), (10, .getfield 12, 3, 5, 2, 3, 137), (13, .getfield 85, 3, 4, 0, 0, 138), (16, .iload_n 1, 1, 0, 0, 0, 0), (17, .isub, 1, 0, 0, 0, 0), (18, .aload_n 0, 1, 0, 0, 0, 0), (19, .getfield 18, 3, 5, 3, 3, 141), (22, .getfield 85, 3, 4, 0, 0, 138), (25, .iload_n 2, 1, 0, 0, 0, 0), (26, .isub, 1, 0, 0, 0, 0), (27, .invokestatic 125, 3, 0, 2, 5, 6), (30, .iadd, 1, 0, 0, 0, 0), (31, .istore_n 2, 1, 0, 0, 0, 0), (32, .aload_n 0, 1, 0, 0, 0, 0), (33, .getfield 54, 3, 5, 0, 1, 132), (36, .aload_n 0, 1, 0, 0, 0, 0), (37, .getfield 29, 3, 5, 6, 0, 148), (40, .invokevirtual 128, 3, 116, 2, 0, 121), (43, .aload_n 0, 1, 0, 0, 0, 0), (44, .iload_n 1, 1, 0, 0, 0, 0), (45, .invokevirtual 131, 3, 159, 2, 0, 122), (48, .iadd, 1, 0, 0, 0, 0), (49, .istore_n 3, 1, 0, 0, 0, 0), (50, .aload_n 0, 1, 0, 0, 0, 0), (51, .getfield 45, 3, 5, 11, 4, 134), (54, .ifCond .eq 44, 3, 0, 0, 0, 0), (57, .aload_n 0, 1, 0, 0, 0, 0), (58, .getfield 51, 3, 5, 13, 0, 136), (61, .iconst (-1), 1, 0, 0, 0, 0), (62, .if_icmp .eq 14, 3, 0, 0, 0, 0), (65, .aload_n 0, 1, 0, 0, 0, 0), (66, .getfield 48, 3, 5, 12, 0, 135), (69, .aload_n 0, 1, 0, 0, 0, 0), (70, .getfield 51, 3, 5, 13, 0, 136), (73, .if_icmp .gt 23, 3, 0, 0, 0, 0), (76, .iload_n 3, 1, 0, 0, 0, 0), (77, .aload_n 0, 1, 0, 0, 0, 0), (78, .getfield 36, 3, 5, 8, 0, 133), (81, .if_icmp .lt 15, 3, 0, 0, 0, 0), (84, .iload_n 2, 1, 0, 0, 0, 0), (85, .aload_n 0, 1, 0, 0, 0, 0), (86, .getfield 39, 3, 5, 9, 0, 140), (89, .if_icmp .lt 7, 3, 0, 0, 0, 0), (92, .iconst 1, 1, 0, 0, 0, 0), (93, .goto 4, 3, 0, 0, 0, 0), (96, .iconst 0, 1, 0, 0, 0, 0), (97, .ireturn, 1, 1, 0, 0, 0), (98, .iload_n 3, 1, 0, 0, 0, 0), (99, .aload_n 0, 1, 0, 0, 0, 0), (100, .getfield 36, 3, 5, 8, 0, 133), (103, .if_icmp .gt 19, 3, 0, 0, 0, 0), (106, .iload_n 3, 1, 0, 0, 0, 0), (107, .aload_n 0, 1, 0, 0, 0, 0), (108, .getfield 36, 3, 5, 8, 0, 133), (111, .if_icmp .ne 15, 3, 0, 0, 0, 0), (114, .iload_n 2, 1, 0, 0, 0, 0), (115, .aload_n 0, 1, 0, 0, 0, 0), (116, .getfield 39, 3, 5, 9, 0, 140), (119, .if_icmp .le 7, 3, 0, 0, 0, 0), (122, .iconst 1, 1, 0, 0, 0, 0), (123, .goto 4, 3, 0, 0, 0, 0), (126, .iconst 0, 1, 0, 0, 0, 0), (127, .ireturn, 1, 1, 0, 0, 0)]
/-- LikeTales$Search.sortHope(I)I -/
def kX5_sortHope : List (Nat × jO) := [(0, .aload_n 0, 1, 0, 0, 0, 0), (1, .getfield 21, 3, 5, 4, 4, 142), (4, .ifCond .ne 5, 3, 0, 0, 0, 0), (7, .iconst 0, 1, 0, 0, 0, 0), (8, .ireturn, 1, 0, 0, 0, 0), (9, .iconst 0, 1, 0, 0, 0, 0), (10, .istore_n 2, 1, 0, 0, 0, 0), (11, .aload_n 0, 1, 0, 0, 0, 0), (12, .getfield 29, 3, 5, 6, 0, 148), (15, .iconst (-1), 1, 0, 0, 0, 0), (16, .ixor, 1, 0, 0, 0, 0), (17, .istore_n 3, 1, 0, 0, 0, 0), (18, .iconst 0, 1, 0, 0, 0, 0), (19, .istore 4, 2, 0, 0, 0, 0), (21, .iload 4, 2, 0, 0, 0, 0), (23, .aload_n 0, 1, 0, 0, 0, 0), (24, .getfield 12, 3, 5, 2, 3, 137), (27, .getfield 85, 3, 4, 0, 0, 138), (30, .if_icmp .ge 87, 3, 0, 0, 0, 0), (33, .iload 4, 2, 0, 0, 0, 0), (35, .iload_n 1, 1, 0, 0, 0, 0), (36, .if_icmp .ge 40, 3, 0, 0, 0, 0), (39, .iload_n 2, 1, 0, 0, 0, 0), (40, .aload_n 0, 1, 0, 0, 0, 0), (41, .getfield 63, 3, 5, 1, 1, 131), (44, .iload 4, 2, 0, 0, 0, 0), (46, .iaload, 1, 0, 0, 0, 0), (47, .ifCond .lt 23, 3, 0, 0, 0, 0), (50, .aload_n 0, 1, 0, 0, 0, 0), (51, .getfield 25, 3, 5, 5, 1, 146), (54, .iload 4, 2, 0, 0, 0, 0), (56, .iaload, 1, 0, 0, 0, 0), (57, .aload_n 0, 1, 0, 0, 0, 0), (58, .getfield 63, 3, 5, 1, 1, 131), (61, .iload 4, 2, 0, 0, 0, 0), (63, .iaload, 1, 0, 0, 0, 0), (64, .ishr, 1, 0, 0, 0, 0), (65, .iconst 1, 1, 0, 0, 0, 0), (66, .iand, 1, 0, 0, 0, 0), (67, .goto 4, 3, 0, 0, 0, 0), (70, .iconst 0, 1, 0, 0, 0, 0), (71, .iadd, 1, 0, 0, 0, 0), (72, .istore_n 2, 1, 0, 0, 0, 0), (73, .goto 38, 3, 0, 0, 0, 0), (76, .aload_n 0, 1, 0, 0, 0, 0), (77, .getfield 25, 3, 5, 5, 1, 146), (80, .iload 4, 2, 0, 0, 0, 0), (82, .iaload, 1, 0, 0, 0, 0), (83, .iload_n 3, 1, 0, 0, 0, 0), (84, .iand, 1, 0, 0, 0, 0), (85, .istore 5, 2, 0, 0, 0, 0), (87, .iload_n 2, 1, 0, 0, 0, 0), (88, .iload 5, 2, 0, 0, 0, 0), (90, .ifCond .eq 7, 3, 0, 0, 0, 0), (93, .iconst 1, 1, 0, 0, 0, 0), (94, .goto 4, 3, 0, 0, 0, 0), (97, .iconst 0, 1, 0, 0, 0, 0), (98, .iadd, 1, 0, 0, 0, 0), (99, .istore_n 2, 1, 0, 0, 0, 0), (100, .iload_n 3, 1, 0, 0, 0, 0), (101, .iload 5, 2, 0, 0, 0, 0), (103, .iload 5, 2, 0, 0, 0, 0), (105, .ineg, 1, 0, 0, 0, 0), (106, .iand, 1, 0, 0, 0, 0), (107, .iconst (-1), 1, 0, 0, 0, 0), (108, .ixor, 1, 0, 0, 0, 0), (109, .iand, 1, 0, 0, 0, 0), (110, .istore_n 3, 1, 0, 0, 0, 0), (111, .iinc 4 1, 3, 0, 0, 0, 0), (114, .goto (-93), 3, 0, 0, 0, 0), (117, .iload_n 2, 1, 0, 0, 0, 0), (118, .ireturn, 1, 0, 0, 0, 0)]
/-- LikeTales$Search.arrive()V -/
def kX5_arrive : List (Nat × jO) := [(0, .aload_n 0, 1, 0, 0, 0, 0), (1, .getfield 54, 3, 5, 0, 1, 132), (4, .invokevirtual 78, 3, 115, 1, 0, 115), (7, .aload_n 0, 1, 0, 0, 0, 0), (8, .aload_n 0, 1, 0, 0, 0, 0), (9, .getfield 12, 3, 5, 2, 3, 137), (12, .getfield 85, 3, 4, 0, 0, 138), (15, .invokevirtual 131, 3, 159, 2, 0, 122), (18, .iadd, 1, 0, 0, 0, 0), (19, .istore_n 1, 1, 0, 0, 0, 0), (20, .aload_n 0, 1, 0, 0, 0, 0), (21, .getfield 29, 3, 5, 6, 0, 148), (24, .invokestatic 119, 3, 181, 1, 2, 120), (27, .istore_n 2, 1, 0, 0, 0, 0), (28, .aload_n 0, 1, 0, 0, 0, 0), (29, .getfield 45, 3, 5, 11, 4, 134), (32, .ifCond .eq 55, 3, 0, 0, 0, 0), (35, .iload_n 1, 1, 0, 0, 0, 0), (36, .aload_n 0, 1, 0, 0, 0, 0), (37, .getfield 36, 3, 5, 8, 0, 133), (40, .if_icmp .ne 85, 3, 0, 0, 0, 0), (43, .iload_n 2, 1, 0, 0, 0, 0), (44, .aload_n 0, 1, 0, 0, 0, 0), (45, .getfield 39, 3, 5, 9, 0, 140), (48, .if_icmp .ne 77, 3, 0, 0, 0, 0), (51, .aload_n 0, 1, 0, 0, 0, 0), (52, .getfield 51, 3, 5, 13, 0, 136), (55, .iconst (-1), 1, 0, 0, 0, 0), (56, .if_icmp .eq 14, 3, 0, 0, 0, 0), (59, .aload_n 0, 1, 0, 0, 0, 0), (60, .getfield 48, 3, 5, 12, 0, 135), (63, .aload_n 0, 1, 0, 0, 0, 0), (64, .getfield 51, 3, 5, 13, 0, 136), (67, .if_icmp .gt 58, 3, 0, 0, 0, 0), (70, .aload_n 0, 1, 0, 0, 0, 0), (71, .dup, 1, 0, 0, 0, 0), (72, .getfield 48, 3, 5, 12, 0, 135), (75, .iconst 1, 1, 0, 0, 0, 0), (76, .iadd, 1, 0, 0, 0, 0), (77, .putfield 48, 3, 5, 12, 0, 135), (80, .aload_n 0, 1, 0, 0, 0, 0), (81, .invokevirtual 134, 3, 161, 1, 1, 123), (84, .goto 41, 3, 0, 0, 0, 0), (87, .iload_n 1, 1, 0, 0, 0, 0), (88, .aload_n 0, 1, 0, 0, 0, 0), (89, .getfield 36, 3, 5, 8, 0, 133), (92, .if_icmp .gt 19, 3, 0, 0, 0, 0), (95, .iload_n 1, 1, 0, 0, 0, 0), (96, .aload_n 0, 1, 0, 0, 0, 0), (97, .getfield 36, 3, 5, 8, 0, 133), (100, .if_icmp .ne 25, 3, 0, 0, 0, 0), (103, .iload_n 2, 1, 0, 0, 0, 0), (104, .aload_n 0, 1, 0, 0, 0, 0), (105, .getfield 39, 3, 5, 9, 0, 140), (108, .if_icmp .le 17, 3, 0, 0, 0, 0), (111, .aload_n 0, 1, 0, 0, 0, 0), (112, .iload_n 1, 1, 0, 0, 0, 0), (113, .putfield 36, 3, 5, 8, 0, 133), (116, .aload_n 0, 1, 0, 0, 0, 0), (117, .iload_n 2, 1, 0, 0, 0, 0), (118, .putfield 39, 3, 5, 9, 0, 140), (121, .aload_n 0, 1, 0, 0, 0, 0), (122, .invokevirtual 134, 3, 161, 1, 1, 123), (125, .return_, 1, 0, 0, 0, 0)]
/-- LikeTales$Search.keepPartners()V -/
def kX5_keepPartners : List (Nat × jO) := [(0, .aload_n 0, 1, 0, 0, 0, 0), (1, .getfield 63, 3, 5, 1, 1, 131), (4, .iconst 0, 1, 0, 0, 0, 0), (5, .aload_n 0, 1, 0, 0, 0, 0), (6, .getfield 42, 3, 5, 10, 1, 130), (9, .iconst 0, 1, 0, 0, 0, 0), (10, .bipush 6, 2, 0, 0, 0, 0), (12, .invokestatic 72, 3, 0, 5, 6, 4), (15, .return_, 1, 0, 0, 0, 0)]
/-- LikeTales$Seeker.likest(IZ)I -/
def kX6_likest : List (Nat × jO) := [(0, .iconst 0, 1, 0, 0, 0, 0), (1, .istore_n 3, 1, 0, 0, 0, 0), (2, .iload_n 3, 1, 0, 0, 0, 0), (3, .bipush 12, 2, 0, 0, 0, 0), (5, .if_icmp .ge 63, 3, 0, 0, 0, 0), (8, .iload_n 3, 1, 0, 0, 0, 0), (9, .iload_n 1, 1, 0, 0, 0, 0), (10, .if_icmp .eq 19, 3, 0, 0, 0, 0), (13, .aload_n 0, 1, 0, 0, 0, 0), (14, .getfield 22, 3, 6, 0, 1, 149), (17, .iload_n 3, 1, 0, 0, 0, 0), (18, .aaload, 1, 0, 0, 0, 0), (19, .getfield 30, 3, 4, 1, 0, 150), (22, .ifCond .le 7, 3, 0, 0, 0, 0), (25, .iconst 1, 1, 0, 0, 0, 0), (26, .goto 4, 3, 0, 0, 0, 0), (29, .iconst 0, 1, 0, 0, 0, 0), (30, .istore 4, 2, 0, 0, 0, 0), (32, .aload_n 0, 1, 0, 0, 0, 0), (33, .getfield 9, 3, 6, 2, 1, 151), (36, .iload_n 3, 1, 0, 0, 0, 0), (37, .iload 4, 2, 0, 0, 0, 0), (39, .ifCond .eq 21, 3, 0, 0, 0, 0), (42, .aload_n 0, 1, 0, 0, 0, 0), (43, .getfield 22, 3, 6, 0, 1, 149), (46, .iload_n 1, 1, 0, 0, 0, 0), (47, .aaload, 1, 0, 0, 0, 0), (48, .aload_n 0, 1, 0, 0, 0, 0), (49, .getfield 22, 3, 6, 0, 1, 149), (52, .iload_n 3, 1, 0, 0, 0, 0), (53, .aaload, 1, 0, 0, 0, 0), (54, .invokestatic 35, 3, 164, 2, 2, 124), (57, .goto 4, 3, 0, 0, 0, 0), (60, .iconst (-1), 1, 0, 0, 0, 0), (61, .iastore, 1, 0, 0, 0, 0), (62, .iinc 3 1, 3, 0, 0, 0, 0), (65, .goto (-63), 3, 0, 0, 0, 0), (68, .aload_n 0, 1, 0, 0, 0, 0), (69, .iconst 0, 1, 0, 0, 0, 0), (70, .putfield 15, 3, 6, 3, 0, 152), (73, .aload_n 0, 1, 0, 0, 0, 0), (74, .iconst (-1), 1, 0, 0, 0, 0), (75, .putfield 19, 3, 6, 4, 0, 153), (78, .iconst (-1), 1, 0, 0, 0, 0), (79, .istore_n 3, 1, 0, 0, 0, 0), (80, .iconst 0, 1, 0, 0, 0, 0), (81, .istore 4, 2, 0, 0, 0, 0), (83, .iload 4, 2, 0, 0, 0, 0), (85, .bipush 12, 2, 0, 0, 0, 0), (87, .if_icmp .ge 133, 3, 0, 0, 0, 0), (90, .aload_n 0, 1, 0, 0, 0, 0), (91, .invokevirtual 39, 3, 163, 1, 0, 125), (94, .istore 5, 2, 0, 0, 0, 0), (96, .iload 5, 2, 0, 0, 0, 0), (98, .iconst (-1), 1, 0, 0, 0, 0), (99, .if_icmp .eq 121, 3, 0, 0, 0, 0), (102, .aload_n 0, 1, 0, 0, 0, 0), (103, .getfield 9, 3, 6, 2, 1, 151), (106, .iload 5, 2, 0, 0, 0, 0), (108, .iaload, 1, 0, 0, 0, 0), (109, .aload_n 0, 1, 0, 0, 0, 0), (110, .getfield 19, 3, 6, 4, 0, 153), (113, .if_icmp .lt 107, 3, 0, 0, 0, 0), (116, .aload_n 0, 1, 0, 0, 0, 0), (117, .getfield 9, 3, 6, 2, 1, 151), (120, .iload 5, 2, 0, 0, 0, 0), (122, .iaload, 1, 0, 0, 0, 0), (123, .aload_n 0, 1, 0, 0, 0, 0), (124, .getfield 19, 3, 6, 4, 0, 153), (127, .if_icmp .ne 12, 3, 0, 0, 0, 0), (130, .iload 5, 2, 0, 0, 0, 0), (132, .iload_n 3, 1, 0, 0, 0, 0), (133, .if_icmp .le 6, 3, 0, 0, 0, 0), (136, .goto 84, 3, 0, 0, 0, 0), (139, .aload_n 0, 1, 0, 0, 0, 0), (140, .getfield 9, 3, 6, 2, 1, 151), (143, .iload 5, 2, 0, 0, 0, 0), (145, .iconst (-1), 1, 0, 0, 0, 0), (146, .iastore, 1, 0, 0, 0, 0), (147, .aload_n 0, 1, 0, 0, 0, 0), (148, .dup, 1, 0, 0, 0, 0), (149, .getfield 15, 3, 6, 3, 0, 152), (152, .iconst 1, 1, 0, 0, 0, 0), (153, .iadd, 1, 0, 0, 0, 0), (154, .putfield 15, 3, 6, 3, 0, 152), (157, .aload_n 0, 1, 0, 0, 0, 0), (158, .getfield 26, 3, 6, 1, 1, 154), (161, .aload_n 0, 1, 0, 0, 0, 0), (162, .getfield 22, 3, 6, 0, 1, 149), (165, .iload_n 1, 1, 0, 0, 0, 0), (166, .aaload, 1, 0, 0, 0, 0), (167, .aload_n 0, 1, 0, 0, 0, 0), (168, .getfield 22, 3, 6, 0, 1, 149), (171, .iload 5, 2, 0, 0, 0, 0), (173, .aaload, 1, 0, 0, 0, 0), (174, .iconst 0, 1, 0, 0, 0, 0), (175, .iload_n 2, 1, 0, 0, 0, 0), (176, .invokevirtual 43, 3, 150, 5, 0, 126), (179, .istore 6, 2, 0, 0, 0, 0), (181, .iload 6, 2, 0, 0, 0, 0), (183, .aload_n 0, 1, 0, 0, 0, 0), (184, .getfield 19, 3, 6, 4, 0, 153), (187, .if_icmp .gt 18, 3, 0, 0, 0, 0), (190, .iload 6, 2, 0, 0, 0, 0), (192, .aload_n 0, 1, 0, 0, 0, 0), (193, .getfield 19, 3, 6, 4, 0, 153), (196, .if_icmp .ne 18, 3, 0, 0, 0, 0), (199, .iload 5, 2, 0, 0, 0, 0), (201, .iload_n 3, 1, 0, 0, 0, 0), (202, .if_icmp .ge 12, 3, 0, 0, 0, 0), (205, .aload_n 0, 1, 0, 0, 0, 0), (206, .iload 6, 2, 0, 0, 0, 0), (208, .putfield 19, 3, 6, 4, 0, 153), (211, .iload 5, 2, 0, 0, 0, 0), (213, .istore_n 3, 1, 0, 0, 0, 0), (214, .iinc 4 1, 3, 0, 0, 0, 0), (217, .goto (-134), 3, 0, 0, 0, 0), (220, .iload_n 3, 1, 0, 0, 0, 0), (221, .ireturn, 1, 0, 0, 0, 0)]
/-- LikeTales$Seeker.greatestBound()I -/
def kX6_greatestBound : List (Nat × jO) := [(0, .iconst (-1), 1, 0, 0, 0, 0), (1, .istore_n 1, 1, 0, 0, 0, 0), (2, .iconst 0, 1, 0, 0, 0, 0), (3, .istore_n 2, 1, 0, 0, 0, 0), (4, .iload_n 2, 1, 0, 0, 0, 0), (5, .bipush 12, 2, 0, 0, 0, 0), (7, .if_icmp .ge 41, 3, 0, 0, 0, 0), (10, .aload_n 0, 1, 0, 0, 0, 0), (11, .getfield 9, 3, 6, 2, 1, 151), (14, .iload_n 2, 1, 0, 0, 0, 0), (15, .iaload, 1, 0, 0, 0, 0), (16, .iconst (-1), 1, 0, 0, 0, 0), (17, .if_icmp .eq 25, 3, 0, 0, 0, 0), (20, .iload_n 1, 1, 0, 0, 0, 0), (21, .iconst (-1), 1, 0, 0, 0, 0), (22, .if_icmp .eq 18, 3, 0, 0, 0, 0), (25, .aload_n 0, 1, 0, 0, 0, 0), (26, .getfield 9, 3, 6, 2, 1, 151), (29, .iload_n 2, 1, 0, 0, 0, 0), (30, .iaload, 1, 0, 0, 0, 0), (31, .aload_n 0, 1, 0, 0, 0, 0), (32, .getfield 9, 3, 6, 2, 1, 151), (35, .iload_n 1, 1, 0, 0, 0, 0), (36, .iaload, 1, 0, 0, 0, 0), (37, .if_icmp .le 5, 3, 0, 0, 0, 0), (40, .iload_n 2, 1, 0, 0, 0, 0), (41, .istore_n 1, 1, 0, 0, 0, 0), (42, .iinc 2 1, 3, 0, 0, 0, 0), (45, .goto (-41), 3, 0, 0, 0, 0), (48, .iload_n 1, 1, 0, 0, 0, 0), (49, .ireturn, 1, 0, 0, 0, 0)]
/-- LikeTales$Seeker.boundOf(LLikeTales$Net;LLikeTales$Net;)I -/
def kX6_boundOf : List (Nat × jO) := [(0, .iconst 0, 1, 0, 0, 0, 0), (1, .istore_n 2, 1, 0, 0, 0, 0), (2, .iconst 0, 1, 0, 0, 0, 0), (3, .istore_n 3, 1, 0, 0, 0, 0), (4, .iload_n 3, 1, 0, 0, 0, 0), (5, .bipush 16, 2, 0, 0, 0, 0), (7, .if_icmp .ge 87, 3, 0, 0, 0, 0), (10, .iconst 0, 1, 0, 0, 0, 0), (11, .istore 4, 2, 0, 0, 0, 0), (13, .iconst 0, 1, 0, 0, 0, 0), (14, .istore 5, 2, 0, 0, 0, 0), (16, .iload 5, 2, 0, 0, 0, 0), (18, .aload_n 0, 1, 0, 0, 0, 0), (19, .getfield 30, 3, 4, 1, 0, 150), (22, .if_icmp .ge 39, 3, 0, 0, 0, 0), (25, .aload_n 0, 1, 0, 0, 0, 0), (26, .getfield 49, 3, 4, 4, 1, 155), (29, .iload 5, 2, 0, 0, 0, 0), (31, .iaload, 1, 0, 0, 0, 0), (32, .iload_n 3, 1, 0, 0, 0, 0), (33, .if_icmp .ne 18, 3, 0, 0, 0, 0), (36, .iload 4, 2, 0, 0, 0, 0), (38, .aload_n 0, 1, 0, 0, 0, 0), (39, .getfield 52, 3, 4, 7, 1, 156), (42, .iload 5, 2, 0, 0, 0, 0), (44, .iaload, 1, 0, 0, 0, 0), (45, .invokestatic 55, 3, 0, 2, 4, 7), (48, .goto 5, 3, 0, 0, 0, 0), (51, .iload 4, 2, 0, 0, 0, 0), (53, .istore 4, 2, 0, 0, 0, 0), (55, .iinc 5 1, 3, 0, 0, 0, 0), (58, .goto (-42), 3, 0, 0, 0, 0), (61, .iload 4, 2, 0, 0, 0, 0), (63, .ifCond .le 25, 3, 0, 0, 0, 0), (66, .iload_n 2, 1, 0, 0, 0, 0), (67, .aload_n 0, 1, 0, 0, 0, 0), (68, .iload_n 3, 1, 0, 0, 0, 0), (69, .invokevirtual 61, 3, 148, 2, 0, 127), (72, .aload_n 1, 1, 0, 0, 0, 0), (73, .iload_n 3, 1, 0, 0, 0, 0), (74, .invokevirtual 61, 3, 148, 2, 0, 127), (77, .invokestatic 65, 3, 0, 2, 5, 8), (80, .bipush 6, 2, 0, 0, 0, 0), (82, .imul, 1, 0, 0, 0, 0), (83, .iload 4, 2, 0, 0, 0, 0), (85, .imul, 1, 0, 0, 0, 0), (86, .iadd, 1, 0, 0, 0, 0), (87, .istore_n 2, 1, 0, 0, 0, 0), (88, .iinc 3 1, 3, 0, 0, 0, 0), (91, .goto (-87), 3, 0, 0, 0, 0), (94, .iconst 0, 1, 0, 0, 0, 0), (95, .istore_n 3, 1, 0, 0, 0, 0), (96, .iload_n 3, 1, 0, 0, 0, 0), (97, .bipush 10, 2, 0, 0, 0, 0), (99, .if_icmp .ge 25, 3, 0, 0, 0, 0), (102, .iload_n 2, 1, 0, 0, 0, 0), (103, .aload_n 0, 1, 0, 0, 0, 0), (104, .iload_n 3, 1, 0, 0, 0, 0), (105, .invokestatic 68, 3, 165, 2, 2, 128), (108, .aload_n 1, 1, 0, 0, 0, 0), (109, .iload_n 3, 1, 0, 0, 0, 0), (110, .invokestatic 68, 3, 165, 2, 2, 128), (113, .invokestatic 65, 3, 0, 2, 5, 8), (116, .iadd, 1, 0, 0, 0, 0), (117, .istore_n 2, 1, 0, 0, 0, 0), (118, .iinc 3 1, 3, 0, 0, 0, 0), (121, .goto (-25), 3, 0, 0, 0, 0), (124, .iload_n 2, 1, 0, 0, 0, 0), (125, .ireturn, 1, 0, 0, 0, 0)]
/-- LikeTales$Seeker.countOfSort(LLikeTales$Net;I)I -/
def kX6_countOfSort : List (Nat × jO) := [(0, .iconst 0, 1, 0, 0, 0, 0), (1, .istore_n 2, 1, 0, 0, 0, 0), (2, .iconst 0, 1, 0, 0, 0, 0), (3, .istore_n 3, 1, 0, 0, 0, 0), (4, .iload_n 3, 1, 0, 0, 0, 0), (5, .aload_n 0, 1, 0, 0, 0, 0), (6, .getfield 72, 3, 4, 0, 0, 157), (9, .if_icmp .ge 27, 3, 0, 0, 0, 0), (12, .iload_n 2, 1, 0, 0, 0, 0), (13, .aload_n 0, 1, 0, 0, 0, 0), (14, .getfield 75, 3, 4, 3, 1, 158), (17, .iload_n 3, 1, 0, 0, 0, 0), (18, .iaload, 1, 0, 0, 0, 0), (19, .iload_n 1, 1, 0, 0, 0, 0), (20, .if_icmp .ne 7, 3, 0, 0, 0, 0), (23, .iconst 1, 1, 0, 0, 0, 0), (24, .goto 4, 3, 0, 0, 0, 0), (27, .iconst 0, 1, 0, 0, 0, 0), (28, .iadd, 1, 0, 0, 0, 0), (29, .istore_n 2, 1, 0, 0, 0, 0), (30, .iinc 3 1, 3, 0, 0, 0, 0), (33, .goto (-29), 3, 0, 0, 0, 0), (36, .iload_n 2, 1, 0, 0, 0, 0), (37, .ireturn, 1, 0, 0, 0, 0)]
/-- LikeTales$Timing.take(LLikeTales$Net;LLikeTales$Net;Z)V -/
def kX7_take : List (Nat × jO) := [(0, .aload_n 0, 1, 0, 0, 0, 0), (1, .aload_n 1, 1, 0, 0, 0, 0), (2, .putfield 12, 3, 7, 0, 3, 159), (5, .aload_n 0, 1, 0, 0, 0, 0), (6, .aload_n 2, 1, 0, 0, 0, 0), (7, .putfield 18, 3, 7, 1, 3, 160), (10, .aload_n 0, 1, 0, 0, 0, 0), (11, .iload_n 3, 1, 0, 0, 0, 0), (12, .ifCond .eq 29, 3, 0, 0, 0, 0), (15, .aload_n 0, 1, 0, 0, 0, 0), (16, .getfield 12, 3, 7, 0, 3, 159), (19, .invokevirtual 42, 3, 149, 1, 0, 129), (22, .iconst 1, 1, 0, 0, 0, 0), (23, .if_icmp .le 18, 3, 0, 0, 0, 0), (26, .aload_n 0, 1, 0, 0, 0, 0), (27, .getfield 18, 3, 7, 1, 3, 160), (30, .invokevirtual 42, 3, 149, 1, 0, 129), (33, .iconst 1, 1, 0, 0, 0, 0), (34, .if_icmp .le 7, 3, 0, 0, 0, 0), (37, .iconst 1, 1, 0, 0, 0, 0), (38, .goto 4, 3, 0, 0, 0, 0), (41, .iconst 0, 1, 0, 0, 0, 0), (42, .putfield 21, 3, 7, 2, 4, 161), (45, .aload_n 0, 1, 0, 0, 0, 0), (46, .iconst 0, 1, 0, 0, 0, 0), (47, .putfield 32, 3, 7, 5, 0, 162), (50, .iconst 0, 1, 0, 0, 0, 0), (51, .istore 4, 2, 0, 0, 0, 0), (53, .iload 4, 2, 0, 0, 0, 0), (55, .bipush 10, 2, 0, 0, 0, 0), (57, .if_icmp .ge 98, 3, 0, 0, 0, 0), (60, .aload_n 0, 1, 0, 0, 0, 0), (61, .getfield 29, 3, 7, 4, 1, 163), (64, .iload 4, 2, 0, 0, 0, 0), (66, .aload_n 0, 1, 0, 0, 0, 0), (67, .getfield 32, 3, 7, 5, 0, 162), (70, .iastore, 1, 0, 0, 0, 0), (71, .aload_n 0, 1, 0, 0, 0, 0), (72, .getfield 25, 3, 7, 3, 1, 164), (75, .iload 4, 2, 0, 0, 0, 0), (77, .iconst 0, 1, 0, 0, 0, 0), (78, .iastore, 1, 0, 0, 0, 0), (79, .iconst 0, 1, 0, 0, 0, 0), (80, .istore 5, 2, 0, 0, 0, 0), (82, .iload 5, 2, 0, 0, 0, 0), (84, .aload_n 0, 1, 0, 0, 0, 0), (85, .getfield 18, 3, 7, 1, 3, 160), (88, .getfield 46, 3, 4, 1, 0, 165), (91, .if_icmp .ge 42, 3, 0, 0, 0, 0), (94, .aload_n 0, 1, 0, 0, 0, 0), (95, .getfield 25, 3, 7, 3, 1, 164), (98, .iload 4, 2, 0, 0, 0, 0), (100, .dup2, 1, 0, 0, 0, 0), (101, .iaload, 1, 0, 0, 0, 0), (102, .aload_n 0, 1, 0, 0, 0, 0), (103, .getfield 18, 3, 7, 1, 3, 160), (106, .getfield 49, 3, 4, 6, 1, 166), (109, .iload 5, 2, 0, 0, 0, 0), (111, .iaload, 1, 0, 0, 0, 0), (112, .iload 4, 2, 0, 0, 0, 0), (114, .if_icmp .ne 10, 3, 0, 0, 0, 0), (117, .iconst 1, 1, 0, 0, 0, 0), (118, .iload 5, 2, 0, 0, 0, 0), (120, .ishl, 1, 0, 0, 0, 0), (121, .goto 4, 3, 0, 0, 0, 0), (124, .iconst 0, 1, 0, 0, 0, 0), (125, .ior, 1, 0, 0, 0, 0), (126, .iastore, 1, 0, 0, 0, 0), (127, .iinc 5 1, 3, 0, 0, 0, 0), (130, .goto (-48), 3, 0, 0, 0, 0), (133, .aload_n 0, 1, 0, 0, 0, 0), (134, .dup, 1, 0, 0, 0, 0), (135, .getfield 32, 3, 7, 5, 0, 162), (138, .aload_n 0, 1, 0, 0, 0, 0), (139, .getfield 25, 3, 7, 3, 1, 164), (142, .iload 4, 2, 0, 0, 0, 0), (144, .iaload, 1, 0, 0, 0, 0), (145, .ior, 1, 0, 0, 0, 0), (146, .putfield 32, 3, 7, 5, 0, 162), (149, .iinc 4 1, 3, 0, 0, 0, 0), (152, .goto (-99), 3, 0, 0, 0, 0), (155, .return_, 1, 0, 0, 0, 0)]
/-- LikeTales$Timing.inStep(II[I)I -/
def kX7_inStep : List (Nat × jO) := [(0, .iload_n 2, 1, 0, 0, 0, 0), (1, .istore 4, 2, 0, 0, 0, 0), (3, .iconst 0, 1, 0, 0, 0, 0), (4, .istore 5, 2, 0, 0, 0, 0), (6, .iload 5, 2, 0, 0, 0, 0), (8, .iload_n 1, 1, 0, 0, 0, 0), (9, .if_icmp .ge 47, 3, 0, 0, 0, 0), (12, .iload 5, 2, 0, 0, 0, 0), (14, .aload_n 3, 1, 0, 0, 0, 0), (15, .arraylength, 1, 0, 0, 0, 0), (16, .if_icmp .ge 40, 3, 0, 0, 0, 0), (19, .iload 4, 2, 0, 0, 0, 0), (21, .ifCond .eq 35, 3, 0, 0, 0, 0), (24, .aload_n 3, 1, 0, 0, 0, 0), (25, .iload 5, 2, 0, 0, 0, 0), (27, .iaload, 1, 0, 0, 0, 0), (28, .iconst (-1), 1, 0, 0, 0, 0), (29, .if_icmp .eq 21, 3, 0, 0, 0, 0), (32, .iload 4, 2, 0, 0, 0, 0), (34, .aload_n 0, 1, 0, 0, 0, 0), (35, .iload_n 1, 1, 0, 0, 0, 0), (36, .iload 5, 2, 0, 0, 0, 0), (38, .aload_n 3, 1, 0, 0, 0, 0), (39, .iload 5, 2, 0, 0, 0, 0), (41, .iaload, 1, 0, 0, 0, 0), (42, .invokevirtual 52, 3, 168, 4, 0, 130), (45, .iconst (-1), 1, 0, 0, 0, 0), (46, .ixor, 1, 0, 0, 0, 0), (47, .iand, 1, 0, 0, 0, 0), (48, .istore 4, 2, 0, 0, 0, 0), (50, .iinc 5 1, 3, 0, 0, 0, 0), (53, .goto (-47), 3, 0, 0, 0, 0), (56, .iload 4, 2, 0, 0, 0, 0), (58, .ireturn, 1, 0, 0, 0, 0)]
/-- LikeTales$Timing.outOfStep(III)I -/
def kX7_outOfStep : List (Nat × jO) := [(0, .aload_n 0, 1, 0, 0, 0, 0), (1, .getfield 12, 3, 7, 0, 3, 159), (4, .getfield 49, 3, 4, 6, 1, 166), (7, .iload_n 1, 1, 0, 0, 0, 0), (8, .iaload, 1, 0, 0, 0, 0), (9, .istore 4, 2, 0, 0, 0, 0), (11, .aload_n 0, 1, 0, 0, 0, 0), (12, .getfield 12, 3, 7, 0, 3, 159), (15, .getfield 49, 3, 4, 6, 1, 166), (18, .iload_n 2, 1, 0, 0, 0, 0), (19, .iaload, 1, 0, 0, 0, 0), (20, .istore 5, 2, 0, 0, 0, 0), (22, .aload_n 0, 1, 0, 0, 0, 0), (23, .getfield 18, 3, 7, 1, 3, 160), (26, .getfield 49, 3, 4, 6, 1, 166), (29, .iload_n 3, 1, 0, 0, 0, 0), (30, .iaload, 1, 0, 0, 0, 0), (31, .istore 6, 2, 0, 0, 0, 0), (33, .iload 4, 2, 0, 0, 0, 0), (35, .iconst (-1), 1, 0, 0, 0, 0), (36, .if_icmp .eq 15, 3, 0, 0, 0, 0), (39, .iload 5, 2, 0, 0, 0, 0), (41, .iconst (-1), 1, 0, 0, 0, 0), (42, .if_icmp .eq 9, 3, 0, 0, 0, 0), (45, .iload 6, 2, 0, 0, 0, 0), (47, .iconst (-1), 1, 0, 0, 0, 0), (48, .if_icmp .ne 5, 3, 0, 0, 0, 0), (51, .iconst 0, 1, 0, 0, 0, 0), (52, .ireturn, 1, 0, 0, 0, 0), (53, .iload 4, 2, 0, 0, 0, 0), (55, .iload 5, 2, 0, 0, 0, 0), (57, .if_icmp .ne 18, 3, 0, 0, 0, 0), (60, .aload_n 0, 1, 0, 0, 0, 0), (61, .getfield 32, 3, 7, 5, 0, 162), (64, .aload_n 0, 1, 0, 0, 0, 0), (65, .getfield 25, 3, 7, 3, 1, 164), (68, .iload 6, 2, 0, 0, 0, 0), (70, .iaload, 1, 0, 0, 0, 0), (71, .iconst (-1), 1, 0, 0, 0, 0), (72, .ixor, 1, 0, 0, 0, 0), (73, .iand, 1, 0, 0, 0, 0), (74, .ireturn, 1, 0, 0, 0, 0), (75, .iload 4, 2, 0, 0, 0, 0), (77, .iload 5, 2, 0, 0, 0, 0), (79, .if_icmp .le 7, 3, 0, 0, 0, 0), (82, .iconst 1, 1, 0, 0, 0, 0), (83, .goto 4, 3, 0, 0, 0, 0), (86, .iconst 0, 1, 0, 0, 0, 0), (87, .istore 7, 2, 0, 0, 0, 0), (89, .iload 7, 2, 0, 0, 0, 0), (91, .ifCond .eq 21, 3, 0, 0, 0, 0), (94, .aload_n 0, 1, 0, 0, 0, 0), (95, .getfield 29, 3, 7, 4, 1, 163), (98, .iload 6, 2, 0, 0, 0, 0), (100, .iaload, 1, 0, 0, 0, 0), (101, .aload_n 0, 1, 0, 0, 0, 0), (102, .getfield 25, 3, 7, 3, 1, 164), (105, .iload 6, 2, 0, 0, 0, 0), (107, .iaload, 1, 0, 0, 0, 0), (108, .ior, 1, 0, 0, 0, 0), (109, .goto 17, 3, 0, 0, 0, 0), (112, .aload_n 0, 1, 0, 0, 0, 0), (113, .getfield 32, 3, 7, 5, 0, 162), (116, .aload_n 0, 1, 0, 0, 0, 0), (117, .getfield 29, 3, 7, 4, 1, 163), (120, .iload 6, 2, 0, 0, 0, 0), (122, .iaload, 1, 0, 0, 0, 0), (123, .iconst (-1), 1, 0, 0, 0, 0), (124, .ixor, 1, 0, 0, 0, 0), (125, .iand, 1, 0, 0, 0, 0), (126, .ireturn, 1, 0, 0, 0, 0)]
/-- LikeTales$Timing.isOrdered(II)Z -/
def kX7_isOrdered : List (Nat × jO) := [(0, .aload_n 0, 1, 0, 0, 0, 0), (1, .getfield 12, 3, 7, 0, 3, 159), (4, .getfield 49, 3, 4, 6, 1, 166), (7, .iload_n 1, 1, 0, 0, 0, 0), (8, .iaload, 1, 0, 0, 0, 0), (9, .iconst (-1), 1, 0, 0, 0, 0), (10, .if_icmp .eq 18, 3, 0, 0, 0, 0), (13, .iload_n 2, 1, 0, 0, 0, 0), (14, .aload_n 0, 1, 0, 0, 0, 0), (15, .getfield 32, 3, 7, 5, 0, 162), (18, .iconst (-1), 1, 0, 0, 0, 0), (19, .ixor, 1, 0, 0, 0, 0), (20, .iand, 1, 0, 0, 0, 0), (21, .ifCond .ne 7, 3, 0, 0, 0, 0), (24, .iconst 1, 1, 0, 0, 0, 0), (25, .goto 4, 3, 0, 0, 0, 0), (28, .iconst 0, 1, 0, 0, 0, 0), (29, .ireturn, 1, 1, 0, 0, 0)]
/-- LikeTales$Timing.add(III)V -/
def kX7_add : List (Nat × jO) := [(0, .aload_n 0, 1, 0, 0, 0, 0), (1, .getfield 12, 3, 7, 0, 3, 159), (4, .getfield 49, 3, 4, 6, 1, 166), (7, .iload_n 1, 1, 0, 0, 0, 0), (8, .iaload, 1, 0, 0, 0, 0), (9, .istore 4, 2, 0, 0, 0, 0), (11, .iload 4, 2, 0, 0, 0, 0), (13, .iconst (-1), 1, 0, 0, 0, 0), (14, .if_icmp .eq 19, 3, 0, 0, 0, 0), (17, .aload_n 0, 1, 0, 0, 0, 0), (18, .getfield 36, 3, 7, 6, 1, 167), (21, .iload 4, 2, 0, 0, 0, 0), (23, .bipush 10, 2, 0, 0, 0, 0), (25, .imul, 1, 0, 0, 0, 0), (26, .iload_n 2, 1, 0, 0, 0, 0), (27, .iadd, 1, 0, 0, 0, 0), (28, .dup2, 1, 0, 0, 0, 0), (29, .iaload, 1, 0, 0, 0, 0), (30, .iload_n 3, 1, 0, 0, 0, 0), (31, .iadd, 1, 0, 0, 0, 0), (32, .iastore, 1, 0, 0, 0, 0), (33, .return_, 1, 0, 0, 0, 0)]
/-- LikeTales$Timing.heaviestOrder()I -/
def kX7_heaviestOrder : List (Nat × jO) := [(0, .iconst 0, 1, 0, 0, 0, 0), (1, .istore_n 1, 1, 0, 0, 0, 0), (2, .iload_n 1, 1, 0, 0, 0, 0), (3, .bipush 10, 2, 0, 0, 0, 0), (5, .if_icmp .ge 16, 3, 0, 0, 0, 0), (8, .aload_n 0, 1, 0, 0, 0, 0), (9, .getfield 39, 3, 7, 7, 1, 168), (12, .iload_n 1, 1, 0, 0, 0, 0), (13, .iconst 0, 1, 0, 0, 0, 0), (14, .iastore, 1, 0, 0, 0, 0), (15, .iinc 1 1, 3, 0, 0, 0, 0), (18, .goto (-16), 3, 0, 0, 0, 0), (21, .iconst 0, 1, 0, 0, 0, 0), (22, .istore_n 1, 1, 0, 0, 0, 0), (23, .iload_n 1, 1, 0, 0, 0, 0), (24, .bipush 10, 2, 0, 0, 0, 0), (26, .if_icmp .ge 116, 3, 0, 0, 0, 0), (29, .bipush 9, 2, 0, 0, 0, 0), (31, .istore_n 2, 1, 0, 0, 0, 0), (32, .iload_n 2, 1, 0, 0, 0, 0), (33, .ifCond .lt 66, 3, 0, 0, 0, 0), (36, .iload_n 2, 1, 0, 0, 0, 0), (37, .ifCond .le 14, 3, 0, 0, 0, 0), (40, .aload_n 0, 1, 0, 0, 0, 0), (41, .getfield 39, 3, 7, 7, 1, 168), (44, .iload_n 2, 1, 0, 0, 0, 0), (45, .iconst 1, 1, 0, 0, 0, 0), (46, .isub, 1, 0, 0, 0, 0), (47, .iaload, 1, 0, 0, 0, 0), (48, .goto 4, 3, 0, 0, 0, 0), (51, .iconst 0, 1, 0, 0, 0, 0), (52, .istore_n 3, 1, 0, 0, 0, 0), (53, .aload_n 0, 1, 0, 0, 0, 0), (54, .getfield 39, 3, 7, 7, 1, 168), (57, .iload_n 2, 1, 0, 0, 0, 0), (58, .aload_n 0, 1, 0, 0, 0, 0), (59, .getfield 39, 3, 7, 7, 1, 168), (62, .iload_n 2, 1, 0, 0, 0, 0), (63, .iaload, 1, 0, 0, 0, 0), (64, .iload_n 3, 1, 0, 0, 0, 0), (65, .aload_n 0, 1, 0, 0, 0, 0), (66, .getfield 36, 3, 7, 6, 1, 167), (69, .iload_n 1, 1, 0, 0, 0, 0), (70, .bipush 10, 2, 0, 0, 0, 0), (72, .imul, 1, 0, 0, 0, 0), (73, .iload_n 2, 1, 0, 0, 0, 0), (74, .iadd, 1, 0, 0, 0, 0), (75, .iaload, 1, 0, 0, 0, 0), (76, .iadd, 1, 0, 0, 0, 0), (77, .invokestatic 56, 3, 0, 2, 4, 9), (80, .iastore, 1, 0, 0, 0, 0), (81, .aload_n 0, 1, 0, 0, 0, 0), (82, .getfield 36, 3, 7, 6, 1, 167), (85, .iload_n 1, 1, 0, 0, 0, 0), (86, .bipush 10, 2, 0, 0, 0, 0), (88, .imul, 1, 0, 0, 0, 0), (89, .iload_n 2, 1, 0, 0, 0, 0), (90, .iadd, 1, 0, 0, 0, 0), (91, .iconst 0, 1, 0, 0, 0, 0), (92, .iastore, 1, 0, 0, 0, 0), (93, .iinc 2 (-1), 3, 0, 0, 0, 0), (96, .goto (-64), 3, 0, 0, 0, 0), (99, .iconst 1, 1, 0, 0, 0, 0), (100, .istore_n 2, 1, 0, 0, 0, 0), (101, .iload_n 2, 1, 0, 0, 0, 0), (102, .bipush 10, 2, 0, 0, 0, 0), (104, .if_icmp .ge 32, 3, 0, 0, 0, 0), (107, .aload_n 0, 1, 0, 0, 0, 0), (108, .getfield 39, 3, 7, 7, 1, 168), (111, .iload_n 2, 1, 0, 0, 0, 0), (112, .aload_n 0, 1, 0, 0, 0, 0), (113, .getfield 39, 3, 7, 7, 1, 168), (116, .iload_n 2, 1, 0, 0, 0, 0), (117, .iaload, 1, 0, 0, 0, 0), (118, .aload_n 0, 1, 0, 0, 0, 0), (119, .getfield 39, 3, 7, 7, 1, 168), (122, .iload_n 2, 1, 0, 0, 0, 0), (123, .iconst 1, 1, 0, 0, 0, 0), (124, .isub, 1, 0, 0, 0, 0), (125, .iaload, 1, 0, 0, 0, 0), (126, .invokestatic 56, 3, 0, 2, 4, 9), (129, .iastore, 1, 0, 0, 0, 0), (130, .iinc 2 1, 3, 0, 0, 0, 0), (133, .goto (-32), 3, 0, 0, 0, 0), (136, .iinc 1 1, 3, 0, 0, 0, 0), (139, .goto (-116), 3, 0, 0, 0, 0), (142, .aload_n 0, 1, 0, 0, 0, 0), (143, .getfield 39, 3, 7, 7, 1, 168), (146, .bipush 9, 2, 0, 0, 0, 0), (148, .iaload, 1, 0, 0, 0, 0), (149, .ireturn, 1, 0, 0, 0, 0)]
/-- LikeTales$Weaver.weaveCommon(LLikeTales$Net;LLikeTales$Net;)V -/
def kX8_weaveCommon : List (Nat × jO) := [(0, .aload_n 0, 1, 0, 0, 0, 0), (1, .invokevirtual 45, 3, 177, 1, 1, 131), (4, .aload_n 0, 1, 0, 0, 0, 0), (5, .getfield 12, 3, 8, 2, 1, 169), (8, .iconst 0, 1, 0, 0, 0, 0), (9, .invokevirtual 48, 3, 140, 2, 1, 132), (12, .iconst 0, 1, 0, 0, 0, 0), (13, .istore_n 3, 1, 0, 0, 0, 0), (14, .iload_n 3, 1, 0, 0, 0, 0), (15, .aload_n 1, 1, 0, 0, 0, 0), (16, .getfield 52, 3, 4, 0, 0, 170), (19, .if_icmp .ge 92, 3, 0, 0, 0, 0), (22, .aload_n 0, 1, 0, 0, 0, 0), (23, .getfield 41, 3, 8, 1, 1, 171), (26, .getfield 56, 3, 0, 5, 1, 172), (29, .iload_n 3, 1, 0, 0, 0, 0), (30, .iaload, 1, 0, 0, 0, 0), (31, .istore 4, 2, 0, 0, 0, 0), (33, .iload 4, 2, 0, 0, 0, 0), (35, .ifCond .lt 70, 3, 0, 0, 0, 0), (38, .aload_n 0, 1, 0, 0, 0, 0), (39, .getfield 25, 3, 8, 5, 1, 173), (42, .iload_n 3, 1, 0, 0, 0, 0), (43, .aload_n 0, 1, 0, 0, 0, 0), (44, .getfield 12, 3, 8, 2, 1, 169), (47, .getfield 52, 3, 4, 0, 0, 170), (50, .iastore, 1, 0, 0, 0, 0), (51, .aload_n 0, 1, 0, 0, 0, 0), (52, .getfield 12, 3, 8, 2, 1, 169), (55, .getfield 61, 3, 4, 3, 1, 174), (58, .aload_n 0, 1, 0, 0, 0, 0), (59, .getfield 12, 3, 8, 2, 1, 169), (62, .getfield 52, 3, 4, 0, 0, 170), (65, .aload_n 1, 1, 0, 0, 0, 0), (66, .getfield 61, 3, 4, 3, 1, 174), (69, .iload_n 3, 1, 0, 0, 0, 0), (70, .iaload, 1, 0, 0, 0, 0), (71, .aload_n 2, 1, 0, 0, 0, 0), (72, .getfield 61, 3, 4, 3, 1, 174), (75, .iload 4, 2, 0, 0, 0, 0), (77, .iaload, 1, 0, 0, 0, 0), (78, .if_icmp .ne 12, 3, 0, 0, 0, 0), (81, .aload_n 1, 1, 0, 0, 0, 0), (82, .getfield 61, 3, 4, 3, 1, 174), (85, .iload_n 3, 1, 0, 0, 0, 0), (86, .iaload, 1, 0, 0, 0, 0), (87, .goto 4, 3, 0, 0, 0, 0), (90, .iconst 0, 1, 0, 0, 0, 0), (91, .iastore, 1, 0, 0, 0, 0), (92, .aload_n 0, 1, 0, 0, 0, 0), (93, .getfield 12, 3, 8, 2, 1, 169), (96, .dup, 1, 0, 0, 0, 0), (97, .getfield 52, 3, 4, 0, 0, 170), (100, .iconst 1, 1, 0, 0, 0, 0), (101, .iadd, 1, 0, 0, 0, 0), (102, .putfield 52, 3, 4, 0, 0, 170), (105, .iinc 3 1, 3, 0, 0, 0, 0), (108, .goto (-94), 3, 0, 0, 0, 0), (111, .iconst 0, 1, 0, 0, 0, 0), (112, .istore_n 3, 1, 0, 0, 0, 0), (113, .iload_n 3, 1, 0, 0, 0, 0), (114, .aload_n 1, 1, 0, 0, 0, 0), (115, .getfield 64, 3, 4, 1, 0, 175), (118, .if_icmp .ge 86, 3, 0, 0, 0, 0), (121, .aload_n 0, 1, 0, 0, 0, 0), (122, .getfield 41, 3, 8, 1, 1, 171), (125, .getfield 67, 3, 0, 6, 1, 176), (128, .iload_n 3, 1, 0, 0, 0, 0), (129, .iaload, 1, 0, 0, 0, 0), (130, .istore 4, 2, 0, 0, 0, 0), (132, .iload 4, 2, 0, 0, 0, 0), (134, .ifCond .lt 64, 3, 0, 0, 0, 0), (137, .aload_n 0, 1, 0, 0, 0, 0), (138, .aload_n 1, 1, 0, 0, 0, 0), (139, .iload_n 3, 1, 0, 0, 0, 0), (140, .invokevirtual 70, 3, 178, 3, 0, 133), (143, .ifCond .eq 55, 3, 0, 0, 0, 0), (146, .aload_n 0, 1, 0, 0, 0, 0), (147, .getfield 37, 3, 8, 0, 1, 177), (150, .aload_n 1, 1, 0, 0, 0, 0), (151, .getfield 74, 3, 4, 4, 1, 178), (154, .iload_n 3, 1, 0, 0, 0, 0), (155, .iaload, 1, 0, 0, 0, 0), (156, .aload_n 2, 1, 0, 0, 0, 0), (157, .getfield 74, 3, 4, 4, 1, 178), (160, .iload 4, 2, 0, 0, 0, 0), (162, .iaload, 1, 0, 0, 0, 0), (163, .invokevirtual 77, 3, 139, 3, 0, 134), (166, .istore 5, 2, 0, 0, 0, 0), (168, .aload_n 0, 1, 0, 0, 0, 0), (169, .getfield 28, 3, 8, 6, 1, 179), (172, .iload_n 3, 1, 0, 0, 0, 0), (173, .aload_n 0, 1, 0, 0, 0, 0), (174, .aload_n 0, 1, 0, 0, 0, 0), (175, .getfield 37, 3, 8, 0, 1, 177), (178, .aload_n 1, 1, 0, 0, 0, 0), (179, .getfield 74, 3, 4, 4, 1, 178), (182, .iload_n 3, 1, 0, 0, 0, 0), (183, .iaload, 1, 0, 0, 0, 0), (184, .iload 5, 2, 0, 0, 0, 0), (186, .iconst 0, 1, 0, 0, 0, 0), (187, .invokestatic 83, 3, 0, 2, 4, 10), (190, .invokevirtual 88, 3, 138, 3, 0, 135), (193, .iconst (-1), 1, 0, 0, 0, 0), (194, .invokevirtual 91, 3, 180, 3, 0, 136), (197, .iastore, 1, 0, 0, 0, 0), (198, .iinc 3 1, 3, 0, 0, 0, 0), (201, .goto (-88), 3, 0, 0, 0, 0), (204, .return_, 1, 0, 0, 0, 0)]
/-- LikeTales$Weaver.noteFirst(LLikeTales$Net;)V -/
def kX8_noteFirst : List (Nat × jO) := [(0, .iconst 0, 1, 0, 0, 0, 0), (1, .istore_n 2, 1, 0, 0, 0, 0), (2, .iload_n 2, 1, 0, 0, 0, 0), (3, .aload_n 1, 1, 0, 0, 0, 0), (4, .getfield 52, 3, 4, 0, 0, 170), (7, .if_icmp .ge 24, 3, 0, 0, 0, 0), (10, .aload_n 0, 1, 0, 0, 0, 0), (11, .getfield 18, 3, 8, 3, 1, 180), (14, .iload_n 2, 1, 0, 0, 0, 0), (15, .aload_n 0, 1, 0, 0, 0, 0), (16, .getfield 41, 3, 8, 1, 1, 171), (19, .getfield 56, 3, 0, 5, 1, 172), (22, .iload_n 2, 1, 0, 0, 0, 0), (23, .iaload, 1, 0, 0, 0, 0), (24, .iastore, 1, 0, 0, 0, 0), (25, .iinc 2 1, 3, 0, 0, 0, 0), (28, .goto (-26), 3, 0, 0, 0, 0), (31, .iconst 0, 1, 0, 0, 0, 0), (32, .istore_n 2, 1, 0, 0, 0, 0), (33, .iload_n 2, 1, 0, 0, 0, 0), (34, .aload_n 1, 1, 0, 0, 0, 0), (35, .getfield 64, 3, 4, 1, 0, 175), (38, .if_icmp .ge 24, 3, 0, 0, 0, 0), (41, .aload_n 0, 1, 0, 0, 0, 0), (42, .getfield 22, 3, 8, 4, 1, 181), (45, .iload_n 2, 1, 0, 0, 0, 0), (46, .aload_n 0, 1, 0, 0, 0, 0), (47, .getfield 41, 3, 8, 1, 1, 171), (50, .getfield 67, 3, 0, 6, 1, 176), (53, .iload_n 2, 1, 0, 0, 0, 0), (54, .iaload, 1, 0, 0, 0, 0), (55, .iastore, 1, 0, 0, 0, 0), (56, .iinc 2 1, 3, 0, 0, 0, 0), (59, .goto (-26), 3, 0, 0, 0, 0), (62, .return_, 1, 0, 0, 0, 0)]
/-- LikeTales$Weaver.weaveLeft(LLikeTales$Net;LLikeTales$Net;)V -/
def kX8_weaveLeft : List (Nat × jO) := [(0, .aload_n 0, 1, 0, 0, 0, 0), (1, .invokevirtual 45, 3, 177, 1, 1, 131), (4, .iconst 0, 1, 0, 0, 0, 0), (5, .istore_n 3, 1, 0, 0, 0, 0), (6, .iconst 0, 1, 0, 0, 0, 0), (7, .istore 4, 2, 0, 0, 0, 0), (9, .iload 4, 2, 0, 0, 0, 0), (11, .aload_n 1, 1, 0, 0, 0, 0), (12, .getfield 64, 3, 4, 1, 0, 175), (15, .if_icmp .ge 65, 3, 0, 0, 0, 0), (18, .aload_n 0, 1, 0, 0, 0, 0), (19, .getfield 22, 3, 8, 4, 1, 181), (22, .iload 4, 2, 0, 0, 0, 0), (24, .iaload, 1, 0, 0, 0, 0), (25, .iconst (-1), 1, 0, 0, 0, 0), (26, .if_icmp .ne 21, 3, 0, 0, 0, 0), (29, .aload_n 0, 1, 0, 0, 0, 0), (30, .getfield 41, 3, 8, 1, 1, 171), (33, .getfield 67, 3, 0, 6, 1, 176), (36, .iload 4, 2, 0, 0, 0, 0), (38, .iaload, 1, 0, 0, 0, 0), (39, .iconst (-1), 1, 0, 0, 0, 0), (40, .if_icmp .eq 7, 3, 0, 0, 0, 0), (43, .iconst 1, 1, 0, 0, 0, 0), (44, .goto 4, 3, 0, 0, 0, 0), (47, .iconst 0, 1, 0, 0, 0, 0), (48, .istore 5, 2, 0, 0, 0, 0), (50, .iload_n 3, 1, 0, 0, 0, 0), (51, .iload 5, 2, 0, 0, 0, 0), (53, .ifCond .eq 18, 3, 0, 0, 0, 0), (56, .iconst 1, 1, 0, 0, 0, 0), (57, .aload_n 0, 1, 0, 0, 0, 0), (58, .getfield 41, 3, 8, 1, 1, 171), (61, .getfield 67, 3, 0, 6, 1, 176), (64, .iload 4, 2, 0, 0, 0, 0), (66, .iaload, 1, 0, 0, 0, 0), (67, .ishl, 1, 0, 0, 0, 0), (68, .goto 4, 3, 0, 0, 0, 0), (71, .iconst 0, 1, 0, 0, 0, 0), (72, .ior, 1, 0, 0, 0, 0), (73, .istore_n 3, 1, 0, 0, 0, 0), (74, .iinc 4 1, 3, 0, 0, 0, 0), (77, .goto (-68), 3, 0, 0, 0, 0), (80, .aload_n 0, 1, 0, 0, 0, 0), (81, .getfield 12, 3, 8, 2, 1, 169), (84, .aload_n 2, 1, 0, 0, 0, 0), (85, .getfield 52, 3, 4, 0, 0, 170), (88, .invokevirtual 48, 3, 140, 2, 1, 132), (91, .aload_n 0, 1, 0, 0, 0, 0), (92, .getfield 12, 3, 8, 2, 1, 169), (95, .aload_n 2, 1, 0, 0, 0, 0), (96, .getfield 94, 3, 4, 2, 0, 182), (99, .putfield 94, 3, 4, 2, 0, 182), (102, .iconst 0, 1, 0, 0, 0, 0), (103, .istore 4, 2, 0, 0, 0, 0), (105, .iload 4, 2, 0, 0, 0, 0), (107, .aload_n 2, 1, 0, 0, 0, 0), (108, .getfield 52, 3, 4, 0, 0, 170), (111, .if_icmp .ge 35, 3, 0, 0, 0, 0), (114, .aload_n 0, 1, 0, 0, 0, 0), (115, .getfield 12, 3, 8, 2, 1, 169), (118, .getfield 61, 3, 4, 3, 1, 174), (121, .iload 4, 2, 0, 0, 0, 0), (123, .aload_n 2, 1, 0, 0, 0, 0), (124, .getfield 61, 3, 4, 3, 1, 174), (127, .iload 4, 2, 0, 0, 0, 0), (129, .iaload, 1, 0, 0, 0, 0), (130, .iastore, 1, 0, 0, 0, 0), (131, .aload_n 0, 1, 0, 0, 0, 0), (132, .getfield 25, 3, 8, 5, 1, 173), (135, .iload 4, 2, 0, 0, 0, 0), (137, .iload 4, 2, 0, 0, 0, 0), (139, .iastore, 1, 0, 0, 0, 0), (140, .iinc 4 1, 3, 0, 0, 0, 0), (143, .goto (-38), 3, 0, 0, 0, 0), (146, .iconst 0, 1, 0, 0, 0, 0), (147, .istore 4, 2, 0, 0, 0, 0), (149, .iload 4, 2, 0, 0, 0, 0), (151, .aload_n 2, 1, 0, 0, 0, 0), (152, .getfield 64, 3, 4, 1, 0, 175), (155, .if_icmp .ge 53, 3, 0, 0, 0, 0), (158, .iload_n 3, 1, 0, 0, 0, 0), (159, .iload 4, 2, 0, 0, 0, 0), (161, .ishr, 1, 0, 0, 0, 0), (162, .iconst 1, 1, 0, 0, 0, 0), (163, .iand, 1, 0, 0, 0, 0), (164, .ifCond .ne 38, 3, 0, 0, 0, 0), (167, .aload_n 0, 1, 0, 0, 0, 0), (168, .aload_n 2, 1, 0, 0, 0, 0), (169, .iload 4, 2, 0, 0, 0, 0), (171, .invokevirtual 70, 3, 178, 3, 0, 133), (174, .ifCond .eq 28, 3, 0, 0, 0, 0), (177, .aload_n 0, 1, 0, 0, 0, 0), (178, .getfield 28, 3, 8, 6, 1, 179), (181, .iload 4, 2, 0, 0, 0, 0), (183, .aload_n 0, 1, 0, 0, 0, 0), (184, .aload_n 2, 1, 0, 0, 0, 0), (185, .getfield 74, 3, 4, 4, 1, 178), (188, .iload 4, 2, 0, 0, 0, 0), (190, .iaload, 1, 0, 0, 0, 0), (191, .aload_n 2, 1, 0, 0, 0, 0), (192, .getfield 97, 3, 4, 6, 1, 183), (195, .iload 4, 2, 0, 0, 0, 0), (197, .iaload, 1, 0, 0, 0, 0), (198, .invokevirtual 91, 3, 180, 3, 0, 136), (201, .iastore, 1, 0, 0, 0, 0), (202, .iinc 4 1, 3, 0, 0, 0, 0), (205, .goto (-56), 3, 0, 0, 0, 0), (208, .aload_n 0, 1, 0, 0, 0, 0), (209, .getfield 28, 3, 8, 6, 1, 179), (212, .iconst 0, 1, 0, 0, 0, 0), (213, .aload_n 0, 1, 0, 0, 0, 0), (214, .getfield 31, 3, 8, 7, 1, 184), (217, .iconst 0, 1, 0, 0, 0, 0), (218, .bipush 14, 2, 0, 0, 0, 0), (220, .invokestatic 100, 3, 0, 5, 6, 11), (223, .return_, 1, 0, 0, 0, 0)]
/-- LikeTales$Weaver.bridge(LLikeTales$Net;)V -/
def kX8_bridge : List (Nat × jO) := [(0, .aload_n 0, 1, 0, 0, 0, 0), (1, .invokevirtual 45, 3, 177, 1, 1, 131), (4, .iconst 0, 1, 0, 0, 0, 0), (5, .istore_n 2, 1, 0, 0, 0, 0), (6, .iload_n 2, 1, 0, 0, 0, 0), (7, .aload_n 1, 1, 0, 0, 0, 0), (8, .getfield 52, 3, 4, 0, 0, 170), (11, .if_icmp .ge 38, 3, 0, 0, 0, 0), (14, .aload_n 0, 1, 0, 0, 0, 0), (15, .getfield 18, 3, 8, 3, 1, 180), (18, .iload_n 2, 1, 0, 0, 0, 0), (19, .iaload, 1, 0, 0, 0, 0), (20, .ifCond .lt 23, 3, 0, 0, 0, 0), (23, .aload_n 0, 1, 0, 0, 0, 0), (24, .getfield 25, 3, 8, 5, 1, 173), (27, .aload_n 0, 1, 0, 0, 0, 0), (28, .getfield 18, 3, 8, 3, 1, 180), (31, .iload_n 2, 1, 0, 0, 0, 0), (32, .iaload, 1, 0, 0, 0, 0), (33, .aload_n 0, 1, 0, 0, 0, 0), (34, .getfield 41, 3, 8, 1, 1, 171), (37, .getfield 56, 3, 0, 5, 1, 172), (40, .iload_n 2, 1, 0, 0, 0, 0), (41, .iaload, 1, 0, 0, 0, 0), (42, .iastore, 1, 0, 0, 0, 0), (43, .iinc 2 1, 3, 0, 0, 0, 0), (46, .goto (-40), 3, 0, 0, 0, 0), (49, .iconst 0, 1, 0, 0, 0, 0), (50, .istore_n 2, 1, 0, 0, 0, 0), (51, .iload_n 2, 1, 0, 0, 0, 0), (52, .aload_n 1, 1, 0, 0, 0, 0), (53, .getfield 64, 3, 4, 1, 0, 175), (56, .if_icmp .ge 55, 3, 0, 0, 0, 0), (59, .aload_n 0, 1, 0, 0, 0, 0), (60, .getfield 22, 3, 8, 4, 1, 181), (63, .iload_n 2, 1, 0, 0, 0, 0), (64, .iaload, 1, 0, 0, 0, 0), (65, .ifCond .lt 40, 3, 0, 0, 0, 0), (68, .aload_n 0, 1, 0, 0, 0, 0), (69, .getfield 41, 3, 8, 1, 1, 171), (72, .getfield 67, 3, 0, 6, 1, 176), (75, .iload_n 2, 1, 0, 0, 0, 0), (76, .iaload, 1, 0, 0, 0, 0), (77, .ifCond .lt 28, 3, 0, 0, 0, 0), (80, .aload_n 0, 1, 0, 0, 0, 0), (81, .getfield 28, 3, 8, 6, 1, 179), (84, .aload_n 0, 1, 0, 0, 0, 0), (85, .getfield 22, 3, 8, 4, 1, 181), (88, .iload_n 2, 1, 0, 0, 0, 0), (89, .iaload, 1, 0, 0, 0, 0), (90, .aload_n 0, 1, 0, 0, 0, 0), (91, .getfield 31, 3, 8, 7, 1, 184), (94, .aload_n 0, 1, 0, 0, 0, 0), (95, .getfield 41, 3, 8, 1, 1, 171), (98, .getfield 67, 3, 0, 6, 1, 176), (101, .iload_n 2, 1, 0, 0, 0, 0), (102, .iaload, 1, 0, 0, 0, 0), (103, .iaload, 1, 0, 0, 0, 0), (104, .iastore, 1, 0, 0, 0, 0), (105, .iinc 2 1, 3, 0, 0, 0, 0), (108, .goto (-57), 3, 0, 0, 0, 0), (111, .return_, 1, 0, 0, 0, 0)]
/-- LikeTales$Weaver.putWon(LLikeTales$Net;LLikeTales$Net;)Z -/
def kX8_putWon : List (Nat × jO) := [(0, .iconst 0, 1, 0, 0, 0, 0), (1, .istore_n 3, 1, 0, 0, 0, 0), (2, .iconst 0, 1, 0, 0, 0, 0), (3, .istore 4, 2, 0, 0, 0, 0), (5, .iload 4, 2, 0, 0, 0, 0), (7, .aload_n 1, 1, 0, 0, 0, 0), (8, .getfield 64, 3, 4, 1, 0, 175), (11, .if_icmp .ge 35, 3, 0, 0, 0, 0), (14, .iload_n 3, 1, 0, 0, 0, 0), (15, .aload_n 0, 1, 0, 0, 0, 0), (16, .getfield 22, 3, 8, 4, 1, 181), (19, .iload 4, 2, 0, 0, 0, 0), (21, .iaload, 1, 0, 0, 0, 0), (22, .ifCond .lt 15, 3, 0, 0, 0, 0), (25, .iconst 1, 1, 0, 0, 0, 0), (26, .aload_n 0, 1, 0, 0, 0, 0), (27, .getfield 22, 3, 8, 4, 1, 181), (30, .iload 4, 2, 0, 0, 0, 0), (32, .iaload, 1, 0, 0, 0, 0), (33, .ishl, 1, 0, 0, 0, 0), (34, .goto 4, 3, 0, 0, 0, 0), (37, .iconst 0, 1, 0, 0, 0, 0), (38, .ior, 1, 0, 0, 0, 0), (39, .istore_n 3, 1, 0, 0, 0, 0), (40, .iinc 4 1, 3, 0, 0, 0, 0), (43, .goto (-38), 3, 0, 0, 0, 0), (46, .iconst 0, 1, 0, 0, 0, 0), (47, .istore 4, 2, 0, 0, 0, 0), (49, .iload 4, 2, 0, 0, 0, 0), (51, .aload_n 2, 1, 0, 0, 0, 0), (52, .getfield 64, 3, 4, 1, 0, 175), (55, .if_icmp .ge 66, 3, 0, 0, 0, 0), (58, .iload_n 3, 1, 0, 0, 0, 0), (59, .iload 4, 2, 0, 0, 0, 0), (61, .ishr, 1, 0, 0, 0, 0), (62, .iconst 1, 1, 0, 0, 0, 0), (63, .iand, 1, 0, 0, 0, 0), (64, .ifCond .ne 51, 3, 0, 0, 0, 0), (67, .aload_n 0, 1, 0, 0, 0, 0), (68, .aload_n 2, 1, 0, 0, 0, 0), (69, .iload 4, 2, 0, 0, 0, 0), (71, .invokevirtual 70, 3, 178, 3, 0, 133), (74, .ifCond .eq 41, 3, 0, 0, 0, 0), (77, .aload_n 0, 1, 0, 0, 0, 0), (78, .getfield 28, 3, 8, 6, 1, 179), (81, .iload 4, 2, 0, 0, 0, 0), (83, .aload_n 0, 1, 0, 0, 0, 0), (84, .aload_n 2, 1, 0, 0, 0, 0), (85, .getfield 74, 3, 4, 4, 1, 178), (88, .iload 4, 2, 0, 0, 0, 0), (90, .iaload, 1, 0, 0, 0, 0), (91, .aload_n 2, 1, 0, 0, 0, 0), (92, .getfield 97, 3, 4, 6, 1, 183), (95, .iload 4, 2, 0, 0, 0, 0), (97, .iaload, 1, 0, 0, 0, 0), (98, .invokevirtual 91, 3, 180, 3, 0, 136), (101, .iastore, 1, 0, 0, 0, 0), (102, .aload_n 0, 1, 0, 0, 0, 0), (103, .getfield 28, 3, 8, 6, 1, 179), (106, .iload 4, 2, 0, 0, 0, 0), (108, .iaload, 1, 0, 0, 0, 0), (109, .iconst (-1), 1, 0, 0, 0, 0), (110, .if_icmp .ne 5, 3, 0, 0, 0, 0), (113, .iconst 0, 1, 0, 0, 0, 0), (114, .ireturn, 1, 1, 0, 0, 0), (115, .iinc 4 1, 3, 0, 0, 0, 0), (118, .goto (-69), 3, 0, 0, 0, 0), (121, .iconst 1, 1, 0, 0, 0, 0), (122, .ireturn, 1, 1, 0, 0, 0)]
/-- LikeTales$Weaver.clear()V -/
def kX8_clear : List (Nat × jO) := [(0, .iconst 0, 1, 0, 0, 0, 0), (1, .istore_n 1, 1, 0, 0, 0, 0), (2, .iload_n 1, 1, 0, 0, 0, 0), (3, .bipush 6, 2, 0, 0, 0, 0), (5, .if_icmp .ge 16, 3, 0, 0, 0, 0), (8, .aload_n 0, 1, 0, 0, 0, 0), (9, .getfield 25, 3, 8, 5, 1, 173), (12, .iload_n 1, 1, 0, 0, 0, 0), (13, .iconst (-1), 1, 0, 0, 0, 0), (14, .iastore, 1, 0, 0, 0, 0), (15, .iinc 1 1, 3, 0, 0, 0, 0), (18, .goto (-16), 3, 0, 0, 0, 0), (21, .iconst 0, 1, 0, 0, 0, 0), (22, .istore_n 1, 1, 0, 0, 0, 0), (23, .iload_n 1, 1, 0, 0, 0, 0), (24, .bipush 14, 2, 0, 0, 0, 0), (26, .if_icmp .ge 16, 3, 0, 0, 0, 0), (29, .aload_n 0, 1, 0, 0, 0, 0), (30, .getfield 28, 3, 8, 6, 1, 179), (33, .iload_n 1, 1, 0, 0, 0, 0), (34, .iconst (-1), 1, 0, 0, 0, 0), (35, .iastore, 1, 0, 0, 0, 0), (36, .iinc 1 1, 3, 0, 0, 0, 0), (39, .goto (-16), 3, 0, 0, 0, 0), (42, .return_, 1, 0, 0, 0, 0)]
/-- LikeTales$Weaver.bringEnds(LLikeTales$Net;I)Z -/
def kX8_bringEnds : List (Nat × jO) := [(0, .iconst 0, 1, 0, 0, 0, 0), (1, .istore_n 3, 1, 0, 0, 0, 0), (2, .iload_n 3, 1, 0, 0, 0, 0), (3, .iconst 3, 1, 0, 0, 0, 0), (4, .if_icmp .ge 51, 3, 0, 0, 0, 0), (7, .aload_n 1, 1, 0, 0, 0, 0), (8, .getfield 106, 3, 4, 5, 1, 185), (11, .iload_n 2, 1, 0, 0, 0, 0), (12, .iconst 3, 1, 0, 0, 0, 0), (13, .imul, 1, 0, 0, 0, 0), (14, .iload_n 3, 1, 0, 0, 0, 0), (15, .iadd, 1, 0, 0, 0, 0), (16, .iaload, 1, 0, 0, 0, 0), (17, .istore 4, 2, 0, 0, 0, 0), (19, .aload_n 0, 1, 0, 0, 0, 0), (20, .getfield 34, 3, 8, 8, 1, 186), (23, .iload_n 3, 1, 0, 0, 0, 0), (24, .aload_n 0, 1, 0, 0, 0, 0), (25, .iload 4, 2, 0, 0, 0, 0), (27, .invokevirtual 109, 3, 179, 2, 0, 137), (30, .iastore, 1, 0, 0, 0, 0), (31, .iload 4, 2, 0, 0, 0, 0), (33, .iconst (-1), 1, 0, 0, 0, 0), (34, .if_icmp .eq 15, 3, 0, 0, 0, 0), (37, .aload_n 0, 1, 0, 0, 0, 0), (38, .getfield 34, 3, 8, 8, 1, 186), (41, .iload_n 3, 1, 0, 0, 0, 0), (42, .iaload, 1, 0, 0, 0, 0), (43, .iconst (-1), 1, 0, 0, 0, 0), (44, .if_icmp .ne 5, 3, 0, 0, 0, 0), (47, .iconst 0, 1, 0, 0, 0, 0), (48, .ireturn, 1, 1, 0, 0, 0), (49, .iinc 3 1, 3, 0, 0, 0, 0), (52, .goto (-50), 3, 0, 0, 0, 0), (55, .iconst 1, 1, 0, 0, 0, 0), (56, .ireturn, 1, 1, 0, 0, 0)]
/-- LikeTales$Weaver.newEnd(I)I -/
def kX8_newEnd : List (Nat × jO) := [(0, .iload_n 1, 1, 0, 0, 0, 0), (1, .bipush 6, 2, 0, 0, 0, 0), (3, .if_icmp .ge 18, 3, 0, 0, 0, 0), (6, .iload_n 1, 1, 0, 0, 0, 0), (7, .ifCond .ge 7, 3, 0, 0, 0, 0), (10, .iconst (-1), 1, 0, 0, 0, 0), (11, .goto 9, 3, 0, 0, 0, 0), (14, .aload_n 0, 1, 0, 0, 0, 0), (15, .getfield 25, 3, 8, 5, 1, 173), (18, .iload_n 1, 1, 0, 0, 0, 0), (19, .iaload, 1, 0, 0, 0, 0), (20, .ireturn, 1, 0, 0, 0, 0), (21, .iload_n 1, 1, 0, 0, 0, 0), (22, .bipush 10, 2, 0, 0, 0, 0), (24, .isub, 1, 0, 0, 0, 0), (25, .istore_n 2, 1, 0, 0, 0, 0), (26, .iload_n 2, 1, 0, 0, 0, 0), (27, .ifCond .lt 23, 3, 0, 0, 0, 0), (30, .iload_n 2, 1, 0, 0, 0, 0), (31, .bipush 14, 2, 0, 0, 0, 0), (33, .if_icmp .ge 17, 3, 0, 0, 0, 0), (36, .aload_n 0, 1, 0, 0, 0, 0), (37, .getfield 28, 3, 8, 6, 1, 179), (40, .iload_n 2, 1, 0, 0, 0, 0), (41, .iaload, 1, 0, 0, 0, 0), (42, .iconst (-1), 1, 0, 0, 0, 0), (43, .if_icmp .eq 7, 3, 0, 0, 0, 0), (46, .iconst 1, 1, 0, 0, 0, 0), (47, .goto 4, 3, 0, 0, 0, 0), (50, .iconst 0, 1, 0, 0, 0, 0), (51, .istore_n 3, 1, 0, 0, 0, 0), (52, .iload_n 3, 1, 0, 0, 0, 0), (53, .ifCond .eq 15, 3, 0, 0, 0, 0), (56, .bipush 10, 2, 0, 0, 0, 0), (58, .aload_n 0, 1, 0, 0, 0, 0), (59, .getfield 28, 3, 8, 6, 1, 179), (62, .iload_n 2, 1, 0, 0, 0, 0), (63, .iaload, 1, 0, 0, 0, 0), (64, .iadd, 1, 0, 0, 0, 0), (65, .goto 4, 3, 0, 0, 0, 0), (68, .iconst (-1), 1, 0, 0, 0, 0), (69, .ireturn, 1, 0, 0, 0, 0)]
/-- LikeTales$Weaver.findOrPut(II)I -/
def kX8_findOrPut : List (Nat × jO) := [(0, .aload_n 0, 1, 0, 0, 0, 0), (1, .getfield 12, 3, 8, 2, 1, 169), (4, .aload_n 0, 1, 0, 0, 0, 0), (5, .getfield 37, 3, 8, 0, 1, 177), (8, .iload_n 1, 1, 0, 0, 0, 0), (9, .aload_n 0, 1, 0, 0, 0, 0), (10, .getfield 34, 3, 8, 8, 1, 186), (13, .iconst 0, 1, 0, 0, 0, 0), (14, .iaload, 1, 0, 0, 0, 0), (15, .aload_n 0, 1, 0, 0, 0, 0), (16, .getfield 34, 3, 8, 8, 1, 186), (19, .iconst 1, 1, 0, 0, 0, 0), (20, .iaload, 1, 0, 0, 0, 0), (21, .aload_n 0, 1, 0, 0, 0, 0), (22, .getfield 34, 3, 8, 8, 1, 186), (25, .iconst 2, 1, 0, 0, 0, 0), (26, .iaload, 1, 0, 0, 0, 0), (27, .invokevirtual 113, 3, 144, 6, 0, 138), (30, .istore_n 3, 1, 0, 0, 0, 0), (31, .iload_n 3, 1, 0, 0, 0, 0), (32, .iconst (-1), 1, 0, 0, 0, 0), (33, .if_icmp .eq 7, 3, 0, 0, 0, 0), (36, .iload_n 3, 1, 0, 0, 0, 0), (37, .goto 30, 3, 0, 0, 0, 0), (40, .aload_n 0, 1, 0, 0, 0, 0), (41, .getfield 12, 3, 8, 2, 1, 169), (44, .iload_n 1, 1, 0, 0, 0, 0), (45, .aload_n 0, 1, 0, 0, 0, 0), (46, .getfield 34, 3, 8, 8, 1, 186), (49, .iconst 0, 1, 0, 0, 0, 0), (50, .iaload, 1, 0, 0, 0, 0), (51, .aload_n 0, 1, 0, 0, 0, 0), (52, .getfield 34, 3, 8, 8, 1, 186), (55, .iconst 1, 1, 0, 0, 0, 0), (56, .iaload, 1, 0, 0, 0, 0), (57, .aload_n 0, 1, 0, 0, 0, 0), (58, .getfield 34, 3, 8, 8, 1, 186), (61, .iconst 2, 1, 0, 0, 0, 0), (62, .iaload, 1, 0, 0, 0, 0), (63, .iload_n 2, 1, 0, 0, 0, 0), (64, .invokevirtual 117, 3, 145, 6, 0, 139), (67, .ireturn, 1, 0, 0, 0, 0)]
/-- java/lang/Integer.bitCount(I)I -/
def kJ6_bitCount : List (Nat × jO) := [(0, .iload_n 0, 1, 0, 0, 0, 0), (1, .iload_n 0, 1, 0, 0, 0, 0), (2, .iconst 1, 1, 0, 0, 0, 0), (3, .iushr, 1, 0, 0, 0, 0), (4, .ldc_w 265, 3, 1431655765, 0, 0, 1542), (7, .iand, 1, 0, 0, 0, 0), (8, .isub, 1, 0, 0, 0, 0), (9, .istore_n 0, 1, 0, 0, 0, 0), (10, .iload_n 0, 1, 0, 0, 0, 0), (11, .ldc_w 266, 3, 858993459, 0, 0, 1543), (14, .iand, 1, 0, 0, 0, 0), (15, .iload_n 0, 1, 0, 0, 0, 0), (16, .iconst 2, 1, 0, 0, 0, 0), (17, .iushr, 1, 0, 0, 0, 0), (18, .ldc_w 266, 3, 858993459, 0, 0, 1543), (21, .iand, 1, 0, 0, 0, 0), (22, .iadd, 1, 0, 0, 0, 0), (23, .istore_n 0, 1, 0, 0, 0, 0), (24, .iload_n 0, 1, 0, 0, 0, 0), (25, .iload_n 0, 1, 0, 0, 0, 0), (26, .iconst 4, 1, 0, 0, 0, 0), (27, .iushr, 1, 0, 0, 0, 0), (28, .iadd, 1, 0, 0, 0, 0), (29, .ldc_w 267, 3, 252645135, 0, 0, 1544), (32, .iand, 1, 0, 0, 0, 0), (33, .istore_n 0, 1, 0, 0, 0, 0), (34, .iload_n 0, 1, 0, 0, 0, 0), (35, .iload_n 0, 1, 0, 0, 0, 0), (36, .bipush 8, 2, 0, 0, 0, 0), (38, .iushr, 1, 0, 0, 0, 0), (39, .iadd, 1, 0, 0, 0, 0), (40, .istore_n 0, 1, 0, 0, 0, 0), (41, .iload_n 0, 1, 0, 0, 0, 0), (42, .iload_n 0, 1, 0, 0, 0, 0), (43, .bipush 16, 2, 0, 0, 0, 0), (45, .iushr, 1, 0, 0, 0, 0), (46, .iadd, 1, 0, 0, 0, 0), (47, .istore_n 0, 1, 0, 0, 0, 0), (48, .iload_n 0, 1, 0, 0, 0, 0), (49, .bipush 63, 2, 0, 0, 0, 0), (51, .iand, 1, 0, 0, 0, 0), (52, .ireturn, 1, 0, 0, 0, 0)]
abbrev jT : Type := MethodName × ByteArray × Nat × Option FieldType × List (Nat × jO)
def jm_0 : List jT := [(yX9_kind, cX9_kind, 5, (some .int), kX9_kind), (yX9_wider, cX9_wider, 4, (some .int), kX9_wider), (yX9_opposite, cX9_opposite, 3, (some .int), kX9_opposite), (yX9_ofKind, cX9_ofKind, 3, (some .int), kX9_ofKind), (yX9_alike, cX9_alike, 3, (some .int), kX9_alike), (yX9_timed, cX9_timed, 3, (some .int), kX9_timed), (yX9_tale, cX9_tale, 3, (some .int), kX9_tale), (yX9_sort, cX9_sort, 5, (some .int), kX9_sort), (yX9_label, cX9_label, 4, (some .int), kX9_label), (yX9_tie, cX9_tie, 9, (some .int), kX9_tie), (yX9_ofTie, cX9_ofTie, 5, (some .int), kX9_ofTie), (yX9_ofTale, cX9_ofTale, 4, (some .int), kX9_ofTale), (yX9_copy, cX9_copy, 3, (some .int), kX9_copy), (yX9_like, cX9_like, 6, (some .int), kX9_like), (yX9_partner, cX9_partner, 2, (some .int), kX9_partner), (yX9_answer, cX9_answer, 2, (some .int), kX9_answer)]
def jm_1 : List jT := [(yX9_likes, cX9_likes, 7, (some .int), kX9_likes), (yX9_worth, cX9_worth, 6, (some .int), kX9_worth), (yX9_same, cX9_same, 6, (some .int), kX9_same), (yX9_guess, cX9_guess, 3, (some .int), kX9_guess), (yX9_ofGuess, cX9_ofGuess, 5, (some .int), kX9_ofGuess), (yX9_giveUp, cX9_giveUp, 6, (some .int), kX9_giveUp), (yX9_bound, cX9_bound, 3, (some .int), kX9_bound), (yX9_seek, cX9_seek, 3, (some .int), kX9_seek), (yX9_sought, cX9_sought, 2, (some .int), kX9_sought), (yX9_common, cX9_common, 5, (some .int), kX9_common), (yX9_series, cX9_series, 5, (some .int), kX9_series), (yX9_leftOut, cX9_leftOut, 3, (some .int), kX9_leftOut), (yX9_trial, cX9_trial, 6, (some .int), kX9_trial), (yX9_isKind, cX9_isKind, 1, (some .boolean), kX9_isKind), (yX9_isTale, cX9_isTale, 1, (some .boolean), kX9_isTale), (yX9_isLevel, cX9_isLevel, 1, (some .boolean), kX9_isLevel)]
def jm_2 : List jT := [(yX9_isDigit, cX9_isDigit, 1, (some .boolean), kX9_isDigit), (yX9_orNone, cX9_orNone, 1, (some .int), kX9_orNone), (yX9_refusedLikeness, cX9_refusedLikeness, 3, (some .int), kX9_refusedLikeness), (yX9_tiesToldOf, cX9_tiesToldOf, 4, (some .int), kX9_tiesToldOf), (yX9_isInUse, cX9_isInUse, 2, (some .boolean), kX9_isInUse), (yX9_isRight, cX9_isRight, 3, (some .boolean), kX9_isRight), (yX9_isPeaceWithout, cX9_isPeaceWithout, 3, (some .boolean), kX9_isPeaceWithout), (yX10_in, cX10_in, 3, (some .boolean), kX10_in), (yX10_isKind, cX10_isKind, 1, (some .boolean), kX10_isKind), (yX10_isTale, cX10_isTale, 1, (some .boolean), kX10_isTale), (yX10_at, cX10_at, 2, (some .int), kX10_at), (yX10_tiesOf, cX10_tiesOf, 5, (some .int), kX10_tiesOf), (yX10_isUsed, cX10_isUsed, 5, (some .boolean), kX10_isUsed), (yX10_isWide, cX10_isWide, 4, (some .boolean), kX10_isWide), (yX10_kind, cX10_kind, 5, (some .int), kX10_kind), (yX10_above, cX10_above, 5, (some .int), kX10_above)]
def jm_3 : List jT := [(yX10_wider, cX10_wider, 5, (some .int), kX10_wider), (yX10_free, cX10_free, 2, none, kX10_free), (yX10_opposite, cX10_opposite, 3, (some .int), kX10_opposite), (yX10_ofKind, cX10_ofKind, 3, (some .int), kX10_ofKind), (yX10_alikeAt, cX10_alikeAt, 5, (some .int), kX10_alikeAt), (yX10_alike, cX10_alike, 3, (some .int), kX10_alike), (yX10_timed, cX10_timed, 3, (some .int), kX10_timed), (yX10_empty, cX10_empty, 4, none, kX10_empty), (yX10_tale, cX10_tale, 3, (some .int), kX10_tale), (yX10_isThing, cX10_isThing, 3, (some .boolean), kX10_isThing), (yX10_sort, cX10_sort, 5, (some .int), kX10_sort), (yX10_label, cX10_label, 4, (some .int), kX10_label), (yX10_isEnd, cX10_isEnd, 3, (some .boolean), kX10_isEnd), (yX10_tieWith, cX10_tieWith, 10, (some .int), kX10_tieWith), (yX10_heightOf, cX10_heightOf, 10, (some .int), kX10_heightOf), (yX10_put, cX10_put, 8, none, kX10_put)]
def jm_4 : List jT := [(yX10_tie, cX10_tie, 8, (some .int), kX10_tie), (yX10_ofTie, cX10_ofTie, 4, (some .int), kX10_ofTie), (yX10_highest, cX10_highest, 4, (some .int), kX10_highest), (yX10_ofTale, cX10_ofTale, 3, (some .int), kX10_ofTale), (yX10_become, cX10_become, 4, none, kX10_become), (yX10_copy, cX10_copy, 3, (some .int), kX10_copy), (yX10_endAnswers, cX10_endAnswers, 3, (some .boolean), kX10_endAnswers), (yX10_sign, cX10_sign, 1, (some .int), kX10_sign), (yX10_goes, cX10_goes, 11, (some .boolean), kX10_goes), (yX10_tieAnswers, cX10_tieAnswers, 12, (some .boolean), kX10_tieAnswers), (yX10_weigh, cX10_weigh, 10, (some .int), kX10_weigh), (yX10_pairsOfRow, cX10_pairsOfRow, 4, (some .int), kX10_pairsOfRow), (yX10_isPairing, cX10_isPairing, 5, (some .boolean), kX10_isPairing), (yX10_firstRow, cX10_firstRow, 4, none, kX10_firstRow), (yX10_nextRow, cX10_nextRow, 4, (some .boolean), kX10_nextRow), (yX10_isWeighed, cX10_isWeighed, 5, (some .boolean), kX10_isWeighed)]
def jm_5 : List jT := [(yX10_likeness, cX10_likeness, 9, (some .int), kX10_likeness), (yX10_isLevel, cX10_isLevel, 1, (some .boolean), kX10_isLevel), (yX10_like, cX10_like, 6, (some .int), kX10_like), (yX10_partner, cX10_partner, 2, (some .int), kX10_partner), (yX10_answer, cX10_answer, 2, (some .int), kX10_answer), (yX10_digits, cX10_digits, 4, (some .int), kX10_digits), (yX10_likes, cX10_likes, 9, (some .int), kX10_likes), (yX10_worth, cX10_worth, 8, (some .int), kX10_worth), (yX10_same, cX10_same, 6, (some .int), kX10_same), (yX10_over, cX10_over, 3, (some .int), kX10_over), (yX10_layGuesses, cX10_layGuesses, 5, none, kX10_layGuesses), (yX10_hasGuess, cX10_hasGuess, 4, (some .boolean), kX10_hasGuess), (yX10_isAgainst, cX10_isAgainst, 2, (some .boolean), kX10_isAgainst), (yX10_takeKept, cX10_takeKept, 2, none, kX10_takeKept), (yX10_guess, cX10_guess, 2, (some .int), kX10_guess), (yX10_ofGuess, cX10_ofGuess, 4, (some .int), kX10_ofGuess)]
def jm_6 : List jT := [(yX10_bits, cX10_bits, 3, (some .int), kX10_bits), (yX10_speaks, cX10_speaks, 4, (some .boolean), kX10_speaks), (yX10_giveUp, cX10_giveUp, 5, (some .int), kX10_giveUp), (yX10_boundOf, cX10_boundOf, 10, (some .int), kX10_boundOf), (yX10_bound, cX10_bound, 3, (some .int), kX10_bound), (yX10_likest, cX10_likest, 8, (some .int), kX10_likest), (yX10_seek, cX10_seek, 3, (some .int), kX10_seek), (yX10_sought, cX10_sought, 2, (some .int), kX10_sought), (yX10_moved, cX10_moved, 2, (some .int), kX10_moved), (yX10_add, cX10_add, 7, (some .int), kX10_add), (yX10_common, cX10_common, 9, (some .int), kX10_common), (yX10_inMade, cX10_inMade, 4, (some .int), kX10_inMade), (yX10_series, cX10_series, 13, (some .int), kX10_series), (yX10_leftOut, cX10_leftOut, 3, (some .int), kX10_leftOut), (yX10_trial, cX10_trial, 7, (some .int), kX10_trial), (yX0_take, cX0_take, 7, none, kX0_take)]
def jm_7 : List jT := [(yX0_compareTie, cX0_compareTie, 8, none, kX0_compareTie), (yX0_noteEnds, cX0_noteEnds, 4, none, kX0_noteEnds), (yX0_readDigits, cX0_readDigits, 7, (some .boolean), kX0_readDigits), (yX0_settle, cX0_settle, 6, (some .int), kX0_settle), (yX0_hope, cX0_hope, 9, (some .int), kX0_hope), (yX0_noteFree, cX0_noteFree, 5, none, kX0_noteFree), (yX0_gain, cX0_gain, 5, (some .int), kX0_gain), (yX0_reachable, cX0_reachable, 6, (some .int), kX0_reachable), (yX0_reach, cX0_reach, 7, (some .int), kX0_reach), (yX0_firstOf, cX0_firstOf, 3, (some .int), kX0_firstOf), (yX0_spread, cX0_spread, 5, none, kX0_spread), (yX0_sortsShared, cX0_sortsShared, 4, (some .int), kX0_sortsShared), (yX1_gather, cX1_gather, 2, none, kX1_gather), (yX1_isGuess, cX1_isGuess, 4, (some .boolean), kX1_isGuess), (yX1_over, cX1_over, 3, (some .int), kX1_over), (yX1_endOver, cX1_endOver, 3, (some .int), kX1_endOver)]
def jm_8 : List jT := [(yX1_isHeld, cX1_isHeld, 4, (some .boolean), kX1_isHeld), (yX1_isAgainst, cX1_isAgainst, 5, (some .boolean), kX1_isAgainst), (yX1_isTold, cX1_isTold, 5, (some .boolean), kX1_isTold), (yX2_take, cX2_take, 5, none, kX2_take), (yX2_takePairing, cX2_takePairing, 3, none, kX2_takePairing), (yX2_pairedThings, cX2_pairedThings, 3, (some .int), kX2_pairedThings), (yX3_isLinked, cX3_isLinked, 3, (some .boolean), kX3_isLinked), (yX3_mayStandOver, cX3_mayStandOver, 5, (some .boolean), kX3_mayStandOver), (yX3_oppose, cX3_oppose, 3, none, kX3_oppose), (yX3_loosen, cX3_loosen, 3, none, kX3_loosen), (yX3_above, cX3_above, 5, (some .int), kX3_above), (yX3_meetingLevel, cX3_meetingLevel, 4, (some .int), kX3_meetingLevel), (yX4_empty, cX4_empty, 3, none, kX4_empty), (yX4_become, cX4_become, 2, none, kX4_become), (yX4_hasEnds, cX4_hasEnds, 5, (some .boolean), kX4_hasEnds), (yX4_isEnd, cX4_isEnd, 2, (some .boolean), kX4_isEnd)]
def jm_9 : List jT := [(yX4_find, cX4_find, 10, (some .int), kX4_find), (yX4_put, cX4_put, 7, (some .int), kX4_put), (yX4_heightOfEnd, cX4_heightOfEnd, 2, (some .int), kX4_heightOfEnd), (yX4_greatestHeight, cX4_greatestHeight, 3, (some .int), kX4_greatestHeight), (yX4_countOfKind, cX4_countOfKind, 4, (some .int), kX4_countOfKind), (yX4_countOfMoments, cX4_countOfMoments, 3, (some .int), kX4_countOfMoments), (yX5_likeness, cX5_likeness, 5, (some .int), kX5_likeness), (yX5_list, cX5_list, 2, (some .int), kX5_list), (yX5_digits, cX5_digits, 3, (some .int), kX5_digits), (yX5_mostAnswering, cX5_mostAnswering, 4, (some .int), kX5_mostAnswering), (yX5_isSame, cX5_isSame, 4, (some .boolean), kX5_isSame), (yX5_prepare, cX5_prepare, 8, none, kX5_prepare), (yX5_open, cX5_open, 2, none, kX5_open), (yX5_place, cX5_place, 4, none, kX5_place), (yX5_isHopeful, cX5_isHopeful, 4, (some .boolean), kX5_isHopeful), (yX5_sortHope, cX5_sortHope, 6, (some .int), kX5_sortHope)]
def jm_10 : List jT := [(yX5_arrive, cX5_arrive, 3, none, kX5_arrive), (yX5_keepPartners, cX5_keepPartners, 1, none, kX5_keepPartners), (yX6_likest, cX6_likest, 7, (some .int), kX6_likest), (yX6_greatestBound, cX6_greatestBound, 3, (some .int), kX6_greatestBound), (yX6_boundOf, cX6_boundOf, 6, (some .int), kX6_boundOf), (yX6_countOfSort, cX6_countOfSort, 4, (some .int), kX6_countOfSort), (yX7_take, cX7_take, 6, none, kX7_take), (yX7_inStep, cX7_inStep, 6, (some .int), kX7_inStep), (yX7_outOfStep, cX7_outOfStep, 8, (some .int), kX7_outOfStep), (yX7_isOrdered, cX7_isOrdered, 3, (some .boolean), kX7_isOrdered), (yX7_add, cX7_add, 5, none, kX7_add), (yX7_heaviestOrder, cX7_heaviestOrder, 4, (some .int), kX7_heaviestOrder), (yX8_weaveCommon, cX8_weaveCommon, 6, none, kX8_weaveCommon), (yX8_noteFirst, cX8_noteFirst, 3, none, kX8_noteFirst), (yX8_weaveLeft, cX8_weaveLeft, 6, none, kX8_weaveLeft), (yX8_bridge, cX8_bridge, 3, none, kX8_bridge)]
def jm_11 : List jT := [(yX8_putWon, cX8_putWon, 5, (some .boolean), kX8_putWon), (yX8_clear, cX8_clear, 2, none, kX8_clear), (yX8_bringEnds, cX8_bringEnds, 5, (some .boolean), kX8_bringEnds), (yX8_newEnd, cX8_newEnd, 4, (some .int), kX8_newEnd), (yX8_findOrPut, cX8_findOrPut, 4, (some .int), kX8_findOrPut), (yJ6_bitCount_0f7a4, cJ6_bitCount_0f7a4, 1, (some .int), kJ6_bitCount)]
def jms : List (List jT) := [jm_0, jm_1, jm_2, jm_3, jm_4, jm_5, jm_6, jm_7, jm_8, jm_9, jm_10, jm_11]
def jdf : jT := (⟨"", "", ""⟩, ⟨#[]⟩, 0, none, [])
def jmt (y : Nat) : jT := (jms.getD (y / 16) []).getD (y % 16) jdf
/-- the words, in their lists -/
def jw (p : Nat) : Option Cond := (jwc.getD (p / 64) [])[p % 64]?
/-- of each method: parameters, 1 for a static one, its class -/
def jhs : List (List (Nat × Nat × Nat)) := [[(3, 0, 9), (2, 0, 9), (2, 0, 9), (2, 0, 9), (2, 0, 9), (1, 0, 9), (2, 0, 9), (3, 0, 9), (2, 0, 9), (6, 0, 9), (3, 0, 9), (2, 0, 9), (2, 0, 9), (3, 0, 9), (1, 0, 9), (1, 0, 9)], [(4, 0, 9), (4, 0, 9), (2, 0, 9), (1, 0, 9), (2, 0, 9), (0, 0, 9), (2, 0, 9), (1, 0, 9), (1, 0, 9), (4, 0, 9), (4, 0, 9), (2, 0, 9), (1, 0, 9), (1, 1, 9), (1, 1, 9), (1, 1, 9)], [(1, 1, 9), (1, 1, 9), (3, 1, 9), (1, 0, 9), (1, 0, 9), (2, 0, 9), (1, 0, 9), (3, 1, 10), (1, 1, 10), (1, 1, 10), (2, 1, 10), (1, 0, 10), (1, 0, 10), (1, 0, 10), (3, 0, 10), (2, 0, 10)], [(2, 0, 10), (1, 0, 10), (2, 0, 10), (2, 0, 10), (3, 0, 10), (2, 0, 10), (1, 0, 10), (2, 0, 10), (2, 0, 10), (2, 0, 10), (3, 0, 10), (2, 0, 10), (2, 0, 10), (5, 0, 10), (5, 0, 10), (6, 0, 10)], [(6, 0, 10), (3, 0, 10), (1, 0, 10), (2, 0, 10), (2, 0, 10), (2, 0, 10), (2, 0, 10), (1, 1, 10), (4, 0, 10), (5, 0, 10), (4, 0, 10), (1, 0, 10), (1, 0, 10), (2, 0, 10), (2, 0, 10), (3, 0, 10)], [(4, 0, 10), (1, 1, 10), (3, 0, 10), (1, 0, 10), (1, 0, 10), (1, 0, 10), (4, 0, 10), (4, 0, 10), (2, 0, 10), (1, 0, 10), (0, 0, 10), (2, 0, 10), (1, 0, 10), (0, 0, 10), (1, 0, 10), (2, 0, 10)], [(1, 1, 10), (1, 0, 10), (0, 0, 10), (2, 0, 10), (2, 0, 10), (1, 0, 10), (1, 0, 10), (1, 0, 10), (1, 0, 10), (5, 0, 10), (4, 0, 10), (2, 0, 10), (4, 0, 10), (2, 0, 10), (1, 0, 10), (5, 0, 0)], [(2, 0, 0), (1, 0, 0), (1, 0, 0), (0, 0, 0), (1, 0, 0), (1, 0, 0), (4, 0, 0), (1, 0, 0), (2, 0, 0), (1, 0, 0), (2, 0, 0), (0, 0, 0), (0, 0, 1), (1, 0, 1), (1, 0, 1), (2, 0, 1)], [(3, 0, 1), (3, 0, 1), (4, 0, 1), (4, 0, 2), (2, 0, 2), (0, 0, 2), (1, 0, 3), (2, 0, 3), (2, 0, 3), (1, 0, 3), (2, 0, 3), (2, 0, 3), (1, 0, 4), (1, 0, 4), (4, 0, 4), (1, 0, 4)], [(5, 0, 4), (5, 0, 4), (1, 0, 4), (0, 0, 4), (1, 0, 4), (0, 0, 4), (4, 0, 5), (1, 0, 5), (0, 0, 5), (3, 0, 5), (2, 0, 5), (5, 0, 5), (0, 0, 5), (3, 1, 5), (1, 0, 5), (1, 0, 5)], [(0, 0, 5), (0, 0, 5), (2, 0, 6), (0, 0, 6), (2, 1, 6), (2, 1, 6), (3, 0, 7), (3, 0, 7), (3, 0, 7), (2, 0, 7), (3, 0, 7), (0, 0, 7), (2, 0, 8), (1, 0, 8), (2, 0, 8), (1, 0, 8)], [(2, 0, 8), (0, 0, 8), (2, 0, 8), (1, 0, 8), (2, 0, 8), (1, 1, 11)]]
def jh (y : Nat) : Nat × Nat × Nat := (jhs.getD (y / 16) []).getD (y % 16) (0, 0, 0)
def jcn (c : Nat) : String := match c with
  | 0 => RX0
  | 1 => RX1
  | 2 => RX2
  | 3 => RX3
  | 4 => RX4
  | 5 => RX5
  | 6 => RX6
  | 7 => RX7
  | 8 => RX8
  | 9 => RX9
  | 10 => RX10
  | 11 => RJ6
  | _ => ""
def jT_ (c : Nat) : u_T := match c with
  | 0 => TX0
  | 1 => TX1
  | 2 => TX2
  | 3 => TX3
  | 4 => TX4
  | 5 => TX5
  | 6 => TX6
  | 7 => TX7
  | 8 => TX8
  | 9 => TX9
  | 10 => TX10
  | _ => TX0
def jfes : List (Nat × Nat × Nat × Nat) := [(9, 42, 9, 0), (9, 110, 3, 0), (9, 113, 3, 1), (9, 121, 3, 2), (9, 132, 3, 3), (9, 9, 9, 8), (9, 46, 9, 1), (9, 149, 4, 0), (9, 155, 4, 3), (9, 158, 4, 2), (9, 165, 4, 1), (9, 176, 4, 4), (9, 179, 4, 5), (9, 180, 4, 6), (9, 183, 4, 7), (9, 58, 9, 4), (9, 54, 9, 3), (9, 64, 2, 3), (9, 202, 2, 4), (9, 50, 9, 2), (9, 68, 0, 5), (9, 72, 0, 6), (9, 213, 2, 0), (9, 216, 2, 5), (9, 217, 2, 6), (9, 240, 2, 7), (9, 243, 1, 3), (9, 246, 1, 4), (9, 258, 2, 1), (9, 261, 2, 2), (9, 96, 9, 7), (9, 13, 9, 9), (9, 281, 6, 3), (9, 16, 9, 10), (9, 284, 6, 4), (9, 20, 9, 11), (9, 87, 9, 6), (9, 294, 8, 2), (9, 78, 9, 5), (10, 32, 10, 8), (10, 35, 10, 9), (10, 89, 10, 17), (10, 17, 10, 2), (10, 20, 10, 3), (10, 7, 10, 0), (10, 13, 10, 1), (10, 114, 10, 4), (10, 23, 10, 5), (10, 29, 10, 7), (10, 26, 10, 6), (10, 38, 10, 10), (10, 41, 10, 11), (10, 155, 10, 12), (10, 172, 10, 14), (10, 175, 10, 15), (10, 178, 10, 16), (10, 44, 10, 13), (10, 201, 10, 18), (10, 204, 10, 19), (10, 47, 10, 20), (10, 50, 10, 21), (10, 56, 10, 24), (10, 210, 10, 22), (10, 53, 10, 23), (10, 237, 10, 25), (10, 240, 10, 26), (10, 246, 10, 27), (10, 249, 10, 28), (10, 252, 10, 29), (10, 59, 10, 30), (10, 62, 10, 31), (10, 65, 10, 32), (10, 74, 10, 35), (10, 68, 10, 33), (10, 71, 10, 34), (0, 12, 0, 1), (0, 18, 0, 2), (0, 21, 0, 3), (0, 28, 0, 4), (0, 68, 4, 1), (0, 54, 0, 12), (0, 42, 0, 8), (0, 45, 0, 9), (0, 48, 0, 10), (0, 51, 0, 11), (0, 60, 0, 0), (0, 79, 4, 4), (0, 88, 4, 6), (0, 91, 3, 1), (0, 95, 4, 5), (0, 98, 4, 0), (0, 32, 0, 5), (0, 36, 0, 6), (0, 105, 7, 2), (0, 39, 0, 7), (0, 116, 4, 7), (0, 57, 0, 13), (0, 145, 7, 3), (0, 152, 4, 3), (1, 9, 1, 3), (1, 22, 1, 0), (1, 32, 4, 1), (1, 19, 1, 5), (1, 29, 1, 2), (1, 15, 1, 4), (1, 40, 4, 5), (1, 26, 1, 1), (1, 47, 4, 4), (1, 54, 3, 3), (2, 9, 2, 0), (2, 15, 2, 1), (2, 19, 2, 2), (2, 29, 2, 3), (2, 25, 2, 4), (2, 32, 2, 5), (2, 36, 2, 6), (2, 44, 2, 7), (2, 61, 4, 0), (3, 19, 3, 2), (3, 22, 3, 3), (3, 9, 3, 0), (4, 9, 4, 0), (4, 15, 4, 1), (4, 18, 4, 2), (4, 21, 4, 3), (4, 25, 4, 4), (4, 28, 4, 5), (4, 31, 4, 6), (4, 34, 4, 7), (4, 47, 3, 1), (5, 42, 5, 10), (5, 63, 5, 1), (5, 54, 5, 0), (5, 36, 5, 8), (5, 45, 5, 11), (5, 48, 5, 12), (5, 51, 5, 13), (5, 12, 5, 2), (5, 85, 4, 0), (5, 88, 4, 1), (5, 39, 5, 9), (5, 18, 5, 3), (5, 21, 5, 4), (5, 94, 0, 4), (5, 98, 7, 2), (5, 33, 5, 7), (5, 25, 5, 5), (5, 109, 4, 3), (5, 29, 5, 6), (6, 22, 6, 0), (6, 30, 4, 1), (6, 9, 6, 2), (6, 15, 6, 3), (6, 19, 6, 4), (6, 26, 6, 1), (6, 49, 4, 4), (6, 52, 4, 7), (6, 72, 4, 0), (6, 75, 4, 3), (7, 12, 7, 0), (7, 18, 7, 1), (7, 21, 7, 2), (7, 32, 7, 5), (7, 29, 7, 4), (7, 25, 7, 3), (7, 46, 4, 1), (7, 49, 4, 6), (7, 36, 7, 6), (7, 39, 7, 7), (8, 12, 8, 2), (8, 52, 4, 0), (8, 41, 8, 1), (8, 56, 0, 5), (8, 25, 8, 5), (8, 61, 4, 3), (8, 64, 4, 1), (8, 67, 0, 6), (8, 37, 8, 0), (8, 74, 4, 4), (8, 28, 8, 6), (8, 18, 8, 3), (8, 22, 8, 4), (8, 94, 4, 2), (8, 97, 4, 6), (8, 31, 8, 7), (8, 106, 4, 5), (8, 34, 8, 8)]
def jmes : List (Nat × Nat × Nat) := [(9, 100, 29), (9, 104, 36), (9, 107, 134), (9, 117, 135), (9, 124, 33), (9, 128, 136), (9, 135, 35), (9, 138, 139), (9, 142, 30), (9, 145, 140), (9, 152, 32), (9, 161, 142), (9, 168, 144), (9, 172, 145), (9, 186, 147), (9, 190, 141), (9, 194, 34), (9, 198, 131), (9, 205, 150), (9, 209, 132), (9, 218, 151), (9, 221, 152), (9, 224, 111), (9, 227, 114), (9, 230, 115), (9, 233, 123), (9, 236, 154), (9, 248, 127), (9, 251, 128), (9, 255, 129), (9, 262, 133), (9, 265, 181), (9, 270, 38), (9, 273, 164), (9, 277, 162), (9, 287, 31), (9, 290, 172), (9, 297, 173), (9, 300, 174), (9, 303, 175), (9, 306, 176), (9, 309, 153), (9, 313, 37), (9, 316, 148), (9, 319, 124), (10, 77, 39), (10, 81, 42), (10, 85, 43), (10, 93, 40), (10, 97, 44), (10, 100, 45), (10, 103, 49), (10, 107, 47), (10, 110, 52), (10, 118, 41), (10, 121, 55), (10, 125, 57), (10, 129, 62), (10, 133, 60), (10, 136, 61), (10, 139, 63), (10, 143, 66), (10, 146, 68), (10, 149, 71), (10, 152, 70), (10, 158, 73), (10, 162, 72), (10, 166, 76), (10, 169, 75), (10, 181, 77), (10, 184, 79), (10, 188, 74), (10, 192, 78), (10, 195, 81), (10, 198, 80), (10, 207, 85), (10, 213, 89), (10, 216, 91), (10, 219, 90), (10, 222, 93), (10, 225, 92), (10, 228, 96), (10, 231, 97), (10, 234, 99), (10, 243, 101), (10, 255, 104), (10, 258, 105), (10, 261, 107), (0, 64, 166), (0, 71, 112), (0, 75, 113), (0, 82, 139), (0, 101, 119), (0, 109, 167), (0, 113, 121), (0, 119, 118), (0, 123, 117), (0, 126, 169), (0, 130, 122), (0, 133, 171), (0, 142, 120), (0, 148, 170), (1, 36, 125), (1, 43, 126), (1, 50, 130), (1, 59, 127), (1, 63, 144), (2, 48, 141), (2, 58, 124), (3, 25, 137), (3, 29, 138), (4, 43, 143), (4, 53, 146), (5, 64, 155), (5, 68, 157), (5, 78, 115), (5, 82, 156), (5, 91, 111), (5, 112, 160), (5, 115, 158), (5, 119, 181), (5, 128, 116), (5, 131, 159), (5, 134, 161), (6, 35, 164), (6, 39, 163), (6, 43, 150), (6, 61, 148), (6, 68, 165), (7, 42, 149), (7, 52, 168), (8, 45, 177), (8, 48, 140), (8, 70, 178), (8, 77, 139), (8, 88, 138), (8, 91, 180), (8, 109, 179), (8, 113, 144), (8, 117, 145)]
def jnes : List (Nat × Nat × Nat) := [(0, 137, 5), (2, 52, 6), (4, 37, 6), (4, 57, 4), (5, 72, 6), (5, 103, 4), (5, 125, 5), (6, 55, 4), (6, 65, 5), (7, 56, 4), (8, 83, 4), (8, 100, 6)]
/-- the classes of the groups of cells: nets 0 to 17, then the single objects -/
def jCls : List Nat := [4, 4, 4, 4, 4, 4, 4, 4, 4, 4, 4, 4, 4, 4, 4, 4, 4, 4, 9, 3, 0, 7, 5, 2, 1, 1, 8, 6, 10]
/-- of each class its own arrays: (cell, kind, length); 1 int, 2 boolean, 3 references -/
def jTyp : List (List (Nat × Nat × Nat)) := [[(6, 1, 6), (7, 1, 14), (8, 1, 14), (9, 1, 14), (10, 1, 14), (11, 1, 14), (12, 1, 14), (13, 1, 72), (14, 1, 3)],
  [(5, 1, 14), (6, 1, 14)],
  [(6, 1, 6), (7, 1, 14)],
  [(1, 1, 16), (2, 2, 16), (3, 1, 16), (4, 1, 16)],
  [(4, 1, 6), (5, 1, 14), (6, 1, 42), (7, 1, 14), (8, 1, 14)],
  [(6, 1, 6), (11, 1, 6)],
  [(3, 1, 12)],
  [(4, 1, 10), (5, 1, 10), (7, 1, 100), (8, 1, 10)],
  [(4, 1, 6), (5, 1, 14), (6, 1, 6), (7, 1, 14), (8, 1, 14), (9, 1, 3)],
  [(2, 3, 12)],
  [(1, 1, 16), (2, 2, 16), (3, 1, 16), (4, 1, 16), (6, 1, 15), (7, 1, 90), (8, 1, 15), (9, 1, 15), (10, 1, 1260), (11, 1, 6), (12, 1, 14), (14, 1, 6), (21, 1, 6), (22, 1, 14), (24, 1, 14), (25, 1, 14), (31, 1, 6), (32, 1, 14), (33, 1, 6), (34, 1, 14), (35, 1, 14), (36, 1, 14)]]
/-- of each class its fields: 0 int, 4 boolean, 1 a reference that stays, 3 a net that changes -/
def jft : List (List Nat) := [[1, 3, 3, 0, 1, 1, 1, 1, 1, 1, 1, 1, 1, 1], [1, 1, 1, 0, 1, 1], [4, 0, 4, 1, 1, 1, 1, 1], [1, 1, 1, 1], [0, 0, 0, 1, 1, 1, 1, 1], [1, 1, 3, 3, 4, 1, 0, 0, 0, 0, 1, 4, 0, 0], [1, 1, 1, 0, 0], [3, 3, 4, 1, 1, 0, 1, 1], [1, 1, 1, 1, 1, 1, 1, 1, 1], [1, 1, 1, 1, 1, 1, 1, 1, 4, 4, 0, 0], [1, 1, 1, 1, 0, 1, 1, 1, 1, 1, 1, 1, 0, 1, 0, 0, 0, 4, 0, 4, 1, 1, 0, 1, 1, 0, 0, 4, 0, 0, 1, 1, 1, 1, 1, 1]]
/-- where the references of the single objects lead -/
def jFx : List (List (Int × Nat)) := [[(19, 0), (18, 2), (20, 0), (22, 0), (23, 0), (25, 0), (26, 0), (27, 0), (0, 0), (0, 0), (0, 0), (0, 0)],
  [(19, 1), (19, 2), (19, 3), (19, 4)],
  [(19, 0), (0, 0), (0, 0), (0, 0), (21, 0), (20, 6), (20, 7), (20, 8), (20, 9), (20, 10), (20, 11), (20, 12), (20, 13), (20, 14)],
  [(0, 0), (0, 0), (0, 0), (21, 4), (21, 5), (0, 0), (21, 7), (21, 8)],
  [(20, 0), (20, 6), (0, 0), (0, 0), (0, 0), (22, 6), (0, 0), (0, 0), (0, 0), (0, 0), (22, 11), (0, 0), (0, 0), (0, 0)],
  [(0, 0), (0, 0), (0, 0), (12, 0), (13, 0), (23, 6), (23, 7), (24, 0)],
  [(12, 0), (23, 6), (23, 7), (0, 0), (24, 5), (24, 6)],
  [(12, 0), (20, 6), (20, 7), (0, 0), (25, 5), (25, 6)],
  [(19, 0), (20, 0), (14, 0), (26, 4), (26, 5), (26, 6), (26, 7), (26, 8), (26, 9)],
  [(18, 2), (22, 0), (27, 3), (0, 0), (0, 0)],
  [(28, 1), (28, 2), (28, 3), (28, 4), (0, 0), (28, 6), (28, 7), (28, 8), (28, 9), (28, 10), (28, 11), (28, 12), (0, 0), (28, 14), (0, 0), (0, 0), (0, 0), (0, 0), (0, 0), (0, 0), (28, 21), (28, 22), (0, 0), (28, 24), (28, 25), (0, 0), (0, 0), (0, 0), (0, 0), (0, 0), (28, 31), (28, 32), (28, 33), (28, 34), (28, 35), (28, 36)]]
end
section
/-! A SMALL MACHINE FOR THE WORLD BEHIND THE CONSTRUCTORS: cells (group, cell), ints as integers; each instruction's effect as a proposition; it follows the machine's own steps. -/
abbrev jV : Type := Int ⊕ (Int × Nat)
abbrev jM : Type := Int → Nat → Int → Int
def jI (z : Int) : Int32 := Int32.ofInt z
def jwr (z : Int) : Int := (Int32.ofInt z).toInt
def jCl (g : Int) : Nat := match g with
  | .ofNat n => jCls.getD n 99
  | .negSucc _ => 99
def jAr (g : Int) (k : Nat) : Nat × Nat := match (jTyp.getD (jCl g) []).find? (fun a => a.1 == k) with
  | some a => a.2
  | none => (0, 0)
/-- the length of an int array; 0 where there is none -/
def jal (g : Int) (k : Nat) : Int := match jAr g k with
  | (1, n) => (n : Int)
  | _ => 0
def jbl (g : Int) (k : Nat) : Int := match jAr g k with
  | (2, n) => (n : Int)
  | _ => 0
def jfc (g : Int) (s : Nat) : Int × Nat := match g with
  | .ofNat n => bif Nat.blt n 18 then (g, s + 1) else (jFx.getD (n - 18) []).getD s (0, 0)
  | .negSucc _ => (0, 0)
def jup (M : jM) (g : Int) (k : Nat) (j v : Int) : jM := fun a b c => if a = g ∧ b = k ∧ c = j then v else M a b c
def jcp (M : jM) (g : Int) (k : Nat) (sp : Int) (g' : Int) (k' : Nat) (dp n : Int) : jM := fun a b c => if a = g' ∧ b = k' ∧ dp ≤ c ∧ c < dp + n then M g k (sp + (c - dp)) else M a b c
def jiand (a b : Int) : Int := (jI a &&& jI b).toInt
def jior (a b : Int) : Int := (jI a ||| jI b).toInt
def jixor (a b : Int) : Int := (jI a ^^^ jI b).toInt
def jishl (a b : Int) : Int := (jI a <<< (jI b &&& 31)).toInt
def jishr (a b : Int) : Int := (jI a >>> (jI b &&& 31)).toInt
def jiushr (a b : Int) : Int := ((jI a).toUInt32 >>> ((jI b).toUInt32 &&& Int32.toUInt32 31)).toInt32.toInt
def jct (c : Jvm.ClassFile.Cond) (a b : Int) : Prop := match c with
  | .eq => a = b
  | .ne => ¬ a = b
  | .lt => a < b
  | .ge => b ≤ a
  | .gt => b < a
  | .le => a ≤ b
def jcf (c : Jvm.ClassFile.Cond) (a b : Int) : Prop := match c with
  | .eq => ¬ a = b
  | .ne => a = b
  | .lt => b ≤ a
  | .ge => a < b
  | .gt => a ≤ b
  | .le => b < a
def jtg (pc : Nat) (off : Int) : Nat := ((pc : Int) + off).toNat
abbrev jK : Type := Nat → List (Option jV) → List jV → jM → Prop
def jld (ls : List (Option jV)) (i : Nat) (K : jV → Prop) : Prop := match ls.getD i none with
  | some v => K v
  | none => False
def jldi (ls : List (Option jV)) (i : Nat) (K : Int → Prop) : Prop := match ls.getD i none with
  | some (.inl z) => K z
  | _ => False
def jldr (ls : List (Option jV)) (i : Nat) (K : Int → Nat → Prop) : Prop := match ls.getD i none with
  | some (.inr q) => K q.1 q.2
  | _ => False
def jsw (z lo : Int) : List Int → (Int → Prop) → Prop
  | [], _ => True
  | o :: os, K => (z = lo → K o) ∧ jsw z (lo + 1) os K
def jb2 (st : List jV) (K : Int → Int → List jV → Prop) : Prop := match st with
  | .inl b :: .inl a :: r => K a b r
  | _ => False
def jb1 (st : List jV) (K : Int → List jV → Prop) : Prop := match st with
  | .inl a :: r => K a r
  | _ => False
def jbr (st : List jV) (K : Int → Nat → List jV → Prop) : Prop := match st with
  | .inr q :: r => K q.1 q.2 r
  | _ => False
/-- the receiver of a call is an object of the class -/
def jrc (cz : Nat) (as : List jV) (P : Prop) : Prop := match as with
  | .inr q :: _ => bif q.2 == 0 then (bif cz == 4 then (0 ≤ q.1 ∧ q.1 < 18) ∧ P else bif jCl q.1 == cz then P else False) else False
  | _ => False
/-- one instruction; C: the calls -/
def jst (C : Nat → List jV → jM → (Int → jM → Prop) → Prop) (Q : Int → jM → Prop) (o : jO) (pc : Nat) (ls : List (Option jV)) (st : List jV) (M : jM) (K : jK) : Prop :=
  match o.1 with
  | .iconst z => K (pc + 1) ls (.inl z :: st) M
  | .bipush z => K (pc + 2) ls (.inl z :: st) M
  | .sipush z => K (pc + 3) ls (.inl z :: st) M
  | .ldc_w _ => K (pc + 3) ls (.inl (o.2.2.1 : Int) :: st) M
  | .iload i => jldi ls i fun z => K (pc + 2) ls (.inl z :: st) M
  | .iload_n i => jldi ls i.val fun z => K (pc + 1) ls (.inl z :: st) M
  | .aload i => jldr ls i fun g k => K (pc + 2) ls (.inr (g, k) :: st) M
  | .aload_n i => jldr ls i.val fun g k => K (pc + 1) ls (.inr (g, k) :: st) M
  | .istore i => jb1 st fun z r => K (pc + 2) (ls.set i (some (.inl z))) r M
  | .istore_n i => jb1 st fun z r => K (pc + 1) (ls.set i.val (some (.inl z))) r M
  | .astore i => jbr st fun g k r => K (pc + 2) (ls.set i (some (.inr (g, k)))) r M
  | .astore_n i => jbr st fun g k r => K (pc + 1) (ls.set i.val (some (.inr (g, k)))) r M
  | .iinc i c => jldi ls i fun z => K (pc + 3) (ls.set i (some (.inl (jwr (z + c))))) st M
  | .iadd => jb2 st fun a b r => K (pc + 1) ls (.inl (jwr (a + b)) :: r) M
  | .isub => jb2 st fun a b r => K (pc + 1) ls (.inl (jwr (a - b)) :: r) M
  | .imul => jb2 st fun a b r => K (pc + 1) ls (.inl (jwr (a * b)) :: r) M
  | .idiv => jb2 st fun a b r => ¬ b = 0 ∧ K (pc + 1) ls (.inl (jwr (a.tdiv b)) :: r) M
  | .irem => jb2 st fun a b r => ¬ b = 0 ∧ K (pc + 1) ls (.inl (jwr (a - a.tdiv b * b)) :: r) M
  | .ineg => jb1 st fun a r => K (pc + 1) ls (.inl (jwr (-a)) :: r) M
  | .iand => jb2 st fun a b r => K (pc + 1) ls (.inl (jiand a b) :: r) M
  | .ior => jb2 st fun a b r => K (pc + 1) ls (.inl (jior a b) :: r) M
  | .ixor => jb2 st fun a b r => K (pc + 1) ls (.inl (jixor a b) :: r) M
  | .ishl => jb2 st fun a b r => K (pc + 1) ls (.inl (jishl a b) :: r) M
  | .ishr => jb2 st fun a b r => K (pc + 1) ls (.inl (jishr a b) :: r) M
  | .iushr => jb2 st fun a b r => K (pc + 1) ls (.inl (jiushr a b) :: r) M
  | .if_icmp c off => jb2 st fun a b r => (jct c a b → K (jtg pc off) ls r M) ∧ (jcf c a b → K (pc + 3) ls r M)
  | .ifCond c off => jb1 st fun a r => (jct c a 0 → K (jtg pc off) ls r M) ∧ (jcf c a 0 → K (pc + 3) ls r M)
  | .goto off => K (jtg pc off) ls st M
  | .tableswitch dflt lo hi offs => jb1 st fun z r => ((z < lo ∨ hi < z) → K (jtg pc dflt) ls r M) ∧ jsw z lo offs.toList (fun off => K (jtg pc off) ls r M)
  | .dup => match st with
    | v :: r => K (pc + 1) ls (v :: v :: r) M
    | _ => False
  | .dup2 => match st with
    | v :: w :: r => K (pc + 1) ls (v :: w :: v :: w :: r) M
    | _ => False
  | .pop => match st with
    | _ :: r => K (pc + 1) ls r M
    | _ => False
  | .getfield _ => jbr st fun g k r => bif k == 0 then
      (bif o.2.2.1 == 4 then
        (bif o.2.2.2.2.1 == 1 then (0 ≤ g ∧ g < 18) ∧ K (pc + 3) ls (.inr (g, o.2.2.2.1 + 1) :: r) M else (0 ≤ g ∧ g < 18) ∧ K (pc + 3) ls (.inl (M g 0 o.2.2.2.1) :: r) M)
      else (bif jCl g == o.2.2.1 then
        (bif o.2.2.2.2.1 == 1 then K (pc + 3) ls (.inr (jfc g o.2.2.2.1) :: r) M
         else bif o.2.2.2.2.1 == 3 then K (pc + 3) ls (.inr (M g 0 o.2.2.2.1, 0) :: r) M
         else K (pc + 3) ls (.inl (M g 0 o.2.2.2.1) :: r) M) else False)) else False
  | .putfield _ => match st with
    | .inl z :: .inr q :: r => bif q.2 == 0 then
      (bif o.2.2.1 == 4 then (bif o.2.2.2.2.1 == 0 then (0 ≤ q.1 ∧ q.1 < 18) ∧ K (pc + 3) ls r (jup M q.1 0 o.2.2.2.1 z) else False)
       else bif jCl q.1 == o.2.2.1 then
        (bif o.2.2.2.2.1 == 0 then K (pc + 3) ls r (jup M q.1 0 o.2.2.2.1 z)
         else bif o.2.2.2.2.1 == 4 then (z = 0 ∨ z = 1) ∧ K (pc + 3) ls r (jup M q.1 0 o.2.2.2.1 z) else False) else False) else False
    | .inr p :: .inr q :: r => bif (q.2 == 0 && p.2 == 0) && (jCl q.1 == o.2.2.1 && o.2.2.2.2.1 == 3) then (0 ≤ p.1 ∧ p.1 < 18) ∧ K (pc + 3) ls r (jup M q.1 0 o.2.2.2.1 p.1) else False
    | _ => False
  | .iaload => match st with
    | .inl i :: .inr q :: r => (0 ≤ i ∧ i < jal q.1 q.2) ∧ K (pc + 1) ls (.inl (M q.1 q.2 i) :: r) M
    | _ => False
  | .iastore => match st with
    | .inl z :: .inl i :: .inr q :: r => (0 ≤ i ∧ i < jal q.1 q.2) ∧ K (pc + 1) ls r (jup M q.1 q.2 i z)
    | _ => False
  | .baload => match st with
    | .inl i :: .inr q :: r => (0 ≤ i ∧ i < jbl q.1 q.2) ∧ K (pc + 1) ls (.inl (M q.1 q.2 i) :: r) M
    | _ => False
  | .bastore => match st with
    | .inl z :: .inl i :: .inr q :: r => (0 ≤ i ∧ i < jbl q.1 q.2) ∧ (z = 0 ∨ z = 1) ∧ K (pc + 1) ls r (jup M q.1 q.2 i z)
    | _ => False
  | .aaload => match st with
    | .inl i :: .inr q :: r => bif decide (q = (18, 2)) then (0 ≤ i ∧ i < 12) ∧ K (pc + 1) ls (.inr (i, 0) :: r) M else False
    | _ => False
  | .arraylength => jbr st fun g k r => 0 < jal g k ∧ K (pc + 1) ls (.inl (jal g k) :: r) M
  | .invokevirtual _ => bif Nat.ble o.2.2.2.1 st.length && Nat.ble (st.drop o.2.2.2.1).length 8 then
      jrc (jh o.2.2.1).2.2 (st.take o.2.2.2.1).reverse (bif o.2.2.2.2.1 == 1 then C o.2.2.1 (st.take o.2.2.2.1).reverse M (fun _ M' => K (pc + 3) ls (st.drop o.2.2.2.1) M')
       else bif o.2.2.2.2.1 == 0 then C o.2.2.1 (st.take o.2.2.2.1).reverse M (fun r M' => K (pc + 3) ls (.inl r :: st.drop o.2.2.2.1) M') else False) else False
  | .invokestatic _ => bif o.2.2.2.2.1 == 4 then jb2 st fun a b r => bif Nat.ble r.length 8 then K (pc + 3) ls (.inl (if a < b then b else a) :: r) M else False
      else bif o.2.2.2.2.1 == 5 then jb2 st fun a b r => bif Nat.ble r.length 8 then K (pc + 3) ls (.inl (if b < a then b else a) :: r) M else False
      else bif o.2.2.2.2.1 == 6 then (match st with
        | .inl n :: .inl dp :: .inr q' :: .inl sp :: .inr q :: r => bif Nat.ble r.length 8 then (0 ≤ sp ∧ 0 ≤ dp ∧ 0 < n ∧ sp + n ≤ jal q.1 q.2 ∧ dp + n ≤ jal q'.1 q'.2) ∧ K (pc + 3) ls r (jcp M q.1 q.2 sp q'.1 q'.2 dp n) else False
        | _ => False)
      else bif Nat.ble o.2.2.2.1 st.length && Nat.ble (st.drop o.2.2.2.1).length 8 then
      (bif o.2.2.2.2.1 == 3 then C o.2.2.1 (st.take o.2.2.2.1).reverse M (fun _ M' => K (pc + 3) ls (st.drop o.2.2.2.1) M')
       else bif o.2.2.2.2.1 == 2 then C o.2.2.1 (st.take o.2.2.2.1).reverse M (fun r M' => K (pc + 3) ls (.inl r :: st.drop o.2.2.2.1) M') else False) else False
  | .ireturn => match st with
    | [.inl z] => bif o.2.2.1 == 1 then (z = 0 ∨ z = 1) ∧ Q z M else Q z M
    | _ => False
  | .return_ => match st with
    | [] => Q 0 M
    | _ => False
  | _ => False
end
section
theorem jw_sub : ∀ c ∈ jwc, ∀ w ∈ c, w ∈ wsL_law := by
  intro c hc w hw
  rw [wsL_eq]
  exact List.mem_append_left _ (List.mem_flatten.mpr ⟨c, hc, hw⟩)
theorem jw_mem {p : Nat} {w : Jvm.Cond} (h : jw p = some w) : w ∈ wsL_law := by
  unfold jw at h
  have h1 := List.mem_of_getElem? h
  rw [List.getD_eq_getElem?_getD] at h1
  cases hc : jwc[p / 64]? with
  | none => rw [hc] at h1; cases h1
  | some c =>
    rw [hc] at h1
    exact jw_sub c (List.mem_of_getElem? hc) w h1
def jfP (q : Nat × Nat × Nat × Nat) : Prop := Jvm.Cond.fieldLink (jcn q.1) q.2.1 (jcn q.2.2.1) (jT_ q.2.2.1 q.2.2.2).2.1 (jT_ q.2.2.1 q.2.2.2).2.2.1 ∈ wsL_law ∧ (jT_ q.2.2.1 q.2.2.2).1 = jcn q.2.2.1
def jmP (q : Nat × Nat × Nat) : Prop := Jvm.Cond.methodLink (jcn q.1) q.2.1 (jmt q.2.2).1 ∈ wsL_law
def jnN (k : Nat) : MethodName := if k = 4 then Lib.Math.max.name else if k = 5 then Lib.Math.min.name else arraycopyName
def jnP (q : Nat × Nat × Nat) : Prop := Jvm.Cond.methodLink (jcn q.1) q.2.1 (jnN q.2.2) ∈ wsL_law
/-- of method z: its class, its words -/
def jhP (z : Nat) : Prop := (jmt z).1.cls = jcn (jh z).2.2 ∧ Jvm.Cond.code (jmt z).1 (jmt z).2.1 (jmt z).2.2.1 (jmt z).2.2.2.1 ∈ wsL_law ∧ Jvm.Cond.initialized (jmt z).1.cls ∈ wsL_law ∧ (bif (jh z).2.1 == 1 then Jvm.Cond.static (jmt z).1 ∈ wsL_law else Jvm.Cond.instanceMethod (jmt z).1 ∈ wsL_law ∧ Jvm.Cond.selects (jmt z).1.cls (jmt z).1 (jmt z).1 ∈ wsL_law) ∧
  (parseMethodDescriptor (jmt z).1.desc).map (fun d => d.parameters.length) = some (jh z).1 ∧ Nat.ble (jmt z).2.2.1 40 = true
theorem jf_0 : jfP (9, 42, 9, 0) := ⟨jw_mem (p := 71) rfl, rfl⟩
theorem jf_1 : jfP (9, 110, 3, 0) := ⟨jw_mem (p := 524) rfl, rfl⟩
theorem jf_2 : jfP (9, 113, 3, 1) := ⟨jw_mem (p := 525) rfl, rfl⟩
theorem jf_3 : jfP (9, 121, 3, 2) := ⟨jw_mem (p := 656) rfl, rfl⟩
theorem jf_4 : jfP (9, 132, 3, 3) := ⟨jw_mem (p := 772) rfl, rfl⟩
theorem jf_5 : jfP (9, 9, 9, 8) := ⟨jw_mem (p := 12) rfl, rfl⟩
theorem jf_6 : jfP (9, 46, 9, 1) := ⟨jw_mem (p := 72) rfl, rfl⟩
theorem jf_7 : jfP (9, 149, 4, 0) := ⟨jw_mem (p := 916) rfl, rfl⟩
theorem jf_8 : jfP (9, 155, 4, 3) := ⟨jw_mem (p := 917) rfl, rfl⟩
theorem jf_9 : jfP (9, 158, 4, 2) := ⟨jw_mem (p := 973) rfl, rfl⟩
theorem jf_10 : jfP (9, 165, 4, 1) := ⟨jw_mem (p := 982) rfl, rfl⟩
theorem jf_11 : jfP (9, 176, 4, 4) := ⟨jw_mem (p := 1152) rfl, rfl⟩
theorem jf_12 : jfP (9, 179, 4, 5) := ⟨jw_mem (p := 1153) rfl, rfl⟩
theorem jf_13 : jfP (9, 180, 4, 6) := ⟨jw_mem (p := 1154) rfl, rfl⟩
theorem jf_14 : jfP (9, 183, 4, 7) := ⟨jw_mem (p := 1155) rfl, rfl⟩
theorem jf_15 : jfP (9, 58, 9, 4) := ⟨jw_mem (p := 75) rfl, rfl⟩
theorem jf_16 : jfP (9, 54, 9, 3) := ⟨jw_mem (p := 74) rfl, rfl⟩
theorem jf_17 : jfP (9, 64, 2, 3) := ⟨jw_mem (p := 79) rfl, rfl⟩
theorem jf_18 : jfP (9, 202, 2, 4) := ⟨jw_mem (p := 533) rfl, rfl⟩
theorem jf_19 : jfP (9, 50, 9, 2) := ⟨jw_mem (p := 73) rfl, rfl⟩
theorem jf_20 : jfP (9, 68, 0, 5) := ⟨jw_mem (p := 80) rfl, rfl⟩
theorem jf_21 : jfP (9, 72, 0, 6) := ⟨jw_mem (p := 81) rfl, rfl⟩
theorem jf_22 : jfP (9, 213, 2, 0) := ⟨jw_mem (p := 1863) rfl, rfl⟩
theorem jf_23 : jfP (9, 216, 2, 5) := ⟨jw_mem (p := 1864) rfl, rfl⟩
theorem jf_24 : jfP (9, 217, 2, 6) := ⟨jw_mem (p := 1873) rfl, rfl⟩
theorem jf_25 : jfP (9, 240, 2, 7) := ⟨jw_mem (p := 2054) rfl, rfl⟩
theorem jf_26 : jfP (9, 243, 1, 3) := ⟨jw_mem (p := 2055) rfl, rfl⟩
theorem jf_27 : jfP (9, 246, 1, 4) := ⟨jw_mem (p := 2056) rfl, rfl⟩
theorem jf_28 : jfP (9, 258, 2, 1) := ⟨jw_mem (p := 2194) rfl, rfl⟩
theorem jf_29 : jfP (9, 261, 2, 2) := ⟨jw_mem (p := 2195) rfl, rfl⟩
theorem jf_30 : jfP (9, 96, 9, 7) := ⟨jw_mem (p := 130) rfl, rfl⟩
theorem jf_31 : jfP (9, 13, 9, 9) := ⟨jw_mem (p := 13) rfl, rfl⟩
theorem jf_32 : jfP (9, 281, 6, 3) := ⟨jw_mem (p := 2368) rfl, rfl⟩
theorem jf_33 : jfP (9, 16, 9, 10) := ⟨jw_mem (p := 14) rfl, rfl⟩
theorem jf_34 : jfP (9, 284, 6, 4) := ⟨jw_mem (p := 2369) rfl, rfl⟩
theorem jf_35 : jfP (9, 20, 9, 11) := ⟨jw_mem (p := 15) rfl, rfl⟩
theorem jf_36 : jfP (9, 87, 9, 6) := ⟨jw_mem (p := 86) rfl, rfl⟩
theorem jf_37 : jfP (9, 294, 8, 2) := ⟨jw_mem (p := 2445) rfl, rfl⟩
theorem jf_38 : jfP (9, 78, 9, 5) := ⟨jw_mem (p := 82) rfl, rfl⟩
theorem jf_39 : jfP (10, 32, 10, 8) := ⟨jw_mem (p := 465) rfl, rfl⟩
theorem jf_40 : jfP (10, 35, 10, 9) := ⟨jw_mem (p := 466) rfl, rfl⟩
theorem jf_41 : jfP (10, 89, 10, 17) := ⟨jw_mem (p := 640) rfl, rfl⟩
theorem jf_42 : jfP (10, 17, 10, 2) := ⟨jw_mem (p := 460) rfl, rfl⟩
theorem jf_43 : jfP (10, 20, 10, 3) := ⟨jw_mem (p := 461) rfl, rfl⟩
theorem jf_44 : jfP (10, 7, 10, 0) := ⟨jw_mem (p := 458) rfl, rfl⟩
theorem jf_45 : jfP (10, 13, 10, 1) := ⟨jw_mem (p := 459) rfl, rfl⟩
theorem jf_46 : jfP (10, 114, 10, 4) := ⟨jw_mem (p := 849) rfl, rfl⟩
theorem jf_47 : jfP (10, 23, 10, 5) := ⟨jw_mem (p := 462) rfl, rfl⟩
theorem jf_48 : jfP (10, 29, 10, 7) := ⟨jw_mem (p := 464) rfl, rfl⟩
theorem jf_49 : jfP (10, 26, 10, 6) := ⟨jw_mem (p := 463) rfl, rfl⟩
theorem jf_50 : jfP (10, 38, 10, 10) := ⟨jw_mem (p := 467) rfl, rfl⟩
theorem jf_51 : jfP (10, 41, 10, 11) := ⟨jw_mem (p := 468) rfl, rfl⟩
theorem jf_52 : jfP (10, 155, 10, 12) := ⟨jw_mem (p := 1739) rfl, rfl⟩
theorem jf_53 : jfP (10, 172, 10, 14) := ⟨jw_mem (p := 1736) rfl, rfl⟩
theorem jf_54 : jfP (10, 175, 10, 15) := ⟨jw_mem (p := 1737) rfl, rfl⟩
theorem jf_55 : jfP (10, 178, 10, 16) := ⟨jw_mem (p := 1738) rfl, rfl⟩
theorem jf_56 : jfP (10, 44, 10, 13) := ⟨jw_mem (p := 469) rfl, rfl⟩
theorem jf_57 : jfP (10, 201, 10, 18) := ⟨jw_mem (p := 1687) rfl, rfl⟩
theorem jf_58 : jfP (10, 204, 10, 19) := ⟨jw_mem (p := 1728) rfl, rfl⟩
theorem jf_59 : jfP (10, 47, 10, 20) := ⟨jw_mem (p := 470) rfl, rfl⟩
theorem jf_60 : jfP (10, 50, 10, 21) := ⟨jw_mem (p := 471) rfl, rfl⟩
theorem jf_61 : jfP (10, 56, 10, 24) := ⟨jw_mem (p := 513) rfl, rfl⟩
theorem jf_62 : jfP (10, 210, 10, 22) := ⟨jw_mem (p := 2061) rfl, rfl⟩
theorem jf_63 : jfP (10, 53, 10, 23) := ⟨jw_mem (p := 512) rfl, rfl⟩
theorem jf_64 : jfP (10, 237, 10, 25) := ⟨jw_mem (p := 2385) rfl, rfl⟩
theorem jf_65 : jfP (10, 240, 10, 26) := ⟨jw_mem (p := 2387) rfl, rfl⟩
theorem jf_66 : jfP (10, 246, 10, 27) := ⟨jw_mem (p := 2384) rfl, rfl⟩
theorem jf_67 : jfP (10, 249, 10, 28) := ⟨jw_mem (p := 2386) rfl, rfl⟩
theorem jf_68 : jfP (10, 252, 10, 29) := ⟨jw_mem (p := 2388) rfl, rfl⟩
theorem jf_69 : jfP (10, 59, 10, 30) := ⟨jw_mem (p := 514) rfl, rfl⟩
theorem jf_70 : jfP (10, 62, 10, 31) := ⟨jw_mem (p := 515) rfl, rfl⟩
theorem jf_71 : jfP (10, 65, 10, 32) := ⟨jw_mem (p := 516) rfl, rfl⟩
theorem jf_72 : jfP (10, 74, 10, 35) := ⟨jw_mem (p := 519) rfl, rfl⟩
theorem jf_73 : jfP (10, 68, 10, 33) := ⟨jw_mem (p := 517) rfl, rfl⟩
theorem jf_74 : jfP (10, 71, 10, 34) := ⟨jw_mem (p := 518) rfl, rfl⟩
theorem jf_75 : jfP (0, 12, 0, 1) := ⟨jw_mem (p := 146) rfl, rfl⟩
theorem jf_76 : jfP (0, 18, 0, 2) := ⟨jw_mem (p := 147) rfl, rfl⟩
theorem jf_77 : jfP (0, 21, 0, 3) := ⟨jw_mem (p := 148) rfl, rfl⟩
theorem jf_78 : jfP (0, 28, 0, 4) := ⟨jw_mem (p := 192) rfl, rfl⟩
theorem jf_79 : jfP (0, 68, 4, 1) := ⟨jw_mem (p := 1349) rfl, rfl⟩
theorem jf_80 : jfP (0, 54, 0, 12) := ⟨jw_mem (p := 200) rfl, rfl⟩
theorem jf_81 : jfP (0, 42, 0, 8) := ⟨jw_mem (p := 196) rfl, rfl⟩
theorem jf_82 : jfP (0, 45, 0, 9) := ⟨jw_mem (p := 197) rfl, rfl⟩
theorem jf_83 : jfP (0, 48, 0, 10) := ⟨jw_mem (p := 198) rfl, rfl⟩
theorem jf_84 : jfP (0, 51, 0, 11) := ⟨jw_mem (p := 199) rfl, rfl⟩
theorem jf_85 : jfP (0, 60, 0, 0) := ⟨jw_mem (p := 202) rfl, rfl⟩
theorem jf_86 : jfP (0, 79, 4, 4) := ⟨jw_mem (p := 1364) rfl, rfl⟩
theorem jf_87 : jfP (0, 88, 4, 6) := ⟨jw_mem (p := 1365) rfl, rfl⟩
theorem jf_88 : jfP (0, 91, 3, 1) := ⟨jw_mem (p := 1366) rfl, rfl⟩
theorem jf_89 : jfP (0, 95, 4, 5) := ⟨jw_mem (p := 1412) rfl, rfl⟩
theorem jf_90 : jfP (0, 98, 4, 0) := ⟨jw_mem (p := 1605) rfl, rfl⟩
theorem jf_91 : jfP (0, 32, 0, 5) := ⟨jw_mem (p := 193) rfl, rfl⟩
theorem jf_92 : jfP (0, 36, 0, 6) := ⟨jw_mem (p := 194) rfl, rfl⟩
theorem jf_93 : jfP (0, 105, 7, 2) := ⟨jw_mem (p := 1428) rfl, rfl⟩
theorem jf_94 : jfP (0, 39, 0, 7) := ⟨jw_mem (p := 195) rfl, rfl⟩
theorem jf_95 : jfP (0, 116, 4, 7) := ⟨jw_mem (p := 1429) rfl, rfl⟩
theorem jf_96 : jfP (0, 57, 0, 13) := ⟨jw_mem (p := 201) rfl, rfl⟩
theorem jf_97 : jfP (0, 145, 7, 3) := ⟨jw_mem (p := 1614) rfl, rfl⟩
theorem jf_98 : jfP (0, 152, 4, 3) := ⟨jw_mem (p := 1992) rfl, rfl⟩
theorem jf_99 : jfP (1, 9, 1, 3) := ⟨jw_mem (p := 384) rfl, rfl⟩
theorem jf_100 : jfP (1, 22, 1, 0) := ⟨jw_mem (p := 387) rfl, rfl⟩
theorem jf_101 : jfP (1, 32, 4, 1) := ⟨jw_mem (p := 1673) rfl, rfl⟩
theorem jf_102 : jfP (1, 19, 1, 5) := ⟨jw_mem (p := 386) rfl, rfl⟩
theorem jf_103 : jfP (1, 29, 1, 2) := ⟨jw_mem (p := 389) rfl, rfl⟩
theorem jf_104 : jfP (1, 15, 1, 4) := ⟨jw_mem (p := 385) rfl, rfl⟩
theorem jf_105 : jfP (1, 40, 4, 5) := ⟨jw_mem (p := 1678) rfl, rfl⟩
theorem jf_106 : jfP (1, 26, 1, 1) := ⟨jw_mem (p := 388) rfl, rfl⟩
theorem jf_107 : jfP (1, 47, 4, 4) := ⟨jw_mem (p := 2126) rfl, rfl⟩
theorem jf_108 : jfP (1, 54, 3, 3) := ⟨jw_mem (p := 2177) rfl, rfl⟩
theorem jf_109 : jfP (2, 9, 2, 0) := ⟨jw_mem (p := 330) rfl, rfl⟩
theorem jf_110 : jfP (2, 15, 2, 1) := ⟨jw_mem (p := 331) rfl, rfl⟩
theorem jf_111 : jfP (2, 19, 2, 2) := ⟨jw_mem (p := 332) rfl, rfl⟩
theorem jf_112 : jfP (2, 29, 2, 3) := ⟨jw_mem (p := 335) rfl, rfl⟩
theorem jf_113 : jfP (2, 25, 2, 4) := ⟨jw_mem (p := 334) rfl, rfl⟩
theorem jf_114 : jfP (2, 32, 2, 5) := ⟨jw_mem (p := 336) rfl, rfl⟩
theorem jf_115 : jfP (2, 36, 2, 6) := ⟨jw_mem (p := 337) rfl, rfl⟩
theorem jf_116 : jfP (2, 44, 2, 7) := ⟨jw_mem (p := 339) rfl, rfl⟩
theorem jf_117 : jfP (2, 61, 4, 0) := ⟨jw_mem (p := 2240) rfl, rfl⟩
theorem jf_118 : jfP (3, 19, 3, 2) := ⟨jw_mem (p := 139) rfl, rfl⟩
theorem jf_119 : jfP (3, 22, 3, 3) := ⟨jw_mem (p := 140) rfl, rfl⟩
theorem jf_120 : jfP (3, 9, 3, 0) := ⟨jw_mem (p := 136) rfl, rfl⟩
theorem jf_121 : jfP (4, 9, 4, 0) := ⟨jw_mem (p := 206) rfl, rfl⟩
theorem jf_122 : jfP (4, 15, 4, 1) := ⟨jw_mem (p := 207) rfl, rfl⟩
theorem jf_123 : jfP (4, 18, 4, 2) := ⟨jw_mem (p := 208) rfl, rfl⟩
theorem jf_124 : jfP (4, 21, 4, 3) := ⟨jw_mem (p := 209) rfl, rfl⟩
theorem jf_125 : jfP (4, 25, 4, 4) := ⟨jw_mem (p := 210) rfl, rfl⟩
theorem jf_126 : jfP (4, 28, 4, 5) := ⟨jw_mem (p := 211) rfl, rfl⟩
theorem jf_127 : jfP (4, 31, 4, 6) := ⟨jw_mem (p := 212) rfl, rfl⟩
theorem jf_128 : jfP (4, 34, 4, 7) := ⟨jw_mem (p := 213) rfl, rfl⟩
theorem jf_129 : jfP (4, 47, 3, 1) := ⟨jw_mem (p := 1035) rfl, rfl⟩
theorem jf_130 : jfP (5, 42, 5, 10) := ⟨jw_mem (p := 279) rfl, rfl⟩
theorem jf_131 : jfP (5, 63, 5, 1) := ⟨jw_mem (p := 325) rfl, rfl⟩
theorem jf_132 : jfP (5, 54, 5, 0) := ⟨jw_mem (p := 323) rfl, rfl⟩
theorem jf_133 : jfP (5, 36, 5, 8) := ⟨jw_mem (p := 277) rfl, rfl⟩
theorem jf_134 : jfP (5, 45, 5, 11) := ⟨jw_mem (p := 320) rfl, rfl⟩
theorem jf_135 : jfP (5, 48, 5, 12) := ⟨jw_mem (p := 321) rfl, rfl⟩
theorem jf_136 : jfP (5, 51, 5, 13) := ⟨jw_mem (p := 322) rfl, rfl⟩
theorem jf_137 : jfP (5, 12, 5, 2) := ⟨jw_mem (p := 271) rfl, rfl⟩
theorem jf_138 : jfP (5, 85, 4, 0) := ⟨jw_mem (p := 1302) rfl, rfl⟩
theorem jf_139 : jfP (5, 88, 4, 1) := ⟨jw_mem (p := 2005) rfl, rfl⟩
theorem jf_140 : jfP (5, 39, 5, 9) := ⟨jw_mem (p := 278) rfl, rfl⟩
theorem jf_141 : jfP (5, 18, 5, 3) := ⟨jw_mem (p := 272) rfl, rfl⟩
theorem jf_142 : jfP (5, 21, 5, 4) := ⟨jw_mem (p := 273) rfl, rfl⟩
theorem jf_143 : jfP (5, 94, 0, 4) := ⟨jw_mem (p := 1300) rfl, rfl⟩
theorem jf_144 : jfP (5, 98, 7, 2) := ⟨jw_mem (p := 1301) rfl, rfl⟩
theorem jf_145 : jfP (5, 33, 5, 7) := ⟨jw_mem (p := 276) rfl, rfl⟩
theorem jf_146 : jfP (5, 25, 5, 5) := ⟨jw_mem (p := 274) rfl, rfl⟩
theorem jf_147 : jfP (5, 109, 4, 3) := ⟨jw_mem (p := 1344) rfl, rfl⟩
theorem jf_148 : jfP (5, 29, 5, 6) := ⟨jw_mem (p := 275) rfl, rfl⟩
theorem jf_149 : jfP (6, 22, 6, 0) := ⟨jw_mem (p := 452) rfl, rfl⟩
theorem jf_150 : jfP (6, 30, 4, 1) := ⟨jw_mem (p := 2305) rfl, rfl⟩
theorem jf_151 : jfP (6, 9, 6, 2) := ⟨jw_mem (p := 449) rfl, rfl⟩
theorem jf_152 : jfP (6, 15, 6, 3) := ⟨jw_mem (p := 450) rfl, rfl⟩
theorem jf_153 : jfP (6, 19, 6, 4) := ⟨jw_mem (p := 451) rfl, rfl⟩
theorem jf_154 : jfP (6, 26, 6, 1) := ⟨jw_mem (p := 453) rfl, rfl⟩
theorem jf_155 : jfP (6, 49, 4, 4) := ⟨jw_mem (p := 2306) rfl, rfl⟩
theorem jf_156 : jfP (6, 52, 4, 7) := ⟨jw_mem (p := 2307) rfl, rfl⟩
theorem jf_157 : jfP (6, 72, 4, 0) := ⟨jw_mem (p := 2314) rfl, rfl⟩
theorem jf_158 : jfP (6, 75, 4, 3) := ⟨jw_mem (p := 2315) rfl, rfl⟩
theorem jf_159 : jfP (7, 12, 7, 0) := ⟨jw_mem (p := 258) rfl, rfl⟩
theorem jf_160 : jfP (7, 18, 7, 1) := ⟨jw_mem (p := 259) rfl, rfl⟩
theorem jf_161 : jfP (7, 21, 7, 2) := ⟨jw_mem (p := 260) rfl, rfl⟩
theorem jf_162 : jfP (7, 32, 7, 5) := ⟨jw_mem (p := 263) rfl, rfl⟩
theorem jf_163 : jfP (7, 29, 7, 4) := ⟨jw_mem (p := 262) rfl, rfl⟩
theorem jf_164 : jfP (7, 25, 7, 3) := ⟨jw_mem (p := 261) rfl, rfl⟩
theorem jf_165 : jfP (7, 46, 4, 1) := ⟨jw_mem (p := 1354) rfl, rfl⟩
theorem jf_166 : jfP (7, 49, 4, 6) := ⟨jw_mem (p := 1355) rfl, rfl⟩
theorem jf_167 : jfP (7, 36, 7, 6) := ⟨jw_mem (p := 264) rfl, rfl⟩
theorem jf_168 : jfP (7, 39, 7, 7) := ⟨jw_mem (p := 265) rfl, rfl⟩
theorem jf_169 : jfP (8, 12, 8, 2) := ⟨jw_mem (p := 396) rfl, rfl⟩
theorem jf_170 : jfP (8, 52, 4, 0) := ⟨jw_mem (p := 2450) rfl, rfl⟩
theorem jf_171 : jfP (8, 41, 8, 1) := ⟨jw_mem (p := 404) rfl, rfl⟩
theorem jf_172 : jfP (8, 56, 0, 5) := ⟨jw_mem (p := 2451) rfl, rfl⟩
theorem jf_173 : jfP (8, 25, 8, 5) := ⟨jw_mem (p := 399) rfl, rfl⟩
theorem jf_174 : jfP (8, 61, 4, 3) := ⟨jw_mem (p := 2452) rfl, rfl⟩
theorem jf_175 : jfP (8, 64, 4, 1) := ⟨jw_mem (p := 2453) rfl, rfl⟩
theorem jf_176 : jfP (8, 67, 0, 6) := ⟨jw_mem (p := 2454) rfl, rfl⟩
theorem jf_177 : jfP (8, 37, 8, 0) := ⟨jw_mem (p := 403) rfl, rfl⟩
theorem jf_178 : jfP (8, 74, 4, 4) := ⟨jw_mem (p := 2455) rfl, rfl⟩
theorem jf_179 : jfP (8, 28, 8, 6) := ⟨jw_mem (p := 400) rfl, rfl⟩
theorem jf_180 : jfP (8, 18, 8, 3) := ⟨jw_mem (p := 397) rfl, rfl⟩
theorem jf_181 : jfP (8, 22, 8, 4) := ⟨jw_mem (p := 398) rfl, rfl⟩
theorem jf_182 : jfP (8, 94, 4, 2) := ⟨jw_mem (p := 2583) rfl, rfl⟩
theorem jf_183 : jfP (8, 97, 4, 6) := ⟨jw_mem (p := 2624) rfl, rfl⟩
theorem jf_184 : jfP (8, 31, 8, 7) := ⟨jw_mem (p := 401) rfl, rfl⟩
theorem jf_185 : jfP (8, 106, 4, 5) := ⟨jw_mem (p := 2506) rfl, rfl⟩
theorem jf_186 : jfP (8, 34, 8, 8) := ⟨jw_mem (p := 402) rfl, rfl⟩
theorem jm__0 : jmP (9, 100, 29) := jw_mem (p := 526) rfl
theorem jm__1 : jmP (9, 104, 36) := jw_mem (p := 529) rfl
theorem jm__2 : jmP (9, 107, 134) := jw_mem (p := 582) rfl
theorem jm__3 : jmP (9, 117, 135) := jw_mem (p := 657) rfl
theorem jm__4 : jmP (9, 124, 33) := jw_mem (p := 661) rfl
theorem jm__5 : jmP (9, 128, 136) := jw_mem (p := 712) rfl
theorem jm__6 : jmP (9, 135, 35) := jw_mem (p := 534) rfl
theorem jm__7 : jmP (9, 138, 139) := jw_mem (p := 781) rfl
theorem jm__8 : jmP (9, 142, 30) := jw_mem (p := 854) rfl
theorem jm__9 : jmP (9, 145, 140) := jw_mem (p := 897) rfl
theorem jm__10 : jmP (9, 152, 32) := jw_mem (p := 918) rfl
theorem jm__11 : jmP (9, 161, 142) := jw_mem (p := 983) rfl
theorem jm__12 : jmP (9, 168, 144) := jw_mem (p := 1031) rfl
theorem jm__13 : jmP (9, 172, 145) := jw_mem (p := 1036) rfl
theorem jm__14 : jmP (9, 186, 147) := jw_mem (p := 1164) rfl
theorem jm__15 : jmP (9, 190, 141) := jw_mem (p := 1220) rfl
theorem jm__16 : jmP (9, 194, 34) := jw_mem (p := 1280) rfl
theorem jm__17 : jmP (9, 198, 131) := jw_mem (p := 1286) rfl
theorem jm__18 : jmP (9, 205, 150) := jw_mem (p := 1291) rfl
theorem jm__19 : jmP (9, 209, 132) := jw_mem (p := 1664) rfl
theorem jm__20 : jmP (9, 218, 151) := jw_mem (p := 1922) rfl
theorem jm__21 : jmP (9, 221, 152) := jw_mem (p := 1926) rfl
theorem jm__22 : jmP (9, 224, 111) := jw_mem (p := 1942) rfl
theorem jm__23 : jmP (9, 227, 114) := jw_mem (p := 1943) rfl
theorem jm__24 : jmP (9, 230, 115) := jw_mem (p := 1987) rfl
theorem jm__25 : jmP (9, 233, 123) := jw_mem (p := 1988) rfl
theorem jm__26 : jmP (9, 236, 154) := jw_mem (p := 2001) rfl
theorem jm__27 : jmP (9, 248, 127) := jw_mem (p := 2118) rfl
theorem jm__28 : jmP (9, 251, 128) := jw_mem (p := 2122) rfl
theorem jm__29 : jmP (9, 255, 129) := jw_mem (p := 2133) rfl
theorem jm__30 : jmP (9, 262, 133) := jw_mem (p := 2196) rfl
theorem jm__31 : jmP (9, 265, 181) := jw_mem (p := 2241) rfl
theorem jm__32 : jmP (9, 270, 38) := jw_mem (p := 2242) rfl
theorem jm__33 : jmP (9, 273, 164) := jw_mem (p := 2262) rfl
theorem jm__34 : jmP (9, 277, 162) := jw_mem (p := 2370) rfl
theorem jm__35 : jmP (9, 287, 31) := jw_mem (p := 1283) rfl
theorem jm__36 : jmP (9, 290, 172) := jw_mem (p := 2446) rfl
theorem jm__37 : jmP (9, 297, 173) := jw_mem (p := 2575) rfl
theorem jm__38 : jmP (9, 300, 174) := jw_mem (p := 2579) rfl
theorem jm__39 : jmP (9, 303, 175) := jw_mem (p := 2626) rfl
theorem jm__40 : jmP (9, 306, 176) := jw_mem (p := 2630) rfl
theorem jm__41 : jmP (9, 309, 153) := jw_mem (p := 2646) rfl
theorem jm__42 : jmP (9, 313, 37) := jw_mem (p := 2698) rfl
theorem jm__43 : jmP (9, 316, 148) := jw_mem (p := 578) rfl
theorem jm__44 : jmP (9, 319, 124) := jw_mem (p := 2246) rfl
theorem jm__45 : jmP (10, 77, 39) := jw_mem (p := 593) rfl
theorem jm__46 : jmP (10, 81, 42) := jw_mem (p := 645) rfl
theorem jm__47 : jmP (10, 85, 43) := jw_mem (p := 641) rfl
theorem jm__48 : jmP (10, 93, 40) := jw_mem (p := 590) rfl
theorem jm__49 : jmP (10, 97, 44) := jw_mem (p := 596) rfl
theorem jm__50 : jmP (10, 100, 45) := jw_mem (p := 648) rfl
theorem jm__51 : jmP (10, 103, 49) := jw_mem (p := 724) rfl
theorem jm__52 : jmP (10, 107, 47) := jw_mem (p := 837) rfl
theorem jm__53 : jmP (10, 110, 52) := jw_mem (p := 833) rfl
theorem jm__54 : jmP (10, 118, 41) := jw_mem (p := 905) rfl
theorem jm__55 : jmP (10, 121, 55) := jw_mem (p := 908) rfl
theorem jm__56 : jmP (10, 125, 57) := jw_mem (p := 965) rfl
theorem jm__57 : jmP (10, 129, 62) := jw_mem (p := 1104) rfl
theorem jm__58 : jmP (10, 133, 60) := jw_mem (p := 1092) rfl
theorem jm__59 : jmP (10, 136, 61) := jw_mem (p := 1096) rfl
theorem jm__60 : jmP (10, 139, 63) := jw_mem (p := 1100) rfl
theorem jm__61 : jmP (10, 143, 66) := jw_mem (p := 1172) rfl
theorem jm__62 : jmP (10, 146, 68) := jw_mem (p := 1232) rfl
theorem jm__63 : jmP (10, 149, 71) := jw_mem (p := 1812) rfl
theorem jm__64 : jmP (10, 152, 70) := jw_mem (p := 1804) rfl
theorem jm__65 : jmP (10, 158, 73) := jw_mem (p := 1800) rfl
theorem jm__66 : jmP (10, 162, 72) := jw_mem (p := 1808) rfl
theorem jm__67 : jmP (10, 166, 76) := jw_mem (p := 1748) rfl
theorem jm__68 : jmP (10, 169, 75) := jw_mem (p := 1792) rfl
theorem jm__69 : jmP (10, 181, 77) := jw_mem (p := 1740) rfl
theorem jm__70 : jmP (10, 184, 79) := jw_mem (p := 1744) rfl
theorem jm__71 : jmP (10, 188, 74) := jw_mem (p := 1796) rfl
theorem jm__72 : jmP (10, 192, 78) := jw_mem (p := 1815) rfl
theorem jm__73 : jmP (10, 195, 81) := jw_mem (p := 1729) rfl
theorem jm__74 : jmP (10, 198, 80) := jw_mem (p := 1732) rfl
theorem jm__75 : jmP (10, 207, 85) := jw_mem (p := 1934) rfl
theorem jm__76 : jmP (10, 213, 89) := jw_mem (p := 2070) rfl
theorem jm__77 : jmP (10, 216, 91) := jw_mem (p := 2182) rfl
theorem jm__78 : jmP (10, 219, 90) := jw_mem (p := 2066) rfl
theorem jm__79 : jmP (10, 222, 93) := jw_mem (p := 2062) rfl
theorem jm__80 : jmP (10, 225, 92) := jw_mem (p := 2186) rfl
theorem jm__81 : jmP (10, 228, 96) := jw_mem (p := 2251) rfl
theorem jm__82 : jmP (10, 231, 97) := jw_mem (p := 2254) rfl
theorem jm__83 : jmP (10, 234, 99) := jw_mem (p := 2320) rfl
theorem jm__84 : jmP (10, 243, 101) := jw_mem (p := 2389) rfl
theorem jm__85 : jmP (10, 255, 104) := jw_mem (p := 2563) rfl
theorem jm__86 : jmP (10, 258, 105) := jw_mem (p := 2567) rfl
theorem jm__87 : jmP (10, 261, 107) := jw_mem (p := 2638) rfl
theorem jm__88 : jmP (0, 64, 166) := jw_mem (p := 1350) rfl
theorem jm__89 : jmP (0, 71, 112) := jw_mem (p := 1360) rfl
theorem jm__90 : jmP (0, 75, 113) := jw_mem (p := 1408) rfl
theorem jm__91 : jmP (0, 82, 139) := jw_mem (p := 1367) rfl
theorem jm__92 : jmP (0, 101, 119) := jw_mem (p := 1430) rfl
theorem jm__93 : jmP (0, 109, 167) := jw_mem (p := 1478) rfl
theorem jm__94 : jmP (0, 113, 121) := jw_mem (p := 1486) rfl
theorem jm__95 : jmP (0, 119, 118) := jw_mem (p := 1490) rfl
theorem jm__96 : jmP (0, 123, 117) := jw_mem (p := 1601) rfl
theorem jm__97 : jmP (0, 126, 169) := jw_mem (p := 1606) rfl
theorem jm__98 : jmP (0, 130, 122) := jw_mem (p := 1610) rfl
theorem jm__99 : jmP (0, 133, 171) := jw_mem (p := 1619) rfl
theorem jm__100 : jmP (0, 142, 120) := jw_mem (p := 1474) rfl
theorem jm__101 : jmP (0, 148, 170) := jw_mem (p := 1615) rfl
theorem jm__102 : jmP (1, 36, 125) := jw_mem (p := 1674) rfl
theorem jm__103 : jmP (1, 43, 126) := jw_mem (p := 1679) rfl
theorem jm__104 : jmP (1, 50, 130) := jw_mem (p := 2127) rfl
theorem jm__105 : jmP (1, 59, 127) := jw_mem (p := 2131) rfl
theorem jm__106 : jmP (1, 63, 144) := jw_mem (p := 2132) rfl
theorem jm__107 : jmP (2, 48, 141) := jw_mem (p := 1290) rfl
theorem jm__108 : jmP (2, 58, 124) := jw_mem (p := 1669) rfl
theorem jm__109 : jmP (3, 25, 137) := jw_mem (p := 716) rfl
theorem jm__110 : jmP (3, 29, 138) := jw_mem (p := 785) rfl
theorem jm__111 : jmP (4, 43, 143) := jw_mem (p := 1027) rfl
theorem jm__112 : jmP (4, 53, 146) := jw_mem (p := 1044) rfl
theorem jm__113 : jmP (5, 64, 155) := jw_mem (p := 1296) rfl
theorem jm__114 : jmP (5, 68, 157) := jw_mem (p := 1417) rfl
theorem jm__115 : jmP (5, 78, 115) := jw_mem (p := 1424) rfl
theorem jm__116 : jmP (5, 82, 156) := jw_mem (p := 1413) rfl
theorem jm__117 : jmP (5, 91, 111) := jw_mem (p := 1345) rfl
theorem jm__118 : jmP (5, 112, 160) := jw_mem (p := 1420) rfl
theorem jm__119 : jmP (5, 115, 158) := jw_mem (p := 1549) rfl
theorem jm__120 : jmP (5, 119, 181) := jw_mem (p := 1538) rfl
theorem jm__121 : jmP (5, 128, 116) := jw_mem (p := 1556) rfl
theorem jm__122 : jmP (5, 131, 159) := jw_mem (p := 1494) rfl
theorem jm__123 : jmP (5, 134, 161) := jw_mem (p := 1545) rfl
theorem jm__124 : jmP (6, 35, 164) := jw_mem (p := 2374) rfl
theorem jm__125 : jmP (6, 39, 163) := jw_mem (p := 2375) rfl
theorem jm__126 : jmP (6, 43, 150) := jw_mem (p := 2379) rfl
theorem jm__127 : jmP (6, 61, 148) := jw_mem (p := 2310) rfl
theorem jm__128 : jmP (6, 68, 165) := jw_mem (p := 2311) rfl
theorem jm__129 : jmP (7, 42, 149) := jw_mem (p := 1356) rfl
theorem jm__130 : jmP (7, 52, 168) := jw_mem (p := 1482) rfl
theorem jm__131 : jmP (8, 45, 177) := jw_mem (p := 2497) rfl
theorem jm__132 : jmP (8, 48, 140) := jw_mem (p := 2501) rfl
theorem jm__133 : jmP (8, 70, 178) := jw_mem (p := 2502) rfl
theorem jm__134 : jmP (8, 77, 139) := jw_mem (p := 2511) rfl
theorem jm__135 : jmP (8, 88, 138) := jw_mem (p := 2512) rfl
theorem jm__136 : jmP (8, 91, 180) := jw_mem (p := 2513) rfl
theorem jm__137 : jmP (8, 109, 179) := jw_mem (p := 2507) rfl
theorem jm__138 : jmP (8, 113, 144) := jw_mem (p := 2517) rfl
theorem jm__139 : jmP (8, 117, 145) := jw_mem (p := 2518) rfl
theorem jn_0 : jnP (0, 137, 5) := jw_mem (p := 1600) rfl
theorem jn_1 : jnP (2, 52, 6) := jw_mem (p := 1668) rfl
theorem jn_2 : jnP (4, 37, 6) := jw_mem (p := 1224) rfl
theorem jn_3 : jnP (4, 57, 4) := jw_mem (p := 1040) rfl
theorem jn_4 : jnP (5, 72, 6) := jw_mem (p := 1295) rfl
theorem jn_5 : jnP (5, 103, 4) := jw_mem (p := 1303) rfl
theorem jn_6 : jnP (5, 125, 5) := jw_mem (p := 1553) rfl
theorem jn_7 : jnP (6, 55, 4) := jw_mem (p := 2308) rfl
theorem jn_8 : jnP (6, 65, 5) := jw_mem (p := 2309) rfl
theorem jn_9 : jnP (7, 56, 4) := jw_mem (p := 1623) rfl
theorem jn_10 : jnP (8, 83, 4) := jw_mem (p := 2496) rfl
theorem jn_11 : jnP (8, 100, 6) := jw_mem (p := 2625) rfl
theorem jhp_0 : jhP 0 := ⟨rfl, jw_mem (p := 523) rfl, jw_mem (p := 2) rfl, ⟨jw_mem (p := 521) rfl, jw_mem (p := 522) rfl⟩, by decide +kernel, rfl⟩
theorem jhp_1 : jhP 1 := ⟨rfl, jw_mem (p := 655) rfl, jw_mem (p := 2) rfl, ⟨jw_mem (p := 653) rfl, jw_mem (p := 654) rfl⟩, by decide +kernel, rfl⟩
theorem jhp_2 : jhP 2 := ⟨rfl, jw_mem (p := 711) rfl, jw_mem (p := 2) rfl, ⟨jw_mem (p := 709) rfl, jw_mem (p := 710) rfl⟩, by decide +kernel, rfl⟩
theorem jhp_3 : jhP 3 := ⟨rfl, jw_mem (p := 771) rfl, jw_mem (p := 2) rfl, ⟨jw_mem (p := 769) rfl, jw_mem (p := 770) rfl⟩, by decide +kernel, rfl⟩
theorem jhp_4 : jhP 4 := ⟨rfl, jw_mem (p := 780) rfl, jw_mem (p := 2) rfl, ⟨jw_mem (p := 778) rfl, jw_mem (p := 779) rfl⟩, by decide +kernel, rfl⟩
theorem jhp_5 : jhP 5 := ⟨rfl, jw_mem (p := 844) rfl, jw_mem (p := 2) rfl, ⟨jw_mem (p := 842) rfl, jw_mem (p := 843) rfl⟩, by decide +kernel, rfl⟩
theorem jhp_6 : jhP 6 := ⟨rfl, jw_mem (p := 853) rfl, jw_mem (p := 2) rfl, ⟨jw_mem (p := 851) rfl, jw_mem (p := 852) rfl⟩, by decide +kernel, rfl⟩
theorem jhp_7 : jhP 7 := ⟨rfl, jw_mem (p := 915) rfl, jw_mem (p := 2) rfl, ⟨jw_mem (p := 913) rfl, jw_mem (p := 914) rfl⟩, by decide +kernel, rfl⟩
theorem jhp_8 : jhP 8 := ⟨rfl, jw_mem (p := 972) rfl, jw_mem (p := 2) rfl, ⟨jw_mem (p := 970) rfl, jw_mem (p := 971) rfl⟩, by decide +kernel, rfl⟩
theorem jhp_9 : jhP 9 := ⟨rfl, jw_mem (p := 981) rfl, jw_mem (p := 2) rfl, ⟨jw_mem (p := 979) rfl, jw_mem (p := 980) rfl⟩, by decide +kernel, rfl⟩
theorem jhp_10 : jhP 10 := ⟨rfl, jw_mem (p := 1111) rfl, jw_mem (p := 2) rfl, ⟨jw_mem (p := 1109) rfl, jw_mem (p := 1110) rfl⟩, by decide +kernel, rfl⟩
theorem jhp_11 : jhP 11 := ⟨rfl, jw_mem (p := 1163) rfl, jw_mem (p := 2) rfl, ⟨jw_mem (p := 1161) rfl, jw_mem (p := 1162) rfl⟩, by decide +kernel, rfl⟩
theorem jhp_12 : jhP 12 := ⟨rfl, jw_mem (p := 1219) rfl, jw_mem (p := 2) rfl, ⟨jw_mem (p := 1217) rfl, jw_mem (p := 1218) rfl⟩, by decide +kernel, rfl⟩
theorem jhp_13 : jhP 13 := ⟨rfl, jw_mem (p := 1239) rfl, jw_mem (p := 2) rfl, ⟨jw_mem (p := 1237) rfl, jw_mem (p := 1238) rfl⟩, by decide +kernel, rfl⟩
theorem jhp_14 : jhP 14 := ⟨rfl, jw_mem (p := 1862) rfl, jw_mem (p := 2) rfl, ⟨jw_mem (p := 1860) rfl, jw_mem (p := 1861) rfl⟩, by decide +kernel, rfl⟩
theorem jhp_15 : jhP 15 := ⟨rfl, jw_mem (p := 1872) rfl, jw_mem (p := 2) rfl, ⟨jw_mem (p := 1870) rfl, jw_mem (p := 1871) rfl⟩, by decide +kernel, rfl⟩
theorem jhp_16 : jhP 16 := ⟨rfl, jw_mem (p := 1921) rfl, jw_mem (p := 2) rfl, ⟨jw_mem (p := 1879) rfl, jw_mem (p := 1920) rfl⟩, by decide +kernel, rfl⟩
theorem jhp_17 : jhP 17 := ⟨rfl, jw_mem (p := 1941) rfl, jw_mem (p := 2) rfl, ⟨jw_mem (p := 1939) rfl, jw_mem (p := 1940) rfl⟩, by decide +kernel, rfl⟩
theorem jhp_18 : jhP 18 := ⟨rfl, jw_mem (p := 2000) rfl, jw_mem (p := 2) rfl, ⟨jw_mem (p := 1998) rfl, jw_mem (p := 1999) rfl⟩, by decide +kernel, rfl⟩
theorem jhp_19 : jhP 19 := ⟨rfl, jw_mem (p := 2053) rfl, jw_mem (p := 2) rfl, ⟨jw_mem (p := 2051) rfl, jw_mem (p := 2052) rfl⟩, by decide +kernel, rfl⟩
theorem jhp_20 : jhP 20 := ⟨rfl, jw_mem (p := 2117) rfl, jw_mem (p := 2) rfl, ⟨jw_mem (p := 2115) rfl, jw_mem (p := 2116) rfl⟩, by decide +kernel, rfl⟩
theorem jhp_21 : jhP 21 := ⟨rfl, jw_mem (p := 2193) rfl, jw_mem (p := 2) rfl, ⟨jw_mem (p := 2191) rfl, jw_mem (p := 2192) rfl⟩, by decide +kernel, rfl⟩
theorem jhp_22 : jhP 22 := ⟨rfl, jw_mem (p := 2261) rfl, jw_mem (p := 2) rfl, ⟨jw_mem (p := 2259) rfl, jw_mem (p := 2260) rfl⟩, by decide +kernel, rfl⟩
theorem jhp_23 : jhP 23 := ⟨rfl, jw_mem (p := 2327) rfl, jw_mem (p := 2) rfl, ⟨jw_mem (p := 2325) rfl, jw_mem (p := 2326) rfl⟩, by decide +kernel, rfl⟩
theorem jhp_24 : jhP 24 := ⟨rfl, jw_mem (p := 2436) rfl, jw_mem (p := 2) rfl, ⟨jw_mem (p := 2434) rfl, jw_mem (p := 2435) rfl⟩, by decide +kernel, rfl⟩
theorem jhp_25 : jhP 25 := ⟨rfl, jw_mem (p := 2444) rfl, jw_mem (p := 2) rfl, ⟨jw_mem (p := 2442) rfl, jw_mem (p := 2443) rfl⟩, by decide +kernel, rfl⟩
theorem jhp_26 : jhP 26 := ⟨rfl, jw_mem (p := 2574) rfl, jw_mem (p := 2) rfl, ⟨jw_mem (p := 2572) rfl, jw_mem (p := 2573) rfl⟩, by decide +kernel, rfl⟩
theorem jhp_27 : jhP 27 := ⟨rfl, jw_mem (p := 2645) rfl, jw_mem (p := 2) rfl, ⟨jw_mem (p := 2643) rfl, jw_mem (p := 2644) rfl⟩, by decide +kernel, rfl⟩
theorem jhp_28 : jhP 28 := ⟨rfl, jw_mem (p := 2697) rfl, jw_mem (p := 2) rfl, ⟨jw_mem (p := 2695) rfl, jw_mem (p := 2696) rfl⟩, by decide +kernel, rfl⟩
theorem jhp_29 : jhP 29 := ⟨rfl, jw_mem (p := 528) rfl, jw_mem (p := 2) rfl, jw_mem (p := 527) rfl, by decide +kernel, rfl⟩
theorem jhp_30 : jhP 30 := ⟨rfl, jw_mem (p := 896) rfl, jw_mem (p := 2) rfl, jw_mem (p := 855) rfl, by decide +kernel, rfl⟩
theorem jhp_31 : jhP 31 := ⟨rfl, jw_mem (p := 1285) rfl, jw_mem (p := 2) rfl, jw_mem (p := 1284) rfl, by decide +kernel, rfl⟩
theorem jhp_32 : jhP 32 := ⟨rfl, jw_mem (p := 960) rfl, jw_mem (p := 2) rfl, jw_mem (p := 919) rfl, by decide +kernel, rfl⟩
theorem jhp_33 : jhP 33 := ⟨rfl, jw_mem (p := 663) rfl, jw_mem (p := 2) rfl, jw_mem (p := 662) rfl, by decide +kernel, rfl⟩
theorem jhp_34 : jhP 34 := ⟨rfl, jw_mem (p := 1282) rfl, jw_mem (p := 2) rfl, jw_mem (p := 1281) rfl, by decide +kernel, rfl⟩
theorem jhp_35 : jhP 35 := ⟨rfl, jw_mem (p := 577) rfl, jw_mem (p := 2) rfl, ⟨jw_mem (p := 535) rfl, jw_mem (p := 576) rfl⟩, by decide +kernel, rfl⟩
theorem jhp_36 : jhP 36 := ⟨rfl, jw_mem (p := 532) rfl, jw_mem (p := 2) rfl, ⟨jw_mem (p := 530) rfl, jw_mem (p := 531) rfl⟩, by decide +kernel, rfl⟩
theorem jhp_37 : jhP 37 := ⟨rfl, jw_mem (p := 2701) rfl, jw_mem (p := 2) rfl, ⟨jw_mem (p := 2699) rfl, jw_mem (p := 2700) rfl⟩, by decide +kernel, rfl⟩
theorem jhp_38 : jhP 38 := ⟨rfl, jw_mem (p := 2245) rfl, jw_mem (p := 2) rfl, ⟨jw_mem (p := 2243) rfl, jw_mem (p := 2244) rfl⟩, by decide +kernel, rfl⟩
theorem jhp_39 : jhP 39 := ⟨rfl, jw_mem (p := 595) rfl, jw_mem (p := 5) rfl, jw_mem (p := 594) rfl, by decide +kernel, rfl⟩
theorem jhp_40 : jhP 40 := ⟨rfl, jw_mem (p := 592) rfl, jw_mem (p := 5) rfl, jw_mem (p := 591) rfl, by decide +kernel, rfl⟩
theorem jhp_41 : jhP 41 := ⟨rfl, jw_mem (p := 907) rfl, jw_mem (p := 5) rfl, jw_mem (p := 906) rfl, by decide +kernel, rfl⟩
theorem jhp_42 : jhP 42 := ⟨rfl, jw_mem (p := 647) rfl, jw_mem (p := 5) rfl, jw_mem (p := 646) rfl, by decide +kernel, rfl⟩
theorem jhp_43 : jhP 43 := ⟨rfl, jw_mem (p := 644) rfl, jw_mem (p := 5) rfl, ⟨jw_mem (p := 642) rfl, jw_mem (p := 643) rfl⟩, by decide +kernel, rfl⟩
theorem jhp_44 : jhP 44 := ⟨rfl, jw_mem (p := 599) rfl, jw_mem (p := 5) rfl, ⟨jw_mem (p := 597) rfl, jw_mem (p := 598) rfl⟩, by decide +kernel, rfl⟩
theorem jhp_45 : jhP 45 := ⟨rfl, jw_mem (p := 651) rfl, jw_mem (p := 5) rfl, ⟨jw_mem (p := 649) rfl, jw_mem (p := 650) rfl⟩, by decide +kernel, rfl⟩
theorem jhp_46 : jhP 46 := ⟨rfl, jw_mem (p := 589) rfl, jw_mem (p := 5) rfl, ⟨jw_mem (p := 587) rfl, jw_mem (p := 588) rfl⟩, by decide +kernel, rfl⟩
theorem jhp_47 : jhP 47 := ⟨rfl, jw_mem (p := 840) rfl, jw_mem (p := 5) rfl, ⟨jw_mem (p := 838) rfl, jw_mem (p := 839) rfl⟩, by decide +kernel, rfl⟩
theorem jhp_48 : jhP 48 := ⟨rfl, jw_mem (p := 707) rfl, jw_mem (p := 5) rfl, ⟨jw_mem (p := 705) rfl, jw_mem (p := 706) rfl⟩, by decide +kernel, rfl⟩
theorem jhp_49 : jhP 49 := ⟨rfl, jw_mem (p := 727) rfl, jw_mem (p := 5) rfl, ⟨jw_mem (p := 725) rfl, jw_mem (p := 726) rfl⟩, by decide +kernel, rfl⟩
theorem jhp_50 : jhP 50 := ⟨rfl, jw_mem (p := 723) rfl, jw_mem (p := 5) rfl, ⟨jw_mem (p := 721) rfl, jw_mem (p := 722) rfl⟩, by decide +kernel, rfl⟩
theorem jhp_51 : jhP 51 := ⟨rfl, jw_mem (p := 776) rfl, jw_mem (p := 5) rfl, ⟨jw_mem (p := 774) rfl, jw_mem (p := 775) rfl⟩, by decide +kernel, rfl⟩
theorem jhp_52 : jhP 52 := ⟨rfl, jw_mem (p := 836) rfl, jw_mem (p := 5) rfl, ⟨jw_mem (p := 834) rfl, jw_mem (p := 835) rfl⟩, by decide +kernel, rfl⟩
theorem jhp_53 : jhP 53 := ⟨rfl, jw_mem (p := 832) rfl, jw_mem (p := 5) rfl, ⟨jw_mem (p := 790) rfl, jw_mem (p := 791) rfl⟩, by decide +kernel, rfl⟩
theorem jhp_54 : jhP 54 := ⟨rfl, jw_mem (p := 848) rfl, jw_mem (p := 5) rfl, ⟨jw_mem (p := 846) rfl, jw_mem (p := 847) rfl⟩, by decide +kernel, rfl⟩
theorem jhp_55 : jhP 55 := ⟨rfl, jw_mem (p := 911) rfl, jw_mem (p := 5) rfl, ⟨jw_mem (p := 909) rfl, jw_mem (p := 910) rfl⟩, by decide +kernel, rfl⟩
theorem jhp_56 : jhP 56 := ⟨rfl, jw_mem (p := 904) rfl, jw_mem (p := 5) rfl, ⟨jw_mem (p := 902) rfl, jw_mem (p := 903) rfl⟩, by decide +kernel, rfl⟩
theorem jhp_57 : jhP 57 := ⟨rfl, jw_mem (p := 968) rfl, jw_mem (p := 5) rfl, ⟨jw_mem (p := 966) rfl, jw_mem (p := 967) rfl⟩, by decide +kernel, rfl⟩
theorem jhp_58 : jhP 58 := ⟨rfl, jw_mem (p := 964) rfl, jw_mem (p := 5) rfl, ⟨jw_mem (p := 962) rfl, jw_mem (p := 963) rfl⟩, by decide +kernel, rfl⟩
theorem jhp_59 : jhP 59 := ⟨rfl, jw_mem (p := 977) rfl, jw_mem (p := 5) rfl, ⟨jw_mem (p := 975) rfl, jw_mem (p := 976) rfl⟩, by decide +kernel, rfl⟩
theorem jhp_60 : jhP 60 := ⟨rfl, jw_mem (p := 1095) rfl, jw_mem (p := 5) rfl, ⟨jw_mem (p := 1093) rfl, jw_mem (p := 1094) rfl⟩, by decide +kernel, rfl⟩
theorem jhp_61 : jhP 61 := ⟨rfl, jw_mem (p := 1099) rfl, jw_mem (p := 5) rfl, ⟨jw_mem (p := 1097) rfl, jw_mem (p := 1098) rfl⟩, by decide +kernel, rfl⟩
theorem jhp_62 : jhP 62 := ⟨rfl, jw_mem (p := 1107) rfl, jw_mem (p := 5) rfl, ⟨jw_mem (p := 1105) rfl, jw_mem (p := 1106) rfl⟩, by decide +kernel, rfl⟩
theorem jhp_63 : jhP 63 := ⟨rfl, jw_mem (p := 1103) rfl, jw_mem (p := 5) rfl, ⟨jw_mem (p := 1101) rfl, jw_mem (p := 1102) rfl⟩, by decide +kernel, rfl⟩
theorem jhp_64 : jhP 64 := ⟨rfl, jw_mem (p := 1091) rfl, jw_mem (p := 5) rfl, ⟨jw_mem (p := 1089) rfl, jw_mem (p := 1090) rfl⟩, by decide +kernel, rfl⟩
theorem jhp_65 : jhP 65 := ⟨rfl, jw_mem (p := 1159) rfl, jw_mem (p := 5) rfl, ⟨jw_mem (p := 1157) rfl, jw_mem (p := 1158) rfl⟩, by decide +kernel, rfl⟩
theorem jhp_66 : jhP 66 := ⟨rfl, jw_mem (p := 1175) rfl, jw_mem (p := 5) rfl, ⟨jw_mem (p := 1173) rfl, jw_mem (p := 1174) rfl⟩, by decide +kernel, rfl⟩
theorem jhp_67 : jhP 67 := ⟨rfl, jw_mem (p := 1171) rfl, jw_mem (p := 5) rfl, ⟨jw_mem (p := 1169) rfl, jw_mem (p := 1170) rfl⟩, by decide +kernel, rfl⟩
theorem jhp_68 : jhP 68 := ⟨rfl, jw_mem (p := 1235) rfl, jw_mem (p := 5) rfl, ⟨jw_mem (p := 1233) rfl, jw_mem (p := 1234) rfl⟩, by decide +kernel, rfl⟩
theorem jhp_69 : jhP 69 := ⟨rfl, jw_mem (p := 1231) rfl, jw_mem (p := 5) rfl, ⟨jw_mem (p := 1229) rfl, jw_mem (p := 1230) rfl⟩, by decide +kernel, rfl⟩
theorem jhp_70 : jhP 70 := ⟨rfl, jw_mem (p := 1807) rfl, jw_mem (p := 5) rfl, ⟨jw_mem (p := 1805) rfl, jw_mem (p := 1806) rfl⟩, by decide +kernel, rfl⟩
theorem jhp_71 : jhP 71 := ⟨rfl, jw_mem (p := 1814) rfl, jw_mem (p := 5) rfl, jw_mem (p := 1813) rfl, by decide +kernel, rfl⟩
theorem jhp_72 : jhP 72 := ⟨rfl, jw_mem (p := 1811) rfl, jw_mem (p := 5) rfl, ⟨jw_mem (p := 1809) rfl, jw_mem (p := 1810) rfl⟩, by decide +kernel, rfl⟩
theorem jhp_73 : jhP 73 := ⟨rfl, jw_mem (p := 1803) rfl, jw_mem (p := 5) rfl, ⟨jw_mem (p := 1801) rfl, jw_mem (p := 1802) rfl⟩, by decide +kernel, rfl⟩
theorem jhp_74 : jhP 74 := ⟨rfl, jw_mem (p := 1799) rfl, jw_mem (p := 5) rfl, ⟨jw_mem (p := 1797) rfl, jw_mem (p := 1798) rfl⟩, by decide +kernel, rfl⟩
theorem jhp_75 : jhP 75 := ⟨rfl, jw_mem (p := 1795) rfl, jw_mem (p := 5) rfl, ⟨jw_mem (p := 1793) rfl, jw_mem (p := 1794) rfl⟩, by decide +kernel, rfl⟩
theorem jhp_76 : jhP 76 := ⟨rfl, jw_mem (p := 1751) rfl, jw_mem (p := 5) rfl, ⟨jw_mem (p := 1749) rfl, jw_mem (p := 1750) rfl⟩, by decide +kernel, rfl⟩
theorem jhp_77 : jhP 77 := ⟨rfl, jw_mem (p := 1743) rfl, jw_mem (p := 5) rfl, ⟨jw_mem (p := 1741) rfl, jw_mem (p := 1742) rfl⟩, by decide +kernel, rfl⟩
theorem jhp_78 : jhP 78 := ⟨rfl, jw_mem (p := 1858) rfl, jw_mem (p := 5) rfl, ⟨jw_mem (p := 1856) rfl, jw_mem (p := 1857) rfl⟩, by decide +kernel, rfl⟩
theorem jhp_79 : jhP 79 := ⟨rfl, jw_mem (p := 1747) rfl, jw_mem (p := 5) rfl, ⟨jw_mem (p := 1745) rfl, jw_mem (p := 1746) rfl⟩, by decide +kernel, rfl⟩
theorem jhp_80 : jhP 80 := ⟨rfl, jw_mem (p := 1735) rfl, jw_mem (p := 5) rfl, ⟨jw_mem (p := 1733) rfl, jw_mem (p := 1734) rfl⟩, by decide +kernel, rfl⟩
theorem jhp_81 : jhP 81 := ⟨rfl, jw_mem (p := 1731) rfl, jw_mem (p := 5) rfl, jw_mem (p := 1730) rfl, by decide +kernel, rfl⟩
theorem jhp_82 : jhP 82 := ⟨rfl, jw_mem (p := 1686) rfl, jw_mem (p := 5) rfl, ⟨jw_mem (p := 1684) rfl, jw_mem (p := 1685) rfl⟩, by decide +kernel, rfl⟩
theorem jhp_83 : jhP 83 := ⟨rfl, jw_mem (p := 1868) rfl, jw_mem (p := 5) rfl, ⟨jw_mem (p := 1866) rfl, jw_mem (p := 1867) rfl⟩, by decide +kernel, rfl⟩
theorem jhp_84 : jhP 84 := ⟨rfl, jw_mem (p := 1877) rfl, jw_mem (p := 5) rfl, ⟨jw_mem (p := 1875) rfl, jw_mem (p := 1876) rfl⟩, by decide +kernel, rfl⟩
theorem jhp_85 : jhP 85 := ⟨rfl, jw_mem (p := 1937) rfl, jw_mem (p := 5) rfl, ⟨jw_mem (p := 1935) rfl, jw_mem (p := 1936) rfl⟩, by decide +kernel, rfl⟩
theorem jhp_86 : jhP 86 := ⟨rfl, jw_mem (p := 1933) rfl, jw_mem (p := 5) rfl, ⟨jw_mem (p := 1931) rfl, jw_mem (p := 1932) rfl⟩, by decide +kernel, rfl⟩
theorem jhp_87 : jhP 87 := ⟨rfl, jw_mem (p := 1996) rfl, jw_mem (p := 5) rfl, ⟨jw_mem (p := 1994) rfl, jw_mem (p := 1995) rfl⟩, by decide +kernel, rfl⟩
theorem jhp_88 : jhP 88 := ⟨rfl, jw_mem (p := 2049) rfl, jw_mem (p := 5) rfl, ⟨jw_mem (p := 2007) rfl, jw_mem (p := 2048) rfl⟩, by decide +kernel, rfl⟩
theorem jhp_89 : jhP 89 := ⟨rfl, jw_mem (p := 2113) rfl, jw_mem (p := 5) rfl, ⟨jw_mem (p := 2071) rfl, jw_mem (p := 2112) rfl⟩, by decide +kernel, rfl⟩
theorem jhp_90 : jhP 90 := ⟨rfl, jw_mem (p := 2069) rfl, jw_mem (p := 5) rfl, ⟨jw_mem (p := 2067) rfl, jw_mem (p := 2068) rfl⟩, by decide +kernel, rfl⟩
theorem jhp_91 : jhP 91 := ⟨rfl, jw_mem (p := 2185) rfl, jw_mem (p := 5) rfl, ⟨jw_mem (p := 2183) rfl, jw_mem (p := 2184) rfl⟩, by decide +kernel, rfl⟩
theorem jhp_92 : jhP 92 := ⟨rfl, jw_mem (p := 2189) rfl, jw_mem (p := 5) rfl, ⟨jw_mem (p := 2187) rfl, jw_mem (p := 2188) rfl⟩, by decide +kernel, rfl⟩
theorem jhp_93 : jhP 93 := ⟨rfl, jw_mem (p := 2065) rfl, jw_mem (p := 5) rfl, ⟨jw_mem (p := 2063) rfl, jw_mem (p := 2064) rfl⟩, by decide +kernel, rfl⟩
theorem jhp_94 : jhP 94 := ⟨rfl, jw_mem (p := 2060) rfl, jw_mem (p := 5) rfl, ⟨jw_mem (p := 2058) rfl, jw_mem (p := 2059) rfl⟩, by decide +kernel, rfl⟩
theorem jhp_95 : jhP 95 := ⟨rfl, jw_mem (p := 2181) rfl, jw_mem (p := 5) rfl, ⟨jw_mem (p := 2179) rfl, jw_mem (p := 2180) rfl⟩, by decide +kernel, rfl⟩
theorem jhp_96 : jhP 96 := ⟨rfl, jw_mem (p := 2253) rfl, jw_mem (p := 5) rfl, jw_mem (p := 2252) rfl, by decide +kernel, rfl⟩
theorem jhp_97 : jhP 97 := ⟨rfl, jw_mem (p := 2257) rfl, jw_mem (p := 5) rfl, ⟨jw_mem (p := 2255) rfl, jw_mem (p := 2256) rfl⟩, by decide +kernel, rfl⟩
theorem jhp_98 : jhP 98 := ⟨rfl, jw_mem (p := 2250) rfl, jw_mem (p := 5) rfl, ⟨jw_mem (p := 2248) rfl, jw_mem (p := 2249) rfl⟩, by decide +kernel, rfl⟩
theorem jhp_99 : jhP 99 := ⟨rfl, jw_mem (p := 2323) rfl, jw_mem (p := 5) rfl, ⟨jw_mem (p := 2321) rfl, jw_mem (p := 2322) rfl⟩, by decide +kernel, rfl⟩
theorem jhp_100 : jhP 100 := ⟨rfl, jw_mem (p := 2319) rfl, jw_mem (p := 5) rfl, ⟨jw_mem (p := 2317) rfl, jw_mem (p := 2318) rfl⟩, by decide +kernel, rfl⟩
theorem jhp_101 : jhP 101 := ⟨rfl, jw_mem (p := 2432) rfl, jw_mem (p := 5) rfl, ⟨jw_mem (p := 2390) rfl, jw_mem (p := 2391) rfl⟩, by decide +kernel, rfl⟩
theorem jhp_102 : jhP 102 := ⟨rfl, jw_mem (p := 2383) rfl, jw_mem (p := 5) rfl, ⟨jw_mem (p := 2381) rfl, jw_mem (p := 2382) rfl⟩, by decide +kernel, rfl⟩
theorem jhp_103 : jhP 103 := ⟨rfl, jw_mem (p := 2440) rfl, jw_mem (p := 5) rfl, ⟨jw_mem (p := 2438) rfl, jw_mem (p := 2439) rfl⟩, by decide +kernel, rfl⟩
theorem jhp_104 : jhP 104 := ⟨rfl, jw_mem (p := 2566) rfl, jw_mem (p := 5) rfl, ⟨jw_mem (p := 2564) rfl, jw_mem (p := 2565) rfl⟩, by decide +kernel, rfl⟩
theorem jhp_105 : jhP 105 := ⟨rfl, jw_mem (p := 2570) rfl, jw_mem (p := 5) rfl, ⟨jw_mem (p := 2568) rfl, jw_mem (p := 2569) rfl⟩, by decide +kernel, rfl⟩
theorem jhp_106 : jhP 106 := ⟨rfl, jw_mem (p := 2562) rfl, jw_mem (p := 5) rfl, ⟨jw_mem (p := 2560) rfl, jw_mem (p := 2561) rfl⟩, by decide +kernel, rfl⟩
theorem jhp_107 : jhP 107 := ⟨rfl, jw_mem (p := 2641) rfl, jw_mem (p := 5) rfl, ⟨jw_mem (p := 2639) rfl, jw_mem (p := 2640) rfl⟩, by decide +kernel, rfl⟩
theorem jhp_108 : jhP 108 := ⟨rfl, jw_mem (p := 2637) rfl, jw_mem (p := 5) rfl, ⟨jw_mem (p := 2635) rfl, jw_mem (p := 2636) rfl⟩, by decide +kernel, rfl⟩
theorem jhp_109 : jhP 109 := ⟨rfl, jw_mem (p := 2693) rfl, jw_mem (p := 5) rfl, ⟨jw_mem (p := 2691) rfl, jw_mem (p := 2692) rfl⟩, by decide +kernel, rfl⟩
theorem jhp_110 : jhP 110 := ⟨rfl, jw_mem (p := 2705) rfl, jw_mem (p := 5) rfl, ⟨jw_mem (p := 2703) rfl, jw_mem (p := 2704) rfl⟩, by decide +kernel, rfl⟩
theorem jhp_111 : jhP 111 := ⟨rfl, jw_mem (p := 1348) rfl, jw_mem (p := 21) rfl, ⟨jw_mem (p := 1346) rfl, jw_mem (p := 1347) rfl⟩, by decide +kernel, rfl⟩
theorem jhp_112 : jhP 112 := ⟨rfl, jw_mem (p := 1363) rfl, jw_mem (p := 21) rfl, ⟨jw_mem (p := 1361) rfl, jw_mem (p := 1362) rfl⟩, by decide +kernel, rfl⟩
theorem jhp_113 : jhP 113 := ⟨rfl, jw_mem (p := 1411) rfl, jw_mem (p := 21) rfl, ⟨jw_mem (p := 1409) rfl, jw_mem (p := 1410) rfl⟩, by decide +kernel, rfl⟩
theorem jhp_114 : jhP 114 := ⟨rfl, jw_mem (p := 1986) rfl, jw_mem (p := 21) rfl, ⟨jw_mem (p := 1984) rfl, jw_mem (p := 1985) rfl⟩, by decide +kernel, rfl⟩
theorem jhp_115 : jhP 115 := ⟨rfl, jw_mem (p := 1427) rfl, jw_mem (p := 21) rfl, ⟨jw_mem (p := 1425) rfl, jw_mem (p := 1426) rfl⟩, by decide +kernel, rfl⟩
theorem jhp_116 : jhP 116 := ⟨rfl, jw_mem (p := 1559) rfl, jw_mem (p := 21) rfl, ⟨jw_mem (p := 1557) rfl, jw_mem (p := 1558) rfl⟩, by decide +kernel, rfl⟩
theorem jhp_117 : jhP 117 := ⟨rfl, jw_mem (p := 1604) rfl, jw_mem (p := 21) rfl, ⟨jw_mem (p := 1602) rfl, jw_mem (p := 1603) rfl⟩, by decide +kernel, rfl⟩
theorem jhp_118 : jhP 118 := ⟨rfl, jw_mem (p := 1493) rfl, jw_mem (p := 21) rfl, ⟨jw_mem (p := 1491) rfl, jw_mem (p := 1492) rfl⟩, by decide +kernel, rfl⟩
theorem jhp_119 : jhP 119 := ⟨rfl, jw_mem (p := 1473) rfl, jw_mem (p := 21) rfl, ⟨jw_mem (p := 1431) rfl, jw_mem (p := 1472) rfl⟩, by decide +kernel, rfl⟩
theorem jhp_120 : jhP 120 := ⟨rfl, jw_mem (p := 1477) rfl, jw_mem (p := 21) rfl, ⟨jw_mem (p := 1475) rfl, jw_mem (p := 1476) rfl⟩, by decide +kernel, rfl⟩
theorem jhp_121 : jhP 121 := ⟨rfl, jw_mem (p := 1489) rfl, jw_mem (p := 21) rfl, ⟨jw_mem (p := 1487) rfl, jw_mem (p := 1488) rfl⟩, by decide +kernel, rfl⟩
theorem jhp_122 : jhP 122 := ⟨rfl, jw_mem (p := 1613) rfl, jw_mem (p := 21) rfl, ⟨jw_mem (p := 1611) rfl, jw_mem (p := 1612) rfl⟩, by decide +kernel, rfl⟩
theorem jhp_123 : jhP 123 := ⟨rfl, jw_mem (p := 1991) rfl, jw_mem (p := 21) rfl, ⟨jw_mem (p := 1989) rfl, jw_mem (p := 1990) rfl⟩, by decide +kernel, rfl⟩
theorem jhp_124 : jhP 124 := ⟨rfl, jw_mem (p := 1672) rfl, jw_mem (p := 78) rfl, ⟨jw_mem (p := 1670) rfl, jw_mem (p := 1671) rfl⟩, by decide +kernel, rfl⟩
theorem jhp_125 : jhP 125 := ⟨rfl, jw_mem (p := 1677) rfl, jw_mem (p := 78) rfl, ⟨jw_mem (p := 1675) rfl, jw_mem (p := 1676) rfl⟩, by decide +kernel, rfl⟩
theorem jhp_126 : jhP 126 := ⟨rfl, jw_mem (p := 1682) rfl, jw_mem (p := 78) rfl, ⟨jw_mem (p := 1680) rfl, jw_mem (p := 1681) rfl⟩, by decide +kernel, rfl⟩
theorem jhp_127 : jhP 127 := ⟨rfl, jw_mem (p := 2121) rfl, jw_mem (p := 78) rfl, ⟨jw_mem (p := 2119) rfl, jw_mem (p := 2120) rfl⟩, by decide +kernel, rfl⟩
theorem jhp_128 : jhP 128 := ⟨rfl, jw_mem (p := 2125) rfl, jw_mem (p := 78) rfl, ⟨jw_mem (p := 2123) rfl, jw_mem (p := 2124) rfl⟩, by decide +kernel, rfl⟩
theorem jhp_129 : jhP 129 := ⟨rfl, jw_mem (p := 2176) rfl, jw_mem (p := 78) rfl, ⟨jw_mem (p := 2134) rfl, jw_mem (p := 2135) rfl⟩, by decide +kernel, rfl⟩
theorem jhp_130 : jhP 130 := ⟨rfl, jw_mem (p := 2130) rfl, jw_mem (p := 78) rfl, ⟨jw_mem (p := 2128) rfl, jw_mem (p := 2129) rfl⟩, by decide +kernel, rfl⟩
theorem jhp_131 : jhP 131 := ⟨rfl, jw_mem (p := 1289) rfl, jw_mem (p := 67) rfl, ⟨jw_mem (p := 1287) rfl, jw_mem (p := 1288) rfl⟩, by decide +kernel, rfl⟩
theorem jhp_132 : jhP 132 := ⟨rfl, jw_mem (p := 1667) rfl, jw_mem (p := 67) rfl, ⟨jw_mem (p := 1665) rfl, jw_mem (p := 1666) rfl⟩, by decide +kernel, rfl⟩
theorem jhp_133 : jhP 133 := ⟨rfl, jw_mem (p := 2199) rfl, jw_mem (p := 67) rfl, ⟨jw_mem (p := 2197) rfl, jw_mem (p := 2198) rfl⟩, by decide +kernel, rfl⟩
theorem jhp_134 : jhP 134 := ⟨rfl, jw_mem (p := 585) rfl, jw_mem (p := 18) rfl, ⟨jw_mem (p := 583) rfl, jw_mem (p := 584) rfl⟩, by decide +kernel, rfl⟩
theorem jhp_135 : jhP 135 := ⟨rfl, jw_mem (p := 660) rfl, jw_mem (p := 18) rfl, ⟨jw_mem (p := 658) rfl, jw_mem (p := 659) rfl⟩, by decide +kernel, rfl⟩
theorem jhp_136 : jhP 136 := ⟨rfl, jw_mem (p := 715) rfl, jw_mem (p := 18) rfl, ⟨jw_mem (p := 713) rfl, jw_mem (p := 714) rfl⟩, by decide +kernel, rfl⟩
theorem jhp_137 : jhP 137 := ⟨rfl, jw_mem (p := 719) rfl, jw_mem (p := 18) rfl, ⟨jw_mem (p := 717) rfl, jw_mem (p := 718) rfl⟩, by decide +kernel, rfl⟩
theorem jhp_138 : jhP 138 := ⟨rfl, jw_mem (p := 788) rfl, jw_mem (p := 18) rfl, ⟨jw_mem (p := 786) rfl, jw_mem (p := 787) rfl⟩, by decide +kernel, rfl⟩
theorem jhp_139 : jhP 139 := ⟨rfl, jw_mem (p := 784) rfl, jw_mem (p := 18) rfl, ⟨jw_mem (p := 782) rfl, jw_mem (p := 783) rfl⟩, by decide +kernel, rfl⟩
theorem jhp_140 : jhP 140 := ⟨rfl, jw_mem (p := 900) rfl, jw_mem (p := 70) rfl, ⟨jw_mem (p := 898) rfl, jw_mem (p := 899) rfl⟩, by decide +kernel, rfl⟩
theorem jhp_141 : jhP 141 := ⟨rfl, jw_mem (p := 1223) rfl, jw_mem (p := 70) rfl, ⟨jw_mem (p := 1221) rfl, jw_mem (p := 1222) rfl⟩, by decide +kernel, rfl⟩
theorem jhp_142 : jhP 142 := ⟨rfl, jw_mem (p := 1026) rfl, jw_mem (p := 70) rfl, ⟨jw_mem (p := 1024) rfl, jw_mem (p := 1025) rfl⟩, by decide +kernel, rfl⟩
theorem jhp_143 : jhP 143 := ⟨rfl, jw_mem (p := 1030) rfl, jw_mem (p := 70) rfl, ⟨jw_mem (p := 1028) rfl, jw_mem (p := 1029) rfl⟩, by decide +kernel, rfl⟩
theorem jhp_144 : jhP 144 := ⟨rfl, jw_mem (p := 1034) rfl, jw_mem (p := 70) rfl, ⟨jw_mem (p := 1032) rfl, jw_mem (p := 1033) rfl⟩, by decide +kernel, rfl⟩
theorem jhp_145 : jhP 145 := ⟨rfl, jw_mem (p := 1039) rfl, jw_mem (p := 70) rfl, ⟨jw_mem (p := 1037) rfl, jw_mem (p := 1038) rfl⟩, by decide +kernel, rfl⟩
theorem jhp_146 : jhP 146 := ⟨rfl, jw_mem (p := 1047) rfl, jw_mem (p := 70) rfl, ⟨jw_mem (p := 1045) rfl, jw_mem (p := 1046) rfl⟩, by decide +kernel, rfl⟩
theorem jhp_147 : jhP 147 := ⟨rfl, jw_mem (p := 1167) rfl, jw_mem (p := 70) rfl, ⟨jw_mem (p := 1165) rfl, jw_mem (p := 1166) rfl⟩, by decide +kernel, rfl⟩
theorem jhp_148 : jhP 148 := ⟨rfl, jw_mem (p := 581) rfl, jw_mem (p := 70) rfl, ⟨jw_mem (p := 579) rfl, jw_mem (p := 580) rfl⟩, by decide +kernel, rfl⟩
theorem jhp_149 : jhP 149 := ⟨rfl, jw_mem (p := 1359) rfl, jw_mem (p := 70) rfl, ⟨jw_mem (p := 1357) rfl, jw_mem (p := 1358) rfl⟩, by decide +kernel, rfl⟩
theorem jhp_150 : jhP 150 := ⟨rfl, jw_mem (p := 1294) rfl, jw_mem (p := 64) rfl, ⟨jw_mem (p := 1292) rfl, jw_mem (p := 1293) rfl⟩, by decide +kernel, rfl⟩
theorem jhp_151 : jhP 151 := ⟨rfl, jw_mem (p := 1925) rfl, jw_mem (p := 64) rfl, ⟨jw_mem (p := 1923) rfl, jw_mem (p := 1924) rfl⟩, by decide +kernel, rfl⟩
theorem jhp_152 : jhP 152 := ⟨rfl, jw_mem (p := 1929) rfl, jw_mem (p := 64) rfl, ⟨jw_mem (p := 1927) rfl, jw_mem (p := 1928) rfl⟩, by decide +kernel, rfl⟩
theorem jhp_153 : jhP 153 := ⟨rfl, jw_mem (p := 2689) rfl, jw_mem (p := 64) rfl, ⟨jw_mem (p := 2647) rfl, jw_mem (p := 2688) rfl⟩, by decide +kernel, rfl⟩
theorem jhp_154 : jhP 154 := ⟨rfl, jw_mem (p := 2004) rfl, jw_mem (p := 64) rfl, ⟨jw_mem (p := 2002) rfl, jw_mem (p := 2003) rfl⟩, by decide +kernel, rfl⟩
theorem jhp_155 : jhP 155 := ⟨rfl, jw_mem (p := 1299) rfl, jw_mem (p := 64) rfl, ⟨jw_mem (p := 1297) rfl, jw_mem (p := 1298) rfl⟩, by decide +kernel, rfl⟩
theorem jhp_156 : jhP 156 := ⟨rfl, jw_mem (p := 1416) rfl, jw_mem (p := 64) rfl, ⟨jw_mem (p := 1414) rfl, jw_mem (p := 1415) rfl⟩, by decide +kernel, rfl⟩
theorem jhp_157 : jhP 157 := ⟨rfl, jw_mem (p := 1419) rfl, jw_mem (p := 64) rfl, jw_mem (p := 1418) rfl, by decide +kernel, rfl⟩
theorem jhp_158 : jhP 158 := ⟨rfl, jw_mem (p := 1552) rfl, jw_mem (p := 64) rfl, ⟨jw_mem (p := 1550) rfl, jw_mem (p := 1551) rfl⟩, by decide +kernel, rfl⟩
theorem jhp_159 : jhP 159 := ⟨rfl, jw_mem (p := 1537) rfl, jw_mem (p := 64) rfl, ⟨jw_mem (p := 1495) rfl, jw_mem (p := 1536) rfl⟩, by decide +kernel, rfl⟩
theorem jhp_160 : jhP 160 := ⟨rfl, jw_mem (p := 1423) rfl, jw_mem (p := 64) rfl, ⟨jw_mem (p := 1421) rfl, jw_mem (p := 1422) rfl⟩, by decide +kernel, rfl⟩
theorem jhp_161 : jhP 161 := ⟨rfl, jw_mem (p := 1548) rfl, jw_mem (p := 64) rfl, ⟨jw_mem (p := 1546) rfl, jw_mem (p := 1547) rfl⟩, by decide +kernel, rfl⟩
theorem jhp_162 : jhP 162 := ⟨rfl, jw_mem (p := 2373) rfl, jw_mem (p := 129) rfl, ⟨jw_mem (p := 2371) rfl, jw_mem (p := 2372) rfl⟩, by decide +kernel, rfl⟩
theorem jhp_163 : jhP 163 := ⟨rfl, jw_mem (p := 2378) rfl, jw_mem (p := 129) rfl, ⟨jw_mem (p := 2376) rfl, jw_mem (p := 2377) rfl⟩, by decide +kernel, rfl⟩
theorem jhp_164 : jhP 164 := ⟨rfl, jw_mem (p := 2304) rfl, jw_mem (p := 129) rfl, jw_mem (p := 2263) rfl, by decide +kernel, rfl⟩
theorem jhp_165 : jhP 165 := ⟨rfl, jw_mem (p := 2313) rfl, jw_mem (p := 129) rfl, jw_mem (p := 2312) rfl, by decide +kernel, rfl⟩
theorem jhp_166 : jhP 166 := ⟨rfl, jw_mem (p := 1353) rfl, jw_mem (p := 151) rfl, ⟨jw_mem (p := 1351) rfl, jw_mem (p := 1352) rfl⟩, by decide +kernel, rfl⟩
theorem jhp_167 : jhP 167 := ⟨rfl, jw_mem (p := 1481) rfl, jw_mem (p := 151) rfl, ⟨jw_mem (p := 1479) rfl, jw_mem (p := 1480) rfl⟩, by decide +kernel, rfl⟩
theorem jhp_168 : jhP 168 := ⟨rfl, jw_mem (p := 1485) rfl, jw_mem (p := 151) rfl, ⟨jw_mem (p := 1483) rfl, jw_mem (p := 1484) rfl⟩, by decide +kernel, rfl⟩
theorem jhp_169 : jhP 169 := ⟨rfl, jw_mem (p := 1609) rfl, jw_mem (p := 151) rfl, ⟨jw_mem (p := 1607) rfl, jw_mem (p := 1608) rfl⟩, by decide +kernel, rfl⟩
theorem jhp_170 : jhP 170 := ⟨rfl, jw_mem (p := 1618) rfl, jw_mem (p := 151) rfl, ⟨jw_mem (p := 1616) rfl, jw_mem (p := 1617) rfl⟩, by decide +kernel, rfl⟩
theorem jhp_171 : jhP 171 := ⟨rfl, jw_mem (p := 1622) rfl, jw_mem (p := 151) rfl, ⟨jw_mem (p := 1620) rfl, jw_mem (p := 1621) rfl⟩, by decide +kernel, rfl⟩
theorem jhp_172 : jhP 172 := ⟨rfl, jw_mem (p := 2449) rfl, jw_mem (p := 85) rfl, ⟨jw_mem (p := 2447) rfl, jw_mem (p := 2448) rfl⟩, by decide +kernel, rfl⟩
theorem jhp_173 : jhP 173 := ⟨rfl, jw_mem (p := 2578) rfl, jw_mem (p := 85) rfl, ⟨jw_mem (p := 2576) rfl, jw_mem (p := 2577) rfl⟩, by decide +kernel, rfl⟩
theorem jhp_174 : jhP 174 := ⟨rfl, jw_mem (p := 2582) rfl, jw_mem (p := 85) rfl, ⟨jw_mem (p := 2580) rfl, jw_mem (p := 2581) rfl⟩, by decide +kernel, rfl⟩
theorem jhp_175 : jhP 175 := ⟨rfl, jw_mem (p := 2629) rfl, jw_mem (p := 85) rfl, ⟨jw_mem (p := 2627) rfl, jw_mem (p := 2628) rfl⟩, by decide +kernel, rfl⟩
theorem jhp_176 : jhP 176 := ⟨rfl, jw_mem (p := 2633) rfl, jw_mem (p := 85) rfl, ⟨jw_mem (p := 2631) rfl, jw_mem (p := 2632) rfl⟩, by decide +kernel, rfl⟩
theorem jhp_177 : jhP 177 := ⟨rfl, jw_mem (p := 2500) rfl, jw_mem (p := 85) rfl, ⟨jw_mem (p := 2498) rfl, jw_mem (p := 2499) rfl⟩, by decide +kernel, rfl⟩
theorem jhp_178 : jhP 178 := ⟨rfl, jw_mem (p := 2505) rfl, jw_mem (p := 85) rfl, ⟨jw_mem (p := 2503) rfl, jw_mem (p := 2504) rfl⟩, by decide +kernel, rfl⟩
theorem jhp_179 : jhP 179 := ⟨rfl, jw_mem (p := 2510) rfl, jw_mem (p := 85) rfl, ⟨jw_mem (p := 2508) rfl, jw_mem (p := 2509) rfl⟩, by decide +kernel, rfl⟩
theorem jhp_180 : jhP 180 := ⟨rfl, jw_mem (p := 2516) rfl, jw_mem (p := 85) rfl, ⟨jw_mem (p := 2514) rfl, jw_mem (p := 2515) rfl⟩, by decide +kernel, rfl⟩
theorem jhp_181 : jhP 181 := ⟨rfl, jw_mem (p := 1541) rfl, jw_mem (p := 1540) rfl, jw_mem (p := 1539) rfl, by decide +kernel, rfl⟩
theorem jf_g0 : ∀ q ∈ [(9, 42, 9, 0), (9, 110, 3, 0), (9, 113, 3, 1), (9, 121, 3, 2), (9, 132, 3, 3), (9, 9, 9, 8), (9, 46, 9, 1), (9, 149, 4, 0), (9, 155, 4, 3), (9, 158, 4, 2), (9, 165, 4, 1), (9, 176, 4, 4), (9, 179, 4, 5), (9, 180, 4, 6), (9, 183, 4, 7), (9, 58, 9, 4), (9, 54, 9, 3), (9, 64, 2, 3), (9, 202, 2, 4), (9, 50, 9, 2), (9, 68, 0, 5), (9, 72, 0, 6), (9, 213, 2, 0), (9, 216, 2, 5)], jfP q := List.forall_mem_cons.mpr ⟨jf_0, List.forall_mem_cons.mpr ⟨jf_1, List.forall_mem_cons.mpr ⟨jf_2, List.forall_mem_cons.mpr ⟨jf_3, List.forall_mem_cons.mpr ⟨jf_4, List.forall_mem_cons.mpr ⟨jf_5, List.forall_mem_cons.mpr ⟨jf_6, List.forall_mem_cons.mpr ⟨jf_7, List.forall_mem_cons.mpr ⟨jf_8, List.forall_mem_cons.mpr ⟨jf_9, List.forall_mem_cons.mpr ⟨jf_10, List.forall_mem_cons.mpr ⟨jf_11, List.forall_mem_cons.mpr ⟨jf_12, List.forall_mem_cons.mpr ⟨jf_13, List.forall_mem_cons.mpr ⟨jf_14, List.forall_mem_cons.mpr ⟨jf_15, List.forall_mem_cons.mpr ⟨jf_16, List.forall_mem_cons.mpr ⟨jf_17, List.forall_mem_cons.mpr ⟨jf_18, List.forall_mem_cons.mpr ⟨jf_19, List.forall_mem_cons.mpr ⟨jf_20, List.forall_mem_cons.mpr ⟨jf_21, List.forall_mem_cons.mpr ⟨jf_22, List.forall_mem_cons.mpr ⟨jf_23, fun _ h => absurd h List.not_mem_nil⟩⟩⟩⟩⟩⟩⟩⟩⟩⟩⟩⟩⟩⟩⟩⟩⟩⟩⟩⟩⟩⟩⟩⟩
theorem jf_g1 : ∀ q ∈ [(9, 217, 2, 6), (9, 240, 2, 7), (9, 243, 1, 3), (9, 246, 1, 4), (9, 258, 2, 1), (9, 261, 2, 2), (9, 96, 9, 7), (9, 13, 9, 9), (9, 281, 6, 3), (9, 16, 9, 10), (9, 284, 6, 4), (9, 20, 9, 11), (9, 87, 9, 6), (9, 294, 8, 2), (9, 78, 9, 5), (10, 32, 10, 8), (10, 35, 10, 9), (10, 89, 10, 17), (10, 17, 10, 2), (10, 20, 10, 3), (10, 7, 10, 0), (10, 13, 10, 1), (10, 114, 10, 4), (10, 23, 10, 5)], jfP q := List.forall_mem_cons.mpr ⟨jf_24, List.forall_mem_cons.mpr ⟨jf_25, List.forall_mem_cons.mpr ⟨jf_26, List.forall_mem_cons.mpr ⟨jf_27, List.forall_mem_cons.mpr ⟨jf_28, List.forall_mem_cons.mpr ⟨jf_29, List.forall_mem_cons.mpr ⟨jf_30, List.forall_mem_cons.mpr ⟨jf_31, List.forall_mem_cons.mpr ⟨jf_32, List.forall_mem_cons.mpr ⟨jf_33, List.forall_mem_cons.mpr ⟨jf_34, List.forall_mem_cons.mpr ⟨jf_35, List.forall_mem_cons.mpr ⟨jf_36, List.forall_mem_cons.mpr ⟨jf_37, List.forall_mem_cons.mpr ⟨jf_38, List.forall_mem_cons.mpr ⟨jf_39, List.forall_mem_cons.mpr ⟨jf_40, List.forall_mem_cons.mpr ⟨jf_41, List.forall_mem_cons.mpr ⟨jf_42, List.forall_mem_cons.mpr ⟨jf_43, List.forall_mem_cons.mpr ⟨jf_44, List.forall_mem_cons.mpr ⟨jf_45, List.forall_mem_cons.mpr ⟨jf_46, List.forall_mem_cons.mpr ⟨jf_47, fun _ h => absurd h List.not_mem_nil⟩⟩⟩⟩⟩⟩⟩⟩⟩⟩⟩⟩⟩⟩⟩⟩⟩⟩⟩⟩⟩⟩⟩⟩
theorem jf_g2 : ∀ q ∈ [(10, 29, 10, 7), (10, 26, 10, 6), (10, 38, 10, 10), (10, 41, 10, 11), (10, 155, 10, 12), (10, 172, 10, 14), (10, 175, 10, 15), (10, 178, 10, 16), (10, 44, 10, 13), (10, 201, 10, 18), (10, 204, 10, 19), (10, 47, 10, 20), (10, 50, 10, 21), (10, 56, 10, 24), (10, 210, 10, 22), (10, 53, 10, 23), (10, 237, 10, 25), (10, 240, 10, 26), (10, 246, 10, 27), (10, 249, 10, 28), (10, 252, 10, 29), (10, 59, 10, 30), (10, 62, 10, 31), (10, 65, 10, 32)], jfP q := List.forall_mem_cons.mpr ⟨jf_48, List.forall_mem_cons.mpr ⟨jf_49, List.forall_mem_cons.mpr ⟨jf_50, List.forall_mem_cons.mpr ⟨jf_51, List.forall_mem_cons.mpr ⟨jf_52, List.forall_mem_cons.mpr ⟨jf_53, List.forall_mem_cons.mpr ⟨jf_54, List.forall_mem_cons.mpr ⟨jf_55, List.forall_mem_cons.mpr ⟨jf_56, List.forall_mem_cons.mpr ⟨jf_57, List.forall_mem_cons.mpr ⟨jf_58, List.forall_mem_cons.mpr ⟨jf_59, List.forall_mem_cons.mpr ⟨jf_60, List.forall_mem_cons.mpr ⟨jf_61, List.forall_mem_cons.mpr ⟨jf_62, List.forall_mem_cons.mpr ⟨jf_63, List.forall_mem_cons.mpr ⟨jf_64, List.forall_mem_cons.mpr ⟨jf_65, List.forall_mem_cons.mpr ⟨jf_66, List.forall_mem_cons.mpr ⟨jf_67, List.forall_mem_cons.mpr ⟨jf_68, List.forall_mem_cons.mpr ⟨jf_69, List.forall_mem_cons.mpr ⟨jf_70, List.forall_mem_cons.mpr ⟨jf_71, fun _ h => absurd h List.not_mem_nil⟩⟩⟩⟩⟩⟩⟩⟩⟩⟩⟩⟩⟩⟩⟩⟩⟩⟩⟩⟩⟩⟩⟩⟩
theorem jf_g3 : ∀ q ∈ [(10, 74, 10, 35), (10, 68, 10, 33), (10, 71, 10, 34), (0, 12, 0, 1), (0, 18, 0, 2), (0, 21, 0, 3), (0, 28, 0, 4), (0, 68, 4, 1), (0, 54, 0, 12), (0, 42, 0, 8), (0, 45, 0, 9), (0, 48, 0, 10), (0, 51, 0, 11), (0, 60, 0, 0), (0, 79, 4, 4), (0, 88, 4, 6), (0, 91, 3, 1), (0, 95, 4, 5), (0, 98, 4, 0), (0, 32, 0, 5), (0, 36, 0, 6), (0, 105, 7, 2), (0, 39, 0, 7), (0, 116, 4, 7)], jfP q := List.forall_mem_cons.mpr ⟨jf_72, List.forall_mem_cons.mpr ⟨jf_73, List.forall_mem_cons.mpr ⟨jf_74, List.forall_mem_cons.mpr ⟨jf_75, List.forall_mem_cons.mpr ⟨jf_76, List.forall_mem_cons.mpr ⟨jf_77, List.forall_mem_cons.mpr ⟨jf_78, List.forall_mem_cons.mpr ⟨jf_79, List.forall_mem_cons.mpr ⟨jf_80, List.forall_mem_cons.mpr ⟨jf_81, List.forall_mem_cons.mpr ⟨jf_82, List.forall_mem_cons.mpr ⟨jf_83, List.forall_mem_cons.mpr ⟨jf_84, List.forall_mem_cons.mpr ⟨jf_85, List.forall_mem_cons.mpr ⟨jf_86, List.forall_mem_cons.mpr ⟨jf_87, List.forall_mem_cons.mpr ⟨jf_88, List.forall_mem_cons.mpr ⟨jf_89, List.forall_mem_cons.mpr ⟨jf_90, List.forall_mem_cons.mpr ⟨jf_91, List.forall_mem_cons.mpr ⟨jf_92, List.forall_mem_cons.mpr ⟨jf_93, List.forall_mem_cons.mpr ⟨jf_94, List.forall_mem_cons.mpr ⟨jf_95, fun _ h => absurd h List.not_mem_nil⟩⟩⟩⟩⟩⟩⟩⟩⟩⟩⟩⟩⟩⟩⟩⟩⟩⟩⟩⟩⟩⟩⟩⟩
theorem jf_g4 : ∀ q ∈ [(0, 57, 0, 13), (0, 145, 7, 3), (0, 152, 4, 3), (1, 9, 1, 3), (1, 22, 1, 0), (1, 32, 4, 1), (1, 19, 1, 5), (1, 29, 1, 2), (1, 15, 1, 4), (1, 40, 4, 5), (1, 26, 1, 1), (1, 47, 4, 4), (1, 54, 3, 3), (2, 9, 2, 0), (2, 15, 2, 1), (2, 19, 2, 2), (2, 29, 2, 3), (2, 25, 2, 4), (2, 32, 2, 5), (2, 36, 2, 6), (2, 44, 2, 7), (2, 61, 4, 0), (3, 19, 3, 2), (3, 22, 3, 3)], jfP q := List.forall_mem_cons.mpr ⟨jf_96, List.forall_mem_cons.mpr ⟨jf_97, List.forall_mem_cons.mpr ⟨jf_98, List.forall_mem_cons.mpr ⟨jf_99, List.forall_mem_cons.mpr ⟨jf_100, List.forall_mem_cons.mpr ⟨jf_101, List.forall_mem_cons.mpr ⟨jf_102, List.forall_mem_cons.mpr ⟨jf_103, List.forall_mem_cons.mpr ⟨jf_104, List.forall_mem_cons.mpr ⟨jf_105, List.forall_mem_cons.mpr ⟨jf_106, List.forall_mem_cons.mpr ⟨jf_107, List.forall_mem_cons.mpr ⟨jf_108, List.forall_mem_cons.mpr ⟨jf_109, List.forall_mem_cons.mpr ⟨jf_110, List.forall_mem_cons.mpr ⟨jf_111, List.forall_mem_cons.mpr ⟨jf_112, List.forall_mem_cons.mpr ⟨jf_113, List.forall_mem_cons.mpr ⟨jf_114, List.forall_mem_cons.mpr ⟨jf_115, List.forall_mem_cons.mpr ⟨jf_116, List.forall_mem_cons.mpr ⟨jf_117, List.forall_mem_cons.mpr ⟨jf_118, List.forall_mem_cons.mpr ⟨jf_119, fun _ h => absurd h List.not_mem_nil⟩⟩⟩⟩⟩⟩⟩⟩⟩⟩⟩⟩⟩⟩⟩⟩⟩⟩⟩⟩⟩⟩⟩⟩
theorem jf_g5 : ∀ q ∈ [(3, 9, 3, 0), (4, 9, 4, 0), (4, 15, 4, 1), (4, 18, 4, 2), (4, 21, 4, 3), (4, 25, 4, 4), (4, 28, 4, 5), (4, 31, 4, 6), (4, 34, 4, 7), (4, 47, 3, 1), (5, 42, 5, 10), (5, 63, 5, 1), (5, 54, 5, 0), (5, 36, 5, 8), (5, 45, 5, 11), (5, 48, 5, 12), (5, 51, 5, 13), (5, 12, 5, 2), (5, 85, 4, 0), (5, 88, 4, 1), (5, 39, 5, 9), (5, 18, 5, 3), (5, 21, 5, 4), (5, 94, 0, 4)], jfP q := List.forall_mem_cons.mpr ⟨jf_120, List.forall_mem_cons.mpr ⟨jf_121, List.forall_mem_cons.mpr ⟨jf_122, List.forall_mem_cons.mpr ⟨jf_123, List.forall_mem_cons.mpr ⟨jf_124, List.forall_mem_cons.mpr ⟨jf_125, List.forall_mem_cons.mpr ⟨jf_126, List.forall_mem_cons.mpr ⟨jf_127, List.forall_mem_cons.mpr ⟨jf_128, List.forall_mem_cons.mpr ⟨jf_129, List.forall_mem_cons.mpr ⟨jf_130, List.forall_mem_cons.mpr ⟨jf_131, List.forall_mem_cons.mpr ⟨jf_132, List.forall_mem_cons.mpr ⟨jf_133, List.forall_mem_cons.mpr ⟨jf_134, List.forall_mem_cons.mpr ⟨jf_135, List.forall_mem_cons.mpr ⟨jf_136, List.forall_mem_cons.mpr ⟨jf_137, List.forall_mem_cons.mpr ⟨jf_138, List.forall_mem_cons.mpr ⟨jf_139, List.forall_mem_cons.mpr ⟨jf_140, List.forall_mem_cons.mpr ⟨jf_141, List.forall_mem_cons.mpr ⟨jf_142, List.forall_mem_cons.mpr ⟨jf_143, fun _ h => absurd h List.not_mem_nil⟩⟩⟩⟩⟩⟩⟩⟩⟩⟩⟩⟩⟩⟩⟩⟩⟩⟩⟩⟩⟩⟩⟩⟩
theorem jf_g6 : ∀ q ∈ [(5, 98, 7, 2), (5, 33, 5, 7), (5, 25, 5, 5), (5, 109, 4, 3), (5, 29, 5, 6), (6, 22, 6, 0), (6, 30, 4, 1), (6, 9, 6, 2), (6, 15, 6, 3), (6, 19, 6, 4), (6, 26, 6, 1), (6, 49, 4, 4), (6, 52, 4, 7), (6, 72, 4, 0), (6, 75, 4, 3), (7, 12, 7, 0), (7, 18, 7, 1), (7, 21, 7, 2), (7, 32, 7, 5), (7, 29, 7, 4), (7, 25, 7, 3), (7, 46, 4, 1), (7, 49, 4, 6), (7, 36, 7, 6)], jfP q := List.forall_mem_cons.mpr ⟨jf_144, List.forall_mem_cons.mpr ⟨jf_145, List.forall_mem_cons.mpr ⟨jf_146, List.forall_mem_cons.mpr ⟨jf_147, List.forall_mem_cons.mpr ⟨jf_148, List.forall_mem_cons.mpr ⟨jf_149, List.forall_mem_cons.mpr ⟨jf_150, List.forall_mem_cons.mpr ⟨jf_151, List.forall_mem_cons.mpr ⟨jf_152, List.forall_mem_cons.mpr ⟨jf_153, List.forall_mem_cons.mpr ⟨jf_154, List.forall_mem_cons.mpr ⟨jf_155, List.forall_mem_cons.mpr ⟨jf_156, List.forall_mem_cons.mpr ⟨jf_157, List.forall_mem_cons.mpr ⟨jf_158, List.forall_mem_cons.mpr ⟨jf_159, List.forall_mem_cons.mpr ⟨jf_160, List.forall_mem_cons.mpr ⟨jf_161, List.forall_mem_cons.mpr ⟨jf_162, List.forall_mem_cons.mpr ⟨jf_163, List.forall_mem_cons.mpr ⟨jf_164, List.forall_mem_cons.mpr ⟨jf_165, List.forall_mem_cons.mpr ⟨jf_166, List.forall_mem_cons.mpr ⟨jf_167, fun _ h => absurd h List.not_mem_nil⟩⟩⟩⟩⟩⟩⟩⟩⟩⟩⟩⟩⟩⟩⟩⟩⟩⟩⟩⟩⟩⟩⟩⟩
theorem jf_g7 : ∀ q ∈ [(7, 39, 7, 7), (8, 12, 8, 2), (8, 52, 4, 0), (8, 41, 8, 1), (8, 56, 0, 5), (8, 25, 8, 5), (8, 61, 4, 3), (8, 64, 4, 1), (8, 67, 0, 6), (8, 37, 8, 0), (8, 74, 4, 4), (8, 28, 8, 6), (8, 18, 8, 3), (8, 22, 8, 4), (8, 94, 4, 2), (8, 97, 4, 6), (8, 31, 8, 7), (8, 106, 4, 5), (8, 34, 8, 8)], jfP q := List.forall_mem_cons.mpr ⟨jf_168, List.forall_mem_cons.mpr ⟨jf_169, List.forall_mem_cons.mpr ⟨jf_170, List.forall_mem_cons.mpr ⟨jf_171, List.forall_mem_cons.mpr ⟨jf_172, List.forall_mem_cons.mpr ⟨jf_173, List.forall_mem_cons.mpr ⟨jf_174, List.forall_mem_cons.mpr ⟨jf_175, List.forall_mem_cons.mpr ⟨jf_176, List.forall_mem_cons.mpr ⟨jf_177, List.forall_mem_cons.mpr ⟨jf_178, List.forall_mem_cons.mpr ⟨jf_179, List.forall_mem_cons.mpr ⟨jf_180, List.forall_mem_cons.mpr ⟨jf_181, List.forall_mem_cons.mpr ⟨jf_182, List.forall_mem_cons.mpr ⟨jf_183, List.forall_mem_cons.mpr ⟨jf_184, List.forall_mem_cons.mpr ⟨jf_185, List.forall_mem_cons.mpr ⟨jf_186, fun _ h => absurd h List.not_mem_nil⟩⟩⟩⟩⟩⟩⟩⟩⟩⟩⟩⟩⟩⟩⟩⟩⟩⟩⟩
theorem jf_all : ∀ q ∈ jfes, jfP q := List.forall_mem_append.mpr ⟨jf_g0, List.forall_mem_append.mpr ⟨jf_g1, List.forall_mem_append.mpr ⟨jf_g2, List.forall_mem_append.mpr ⟨jf_g3, List.forall_mem_append.mpr ⟨jf_g4, List.forall_mem_append.mpr ⟨jf_g5, List.forall_mem_append.mpr ⟨jf_g6, jf_g7⟩⟩⟩⟩⟩⟩⟩
theorem jm__g0 : ∀ q ∈ [(9, 100, 29), (9, 104, 36), (9, 107, 134), (9, 117, 135), (9, 124, 33), (9, 128, 136), (9, 135, 35), (9, 138, 139), (9, 142, 30), (9, 145, 140), (9, 152, 32), (9, 161, 142), (9, 168, 144), (9, 172, 145), (9, 186, 147), (9, 190, 141), (9, 194, 34), (9, 198, 131), (9, 205, 150), (9, 209, 132), (9, 218, 151), (9, 221, 152), (9, 224, 111), (9, 227, 114)], jmP q := List.forall_mem_cons.mpr ⟨jm__0, List.forall_mem_cons.mpr ⟨jm__1, List.forall_mem_cons.mpr ⟨jm__2, List.forall_mem_cons.mpr ⟨jm__3, List.forall_mem_cons.mpr ⟨jm__4, List.forall_mem_cons.mpr ⟨jm__5, List.forall_mem_cons.mpr ⟨jm__6, List.forall_mem_cons.mpr ⟨jm__7, List.forall_mem_cons.mpr ⟨jm__8, List.forall_mem_cons.mpr ⟨jm__9, List.forall_mem_cons.mpr ⟨jm__10, List.forall_mem_cons.mpr ⟨jm__11, List.forall_mem_cons.mpr ⟨jm__12, List.forall_mem_cons.mpr ⟨jm__13, List.forall_mem_cons.mpr ⟨jm__14, List.forall_mem_cons.mpr ⟨jm__15, List.forall_mem_cons.mpr ⟨jm__16, List.forall_mem_cons.mpr ⟨jm__17, List.forall_mem_cons.mpr ⟨jm__18, List.forall_mem_cons.mpr ⟨jm__19, List.forall_mem_cons.mpr ⟨jm__20, List.forall_mem_cons.mpr ⟨jm__21, List.forall_mem_cons.mpr ⟨jm__22, List.forall_mem_cons.mpr ⟨jm__23, fun _ h => absurd h List.not_mem_nil⟩⟩⟩⟩⟩⟩⟩⟩⟩⟩⟩⟩⟩⟩⟩⟩⟩⟩⟩⟩⟩⟩⟩⟩
theorem jm__g1 : ∀ q ∈ [(9, 230, 115), (9, 233, 123), (9, 236, 154), (9, 248, 127), (9, 251, 128), (9, 255, 129), (9, 262, 133), (9, 265, 181), (9, 270, 38), (9, 273, 164), (9, 277, 162), (9, 287, 31), (9, 290, 172), (9, 297, 173), (9, 300, 174), (9, 303, 175), (9, 306, 176), (9, 309, 153), (9, 313, 37), (9, 316, 148), (9, 319, 124), (10, 77, 39), (10, 81, 42), (10, 85, 43)], jmP q := List.forall_mem_cons.mpr ⟨jm__24, List.forall_mem_cons.mpr ⟨jm__25, List.forall_mem_cons.mpr ⟨jm__26, List.forall_mem_cons.mpr ⟨jm__27, List.forall_mem_cons.mpr ⟨jm__28, List.forall_mem_cons.mpr ⟨jm__29, List.forall_mem_cons.mpr ⟨jm__30, List.forall_mem_cons.mpr ⟨jm__31, List.forall_mem_cons.mpr ⟨jm__32, List.forall_mem_cons.mpr ⟨jm__33, List.forall_mem_cons.mpr ⟨jm__34, List.forall_mem_cons.mpr ⟨jm__35, List.forall_mem_cons.mpr ⟨jm__36, List.forall_mem_cons.mpr ⟨jm__37, List.forall_mem_cons.mpr ⟨jm__38, List.forall_mem_cons.mpr ⟨jm__39, List.forall_mem_cons.mpr ⟨jm__40, List.forall_mem_cons.mpr ⟨jm__41, List.forall_mem_cons.mpr ⟨jm__42, List.forall_mem_cons.mpr ⟨jm__43, List.forall_mem_cons.mpr ⟨jm__44, List.forall_mem_cons.mpr ⟨jm__45, List.forall_mem_cons.mpr ⟨jm__46, List.forall_mem_cons.mpr ⟨jm__47, fun _ h => absurd h List.not_mem_nil⟩⟩⟩⟩⟩⟩⟩⟩⟩⟩⟩⟩⟩⟩⟩⟩⟩⟩⟩⟩⟩⟩⟩⟩
theorem jm__g2 : ∀ q ∈ [(10, 93, 40), (10, 97, 44), (10, 100, 45), (10, 103, 49), (10, 107, 47), (10, 110, 52), (10, 118, 41), (10, 121, 55), (10, 125, 57), (10, 129, 62), (10, 133, 60), (10, 136, 61), (10, 139, 63), (10, 143, 66), (10, 146, 68), (10, 149, 71), (10, 152, 70), (10, 158, 73), (10, 162, 72), (10, 166, 76), (10, 169, 75), (10, 181, 77), (10, 184, 79), (10, 188, 74)], jmP q := List.forall_mem_cons.mpr ⟨jm__48, List.forall_mem_cons.mpr ⟨jm__49, List.forall_mem_cons.mpr ⟨jm__50, List.forall_mem_cons.mpr ⟨jm__51, List.forall_mem_cons.mpr ⟨jm__52, List.forall_mem_cons.mpr ⟨jm__53, List.forall_mem_cons.mpr ⟨jm__54, List.forall_mem_cons.mpr ⟨jm__55, List.forall_mem_cons.mpr ⟨jm__56, List.forall_mem_cons.mpr ⟨jm__57, List.forall_mem_cons.mpr ⟨jm__58, List.forall_mem_cons.mpr ⟨jm__59, List.forall_mem_cons.mpr ⟨jm__60, List.forall_mem_cons.mpr ⟨jm__61, List.forall_mem_cons.mpr ⟨jm__62, List.forall_mem_cons.mpr ⟨jm__63, List.forall_mem_cons.mpr ⟨jm__64, List.forall_mem_cons.mpr ⟨jm__65, List.forall_mem_cons.mpr ⟨jm__66, List.forall_mem_cons.mpr ⟨jm__67, List.forall_mem_cons.mpr ⟨jm__68, List.forall_mem_cons.mpr ⟨jm__69, List.forall_mem_cons.mpr ⟨jm__70, List.forall_mem_cons.mpr ⟨jm__71, fun _ h => absurd h List.not_mem_nil⟩⟩⟩⟩⟩⟩⟩⟩⟩⟩⟩⟩⟩⟩⟩⟩⟩⟩⟩⟩⟩⟩⟩⟩
theorem jm__g3 : ∀ q ∈ [(10, 192, 78), (10, 195, 81), (10, 198, 80), (10, 207, 85), (10, 213, 89), (10, 216, 91), (10, 219, 90), (10, 222, 93), (10, 225, 92), (10, 228, 96), (10, 231, 97), (10, 234, 99), (10, 243, 101), (10, 255, 104), (10, 258, 105), (10, 261, 107), (0, 64, 166), (0, 71, 112), (0, 75, 113), (0, 82, 139), (0, 101, 119), (0, 109, 167), (0, 113, 121), (0, 119, 118)], jmP q := List.forall_mem_cons.mpr ⟨jm__72, List.forall_mem_cons.mpr ⟨jm__73, List.forall_mem_cons.mpr ⟨jm__74, List.forall_mem_cons.mpr ⟨jm__75, List.forall_mem_cons.mpr ⟨jm__76, List.forall_mem_cons.mpr ⟨jm__77, List.forall_mem_cons.mpr ⟨jm__78, List.forall_mem_cons.mpr ⟨jm__79, List.forall_mem_cons.mpr ⟨jm__80, List.forall_mem_cons.mpr ⟨jm__81, List.forall_mem_cons.mpr ⟨jm__82, List.forall_mem_cons.mpr ⟨jm__83, List.forall_mem_cons.mpr ⟨jm__84, List.forall_mem_cons.mpr ⟨jm__85, List.forall_mem_cons.mpr ⟨jm__86, List.forall_mem_cons.mpr ⟨jm__87, List.forall_mem_cons.mpr ⟨jm__88, List.forall_mem_cons.mpr ⟨jm__89, List.forall_mem_cons.mpr ⟨jm__90, List.forall_mem_cons.mpr ⟨jm__91, List.forall_mem_cons.mpr ⟨jm__92, List.forall_mem_cons.mpr ⟨jm__93, List.forall_mem_cons.mpr ⟨jm__94, List.forall_mem_cons.mpr ⟨jm__95, fun _ h => absurd h List.not_mem_nil⟩⟩⟩⟩⟩⟩⟩⟩⟩⟩⟩⟩⟩⟩⟩⟩⟩⟩⟩⟩⟩⟩⟩⟩
theorem jm__g4 : ∀ q ∈ [(0, 123, 117), (0, 126, 169), (0, 130, 122), (0, 133, 171), (0, 142, 120), (0, 148, 170), (1, 36, 125), (1, 43, 126), (1, 50, 130), (1, 59, 127), (1, 63, 144), (2, 48, 141), (2, 58, 124), (3, 25, 137), (3, 29, 138), (4, 43, 143), (4, 53, 146), (5, 64, 155), (5, 68, 157), (5, 78, 115), (5, 82, 156), (5, 91, 111), (5, 112, 160), (5, 115, 158)], jmP q := List.forall_mem_cons.mpr ⟨jm__96, List.forall_mem_cons.mpr ⟨jm__97, List.forall_mem_cons.mpr ⟨jm__98, List.forall_mem_cons.mpr ⟨jm__99, List.forall_mem_cons.mpr ⟨jm__100, List.forall_mem_cons.mpr ⟨jm__101, List.forall_mem_cons.mpr ⟨jm__102, List.forall_mem_cons.mpr ⟨jm__103, List.forall_mem_cons.mpr ⟨jm__104, List.forall_mem_cons.mpr ⟨jm__105, List.forall_mem_cons.mpr ⟨jm__106, List.forall_mem_cons.mpr ⟨jm__107, List.forall_mem_cons.mpr ⟨jm__108, List.forall_mem_cons.mpr ⟨jm__109, List.forall_mem_cons.mpr ⟨jm__110, List.forall_mem_cons.mpr ⟨jm__111, List.forall_mem_cons.mpr ⟨jm__112, List.forall_mem_cons.mpr ⟨jm__113, List.forall_mem_cons.mpr ⟨jm__114, List.forall_mem_cons.mpr ⟨jm__115, List.forall_mem_cons.mpr ⟨jm__116, List.forall_mem_cons.mpr ⟨jm__117, List.forall_mem_cons.mpr ⟨jm__118, List.forall_mem_cons.mpr ⟨jm__119, fun _ h => absurd h List.not_mem_nil⟩⟩⟩⟩⟩⟩⟩⟩⟩⟩⟩⟩⟩⟩⟩⟩⟩⟩⟩⟩⟩⟩⟩⟩
theorem jm__g5 : ∀ q ∈ [(5, 119, 181), (5, 128, 116), (5, 131, 159), (5, 134, 161), (6, 35, 164), (6, 39, 163), (6, 43, 150), (6, 61, 148), (6, 68, 165), (7, 42, 149), (7, 52, 168), (8, 45, 177), (8, 48, 140), (8, 70, 178), (8, 77, 139), (8, 88, 138), (8, 91, 180), (8, 109, 179), (8, 113, 144), (8, 117, 145)], jmP q := List.forall_mem_cons.mpr ⟨jm__120, List.forall_mem_cons.mpr ⟨jm__121, List.forall_mem_cons.mpr ⟨jm__122, List.forall_mem_cons.mpr ⟨jm__123, List.forall_mem_cons.mpr ⟨jm__124, List.forall_mem_cons.mpr ⟨jm__125, List.forall_mem_cons.mpr ⟨jm__126, List.forall_mem_cons.mpr ⟨jm__127, List.forall_mem_cons.mpr ⟨jm__128, List.forall_mem_cons.mpr ⟨jm__129, List.forall_mem_cons.mpr ⟨jm__130, List.forall_mem_cons.mpr ⟨jm__131, List.forall_mem_cons.mpr ⟨jm__132, List.forall_mem_cons.mpr ⟨jm__133, List.forall_mem_cons.mpr ⟨jm__134, List.forall_mem_cons.mpr ⟨jm__135, List.forall_mem_cons.mpr ⟨jm__136, List.forall_mem_cons.mpr ⟨jm__137, List.forall_mem_cons.mpr ⟨jm__138, List.forall_mem_cons.mpr ⟨jm__139, fun _ h => absurd h List.not_mem_nil⟩⟩⟩⟩⟩⟩⟩⟩⟩⟩⟩⟩⟩⟩⟩⟩⟩⟩⟩⟩
theorem jm__all : ∀ q ∈ jmes, jmP q := List.forall_mem_append.mpr ⟨jm__g0, List.forall_mem_append.mpr ⟨jm__g1, List.forall_mem_append.mpr ⟨jm__g2, List.forall_mem_append.mpr ⟨jm__g3, List.forall_mem_append.mpr ⟨jm__g4, jm__g5⟩⟩⟩⟩⟩
theorem jn_g0 : ∀ q ∈ [(0, 137, 5), (2, 52, 6), (4, 37, 6), (4, 57, 4), (5, 72, 6), (5, 103, 4), (5, 125, 5), (6, 55, 4), (6, 65, 5), (7, 56, 4), (8, 83, 4), (8, 100, 6)], jnP q := List.forall_mem_cons.mpr ⟨jn_0, List.forall_mem_cons.mpr ⟨jn_1, List.forall_mem_cons.mpr ⟨jn_2, List.forall_mem_cons.mpr ⟨jn_3, List.forall_mem_cons.mpr ⟨jn_4, List.forall_mem_cons.mpr ⟨jn_5, List.forall_mem_cons.mpr ⟨jn_6, List.forall_mem_cons.mpr ⟨jn_7, List.forall_mem_cons.mpr ⟨jn_8, List.forall_mem_cons.mpr ⟨jn_9, List.forall_mem_cons.mpr ⟨jn_10, List.forall_mem_cons.mpr ⟨jn_11, fun _ h => absurd h List.not_mem_nil⟩⟩⟩⟩⟩⟩⟩⟩⟩⟩⟩⟩
theorem jn_all : ∀ q ∈ jnes, jnP q := jn_g0
def jyl : List Nat := [0, 1, 2, 3, 4, 5, 6, 7, 8, 9, 10, 11, 12, 13, 14, 15, 16, 17, 18, 19, 20, 21, 22, 23, 24, 25, 26, 27, 28, 29, 30, 31, 32, 33, 34, 35, 36, 37, 38, 39, 40, 41, 42, 43, 44, 45, 46, 47, 48, 49, 50, 51, 52, 53, 54, 55, 56, 57, 58, 59, 60, 61, 62, 63, 64, 65, 66, 67, 68, 69, 70, 71, 72, 73, 74, 75, 76, 77, 78, 79, 80, 81, 82, 83, 84, 85, 86, 87, 88, 89, 90, 91, 92, 93, 94, 95, 96, 97, 98, 99, 100, 101, 102, 103, 104, 105, 106, 107, 108, 109, 110, 111, 112, 113, 114, 115, 116, 117, 118, 119, 120, 121, 122, 123, 124, 125, 126, 127, 128, 129, 130, 131, 132, 133, 134, 135, 136, 137, 138, 139, 140, 141, 142, 143, 144, 145, 146, 147, 148, 149, 150, 151, 152, 153, 154, 155, 156, 157, 158, 159, 160, 161, 162, 163, 164, 165, 166, 167, 168, 169, 170, 171, 172, 173, 174, 175, 176, 177, 178, 179, 180, 181]
theorem jhp_l_g0 : ∀ q ∈ [0, 1, 2, 3, 4, 5, 6, 7, 8, 9, 10, 11, 12, 13, 14, 15, 16, 17, 18, 19, 20, 21, 22, 23], jhP q := List.forall_mem_cons.mpr ⟨jhp_0, List.forall_mem_cons.mpr ⟨jhp_1, List.forall_mem_cons.mpr ⟨jhp_2, List.forall_mem_cons.mpr ⟨jhp_3, List.forall_mem_cons.mpr ⟨jhp_4, List.forall_mem_cons.mpr ⟨jhp_5, List.forall_mem_cons.mpr ⟨jhp_6, List.forall_mem_cons.mpr ⟨jhp_7, List.forall_mem_cons.mpr ⟨jhp_8, List.forall_mem_cons.mpr ⟨jhp_9, List.forall_mem_cons.mpr ⟨jhp_10, List.forall_mem_cons.mpr ⟨jhp_11, List.forall_mem_cons.mpr ⟨jhp_12, List.forall_mem_cons.mpr ⟨jhp_13, List.forall_mem_cons.mpr ⟨jhp_14, List.forall_mem_cons.mpr ⟨jhp_15, List.forall_mem_cons.mpr ⟨jhp_16, List.forall_mem_cons.mpr ⟨jhp_17, List.forall_mem_cons.mpr ⟨jhp_18, List.forall_mem_cons.mpr ⟨jhp_19, List.forall_mem_cons.mpr ⟨jhp_20, List.forall_mem_cons.mpr ⟨jhp_21, List.forall_mem_cons.mpr ⟨jhp_22, List.forall_mem_cons.mpr ⟨jhp_23, fun _ h => absurd h List.not_mem_nil⟩⟩⟩⟩⟩⟩⟩⟩⟩⟩⟩⟩⟩⟩⟩⟩⟩⟩⟩⟩⟩⟩⟩⟩
theorem jhp_l_g1 : ∀ q ∈ [24, 25, 26, 27, 28, 29, 30, 31, 32, 33, 34, 35, 36, 37, 38, 39, 40, 41, 42, 43, 44, 45, 46, 47], jhP q := List.forall_mem_cons.mpr ⟨jhp_24, List.forall_mem_cons.mpr ⟨jhp_25, List.forall_mem_cons.mpr ⟨jhp_26, List.forall_mem_cons.mpr ⟨jhp_27, List.forall_mem_cons.mpr ⟨jhp_28, List.forall_mem_cons.mpr ⟨jhp_29, List.forall_mem_cons.mpr ⟨jhp_30, List.forall_mem_cons.mpr ⟨jhp_31, List.forall_mem_cons.mpr ⟨jhp_32, List.forall_mem_cons.mpr ⟨jhp_33, List.forall_mem_cons.mpr ⟨jhp_34, List.forall_mem_cons.mpr ⟨jhp_35, List.forall_mem_cons.mpr ⟨jhp_36, List.forall_mem_cons.mpr ⟨jhp_37, List.forall_mem_cons.mpr ⟨jhp_38, List.forall_mem_cons.mpr ⟨jhp_39, List.forall_mem_cons.mpr ⟨jhp_40, List.forall_mem_cons.mpr ⟨jhp_41, List.forall_mem_cons.mpr ⟨jhp_42, List.forall_mem_cons.mpr ⟨jhp_43, List.forall_mem_cons.mpr ⟨jhp_44, List.forall_mem_cons.mpr ⟨jhp_45, List.forall_mem_cons.mpr ⟨jhp_46, List.forall_mem_cons.mpr ⟨jhp_47, fun _ h => absurd h List.not_mem_nil⟩⟩⟩⟩⟩⟩⟩⟩⟩⟩⟩⟩⟩⟩⟩⟩⟩⟩⟩⟩⟩⟩⟩⟩
theorem jhp_l_g2 : ∀ q ∈ [48, 49, 50, 51, 52, 53, 54, 55, 56, 57, 58, 59, 60, 61, 62, 63, 64, 65, 66, 67, 68, 69, 70, 71], jhP q := List.forall_mem_cons.mpr ⟨jhp_48, List.forall_mem_cons.mpr ⟨jhp_49, List.forall_mem_cons.mpr ⟨jhp_50, List.forall_mem_cons.mpr ⟨jhp_51, List.forall_mem_cons.mpr ⟨jhp_52, List.forall_mem_cons.mpr ⟨jhp_53, List.forall_mem_cons.mpr ⟨jhp_54, List.forall_mem_cons.mpr ⟨jhp_55, List.forall_mem_cons.mpr ⟨jhp_56, List.forall_mem_cons.mpr ⟨jhp_57, List.forall_mem_cons.mpr ⟨jhp_58, List.forall_mem_cons.mpr ⟨jhp_59, List.forall_mem_cons.mpr ⟨jhp_60, List.forall_mem_cons.mpr ⟨jhp_61, List.forall_mem_cons.mpr ⟨jhp_62, List.forall_mem_cons.mpr ⟨jhp_63, List.forall_mem_cons.mpr ⟨jhp_64, List.forall_mem_cons.mpr ⟨jhp_65, List.forall_mem_cons.mpr ⟨jhp_66, List.forall_mem_cons.mpr ⟨jhp_67, List.forall_mem_cons.mpr ⟨jhp_68, List.forall_mem_cons.mpr ⟨jhp_69, List.forall_mem_cons.mpr ⟨jhp_70, List.forall_mem_cons.mpr ⟨jhp_71, fun _ h => absurd h List.not_mem_nil⟩⟩⟩⟩⟩⟩⟩⟩⟩⟩⟩⟩⟩⟩⟩⟩⟩⟩⟩⟩⟩⟩⟩⟩
theorem jhp_l_g3 : ∀ q ∈ [72, 73, 74, 75, 76, 77, 78, 79, 80, 81, 82, 83, 84, 85, 86, 87, 88, 89, 90, 91, 92, 93, 94, 95], jhP q := List.forall_mem_cons.mpr ⟨jhp_72, List.forall_mem_cons.mpr ⟨jhp_73, List.forall_mem_cons.mpr ⟨jhp_74, List.forall_mem_cons.mpr ⟨jhp_75, List.forall_mem_cons.mpr ⟨jhp_76, List.forall_mem_cons.mpr ⟨jhp_77, List.forall_mem_cons.mpr ⟨jhp_78, List.forall_mem_cons.mpr ⟨jhp_79, List.forall_mem_cons.mpr ⟨jhp_80, List.forall_mem_cons.mpr ⟨jhp_81, List.forall_mem_cons.mpr ⟨jhp_82, List.forall_mem_cons.mpr ⟨jhp_83, List.forall_mem_cons.mpr ⟨jhp_84, List.forall_mem_cons.mpr ⟨jhp_85, List.forall_mem_cons.mpr ⟨jhp_86, List.forall_mem_cons.mpr ⟨jhp_87, List.forall_mem_cons.mpr ⟨jhp_88, List.forall_mem_cons.mpr ⟨jhp_89, List.forall_mem_cons.mpr ⟨jhp_90, List.forall_mem_cons.mpr ⟨jhp_91, List.forall_mem_cons.mpr ⟨jhp_92, List.forall_mem_cons.mpr ⟨jhp_93, List.forall_mem_cons.mpr ⟨jhp_94, List.forall_mem_cons.mpr ⟨jhp_95, fun _ h => absurd h List.not_mem_nil⟩⟩⟩⟩⟩⟩⟩⟩⟩⟩⟩⟩⟩⟩⟩⟩⟩⟩⟩⟩⟩⟩⟩⟩
theorem jhp_l_g4 : ∀ q ∈ [96, 97, 98, 99, 100, 101, 102, 103, 104, 105, 106, 107, 108, 109, 110, 111, 112, 113, 114, 115, 116, 117, 118, 119], jhP q := List.forall_mem_cons.mpr ⟨jhp_96, List.forall_mem_cons.mpr ⟨jhp_97, List.forall_mem_cons.mpr ⟨jhp_98, List.forall_mem_cons.mpr ⟨jhp_99, List.forall_mem_cons.mpr ⟨jhp_100, List.forall_mem_cons.mpr ⟨jhp_101, List.forall_mem_cons.mpr ⟨jhp_102, List.forall_mem_cons.mpr ⟨jhp_103, List.forall_mem_cons.mpr ⟨jhp_104, List.forall_mem_cons.mpr ⟨jhp_105, List.forall_mem_cons.mpr ⟨jhp_106, List.forall_mem_cons.mpr ⟨jhp_107, List.forall_mem_cons.mpr ⟨jhp_108, List.forall_mem_cons.mpr ⟨jhp_109, List.forall_mem_cons.mpr ⟨jhp_110, List.forall_mem_cons.mpr ⟨jhp_111, List.forall_mem_cons.mpr ⟨jhp_112, List.forall_mem_cons.mpr ⟨jhp_113, List.forall_mem_cons.mpr ⟨jhp_114, List.forall_mem_cons.mpr ⟨jhp_115, List.forall_mem_cons.mpr ⟨jhp_116, List.forall_mem_cons.mpr ⟨jhp_117, List.forall_mem_cons.mpr ⟨jhp_118, List.forall_mem_cons.mpr ⟨jhp_119, fun _ h => absurd h List.not_mem_nil⟩⟩⟩⟩⟩⟩⟩⟩⟩⟩⟩⟩⟩⟩⟩⟩⟩⟩⟩⟩⟩⟩⟩⟩
theorem jhp_l_g5 : ∀ q ∈ [120, 121, 122, 123, 124, 125, 126, 127, 128, 129, 130, 131, 132, 133, 134, 135, 136, 137, 138, 139, 140, 141, 142, 143], jhP q := List.forall_mem_cons.mpr ⟨jhp_120, List.forall_mem_cons.mpr ⟨jhp_121, List.forall_mem_cons.mpr ⟨jhp_122, List.forall_mem_cons.mpr ⟨jhp_123, List.forall_mem_cons.mpr ⟨jhp_124, List.forall_mem_cons.mpr ⟨jhp_125, List.forall_mem_cons.mpr ⟨jhp_126, List.forall_mem_cons.mpr ⟨jhp_127, List.forall_mem_cons.mpr ⟨jhp_128, List.forall_mem_cons.mpr ⟨jhp_129, List.forall_mem_cons.mpr ⟨jhp_130, List.forall_mem_cons.mpr ⟨jhp_131, List.forall_mem_cons.mpr ⟨jhp_132, List.forall_mem_cons.mpr ⟨jhp_133, List.forall_mem_cons.mpr ⟨jhp_134, List.forall_mem_cons.mpr ⟨jhp_135, List.forall_mem_cons.mpr ⟨jhp_136, List.forall_mem_cons.mpr ⟨jhp_137, List.forall_mem_cons.mpr ⟨jhp_138, List.forall_mem_cons.mpr ⟨jhp_139, List.forall_mem_cons.mpr ⟨jhp_140, List.forall_mem_cons.mpr ⟨jhp_141, List.forall_mem_cons.mpr ⟨jhp_142, List.forall_mem_cons.mpr ⟨jhp_143, fun _ h => absurd h List.not_mem_nil⟩⟩⟩⟩⟩⟩⟩⟩⟩⟩⟩⟩⟩⟩⟩⟩⟩⟩⟩⟩⟩⟩⟩⟩
theorem jhp_l_g6 : ∀ q ∈ [144, 145, 146, 147, 148, 149, 150, 151, 152, 153, 154, 155, 156, 157, 158, 159, 160, 161, 162, 163, 164, 165, 166, 167], jhP q := List.forall_mem_cons.mpr ⟨jhp_144, List.forall_mem_cons.mpr ⟨jhp_145, List.forall_mem_cons.mpr ⟨jhp_146, List.forall_mem_cons.mpr ⟨jhp_147, List.forall_mem_cons.mpr ⟨jhp_148, List.forall_mem_cons.mpr ⟨jhp_149, List.forall_mem_cons.mpr ⟨jhp_150, List.forall_mem_cons.mpr ⟨jhp_151, List.forall_mem_cons.mpr ⟨jhp_152, List.forall_mem_cons.mpr ⟨jhp_153, List.forall_mem_cons.mpr ⟨jhp_154, List.forall_mem_cons.mpr ⟨jhp_155, List.forall_mem_cons.mpr ⟨jhp_156, List.forall_mem_cons.mpr ⟨jhp_157, List.forall_mem_cons.mpr ⟨jhp_158, List.forall_mem_cons.mpr ⟨jhp_159, List.forall_mem_cons.mpr ⟨jhp_160, List.forall_mem_cons.mpr ⟨jhp_161, List.forall_mem_cons.mpr ⟨jhp_162, List.forall_mem_cons.mpr ⟨jhp_163, List.forall_mem_cons.mpr ⟨jhp_164, List.forall_mem_cons.mpr ⟨jhp_165, List.forall_mem_cons.mpr ⟨jhp_166, List.forall_mem_cons.mpr ⟨jhp_167, fun _ h => absurd h List.not_mem_nil⟩⟩⟩⟩⟩⟩⟩⟩⟩⟩⟩⟩⟩⟩⟩⟩⟩⟩⟩⟩⟩⟩⟩⟩
theorem jhp_l_g7 : ∀ q ∈ [168, 169, 170, 171, 172, 173, 174, 175, 176, 177, 178, 179, 180, 181], jhP q := List.forall_mem_cons.mpr ⟨jhp_168, List.forall_mem_cons.mpr ⟨jhp_169, List.forall_mem_cons.mpr ⟨jhp_170, List.forall_mem_cons.mpr ⟨jhp_171, List.forall_mem_cons.mpr ⟨jhp_172, List.forall_mem_cons.mpr ⟨jhp_173, List.forall_mem_cons.mpr ⟨jhp_174, List.forall_mem_cons.mpr ⟨jhp_175, List.forall_mem_cons.mpr ⟨jhp_176, List.forall_mem_cons.mpr ⟨jhp_177, List.forall_mem_cons.mpr ⟨jhp_178, List.forall_mem_cons.mpr ⟨jhp_179, List.forall_mem_cons.mpr ⟨jhp_180, List.forall_mem_cons.mpr ⟨jhp_181, fun _ h => absurd h List.not_mem_nil⟩⟩⟩⟩⟩⟩⟩⟩⟩⟩⟩⟩⟩⟩
theorem jhp_l_all : ∀ q ∈ jyl, jhP q := List.forall_mem_append.mpr ⟨jhp_l_g0, List.forall_mem_append.mpr ⟨jhp_l_g1, List.forall_mem_append.mpr ⟨jhp_l_g2, List.forall_mem_append.mpr ⟨jhp_l_g3, List.forall_mem_append.mpr ⟨jhp_l_g4, List.forall_mem_append.mpr ⟨jhp_l_g5, List.forall_mem_append.mpr ⟨jhp_l_g6, jhp_l_g7⟩⟩⟩⟩⟩⟩⟩
theorem jyl_eq : List.range 182 = jyl := by decide +kernel
theorem jhp_all : ∀ q ∈ List.range 182, jhP q := fun q hq => jhp_l_all q (by rw [← jyl_eq]; exact hq)
theorem jn_max : Jvm.Cond.static Lib.Math.max.name ∈ wsL_law ∧ Jvm.Cond.initialized "java/lang/Math" ∈ wsL_law ∧ Jvm.Cond.code Lib.Math.max.name Lib.Math.max.code 2 (some .int) ∈ wsL_law := ⟨jw_mem (p := 1041) rfl, jw_mem (p := 1042) rfl, jw_mem (p := 1043) rfl⟩
theorem jn_min : Jvm.Cond.static Lib.Math.min.name ∈ wsL_law ∧ Jvm.Cond.code Lib.Math.min.name Lib.Math.min.code 2 (some .int) ∈ wsL_law := ⟨jw_mem (p := 1554) rfl, jw_mem (p := 1555) rfl⟩
theorem jn_cpy : Jvm.Cond.native arraycopyName ∈ wsL_law ∧ Jvm.Cond.static arraycopyName ∈ wsL_law ∧ Jvm.Cond.initialized "java/lang/System" ∈ wsL_law := ⟨jw_mem (p := 1225) rfl, jw_mem (p := 1226) rfl, jw_mem (p := 1227) rfl⟩
theorem jn_bc : Jvm.Cond.constant RJ6 265 (jI 1431655765) ∈ wsL_law ∧ Jvm.Cond.constant RJ6 266 (jI 858993459) ∈ wsL_law ∧ Jvm.Cond.constant RJ6 267 (jI 252645135) ∈ wsL_law := ⟨jw_mem (p := 1542) rfl, jw_mem (p := 1543) rfl, jw_mem (p := 1544) rfl⟩
theorem jcn_plain : ∀ c, c < 12 → plainName (jcn c) = true ∧ jcn c ≠ "java/lang/invoke/MethodHandle" ∧ jcn c ≠ "java/lang/invoke/VarHandle" := by decide +kernel
end
section
/-! WHAT THE SMALL MACHINE STANDS FOR: the world's cells, and what is checked of each instruction -/
def jrv (ad : Int → Nat → Nat) (v : jV) : Value := match v with
  | .inl z => .int (jI z)
  | .inr q => .ref (ad q.1 q.2)
def jFl (ad : Int → Nat → Nat) (M : jM) (g : Int) : List Value := (jft.getD (jCl g) []).mapIdx fun s t => if t = 1 then .ref (ad (jfc g s).1 (jfc g s).2) else if t = 3 then .ref (ad (M g 0 s) 0) else .int (jI (M g 0 s))
def jCe (cI cZ cN : ClassId) (ad : Int → Nat → Nat) (M : jM) (q : Int × Nat) : va_E :=
  if q.2 = 0 then .inr (jCl q.1, jFl ad M q.1)
  else if (jAr q.1 q.2).1 = 1 then .inl (cI, ((jAr q.1 q.2).2, .inl (fun j => jI (M q.1 q.2 j))))
  else if (jAr q.1 q.2).1 = 2 then .inl (cZ, ((jAr q.1 q.2).2, .inl (fun j => jI (M q.1 q.2 j))))
  else .inl (cN, ((jAr q.1 q.2).2, .inr (.inr (.inr (.inr (fun j => some (ad (j : Int) 0)))))))
def jCs : List (Int × Nat) := (List.range 29).flatMap fun n : Nat => ((n : Int), 0) :: (jTyp.getD (jCls.getD n 99) []).map (fun a => ((n : Int), a.1))
def jW (cI cZ cN : ClassId) (ad : Int → Nat → Nat) (M : jM) : va_W := jCs.map fun q => (ad q.1 q.2, jCe cI cZ cN ad M q)
def jTy (cI cZ cN : ClassId) : List (ClassId × FieldType) := [(cI, .int), (cZ, .boolean), (cN, .object "LikeTales$Net")]
def jA (ad : Int → Nat → Nat) (sz : Nat) : Nat → Prop := fun a => (∃ q ∈ jCs, a = ad q.1 q.2) ∨ sz ≤ a
def jRM (M : jM) : Prop := ∀ g k i, jwr (M g k i) = M g k i
def jRV (v : jV) : Prop := ∀ z, v = .inl z → jwr z = z
def jRoom (d : Nat) : Room := { frames := d + 2, cells := 0, slots := 0, locals := 64 * d + 128 }
def jws (y : Nat) : List Jvm.Cond := Jvm.Cond.code (jmt y).1 (jmt y).2.1 (jmt y).2.2.1 (jmt y).2.2.2.1 :: wsL_law
def jB (cI cZ cN : ClassId) (D : va_G) (ad : Int → Nat → Nat) (A : Nat → Prop) (M : jM) (t : State) : Prop := jRM M ∧ va_P D vwCl (jW cI cZ cN ad M) t.heap ∧ va_K D vwCl (jTy cI cZ cN) t ∧ va_D A (jW cI cZ cN ad M)
def jQc (y : Nat) (cI cZ cN : ClassId) (D : va_G) (ad : Int → Nat → Nat) (Q : Int → jM → Prop) (sz : Nat) : Array Value → State → Outcome → State → Prop :=
  bif (jmt y).2.2.2.1.isNone then va_Qv (fun M' : jM => Q 0 M') (jB cI cZ cN D ad (jA ad sz)) (jA ad sz)
  else va_Qi (fun (r : Int32) (M' : jM) => Q r.toInt M') (jB cI cZ cN D ad (jA ad sz)) (jA ad sz)
def jPc (cI cZ cN : ClassId) (D : va_G) (ad : Int → Nat → Nat) (M : jM) (sz : Nat) (U : State) : Prop := U.heap.size = sz ∧ va_P D vwCl (jW cI cZ cN ad M) U.heap ∧ va_K D vwCl (jTy cI cZ cN) U ∧ va_D (fun _ => True) (jW cI cZ cN ad M)
/-- method y, called at depth d with these arguments in the world M, comes back with Q -/
def jCallP (d y : Nat) (as : List jV) (M : jM) (Q : Int → jM → Prop) : Prop :=
  ∀ Q' : Int → jM → Prop, (∀ r M', Q r M' → Q' r M') → (∀ v ∈ as, jRV v) → jRM M → ∀ (l : Launch) (cI cZ cN : ClassId) (D : va_G) (ad : Int → Nat → Nat) (sz : Nat),
    Met l (jmt y).1 (jws y) (jRoom d) (va_Pc (as.map (jrv ad)) (jPc cI cZ cN D ad M sz)) (jQc y cI cZ cN D ad Q' sz) 0 0 (jA ad sz)
def jCall (d z : Nat) (as : List jV) (M : jM) (Q : Int → jM → Prop) : Prop := ∃ d', d' < d ∧ jCallP d' z as M Q
def jCx (y : Nat) (p : Program) (s : State) (m : MethodId) (args : Array Value) (meth : Method) (c : Code) (cI cZ cN : ClassId) (D : va_G) : Prop :=
  p.tables.exec = Jvm.exec ∧ c.code = (jmt y).2.1 ∧ meth.sig.returnType = (jmt y).2.2.2.1 ∧ meth.locks = false ∧ c.maxLocals = (jmt y).2.2.1 ∧ s.vm.findClass (jmt y).1.cls = some m.cls ∧ (∀ w ∈ jws y, w.before args s = true) ∧ va_K D vwCl (jTy cI cZ cN) s
def jWd (M : jM) (s : State) (H : Heap) (locs : List Loc) (cI cZ cN : ClassId) (D : va_G) (ad : Int → Nat → Nat) : Prop :=
  jRM M ∧ va_P D vwCl (jW cI cZ cN ad M) H ∧ va_D (jA ad s.heap.size) (jW cI cZ cN ad M) ∧ va_S (jA ad s.heap.size) s.heap H locs
def jLs (ad : Int → Nat → Nat) (lsA : Array Slot) (nL : Nat) (ls : List (Option jV)) : Prop :=
  ls.length = nL ∧ lsA.size = nL ∧ lv_wf lsA ∧ ∀ (i : Nat) (v : jV), ls.getD i none = some v → lsA[i]? = some (.val (jrv ad v)) ∧ jRV v
def jWP (d y pc : Nat) (ls : List (Option jV)) (st : List jV) (M : jM) (Q : Int → jM → Prop) : Prop :=
  ∀ Q' : Int → jM → Prop, (∀ r M', Q r M' → Q' r M') → ∀ (p : Program) (l : Launch) (e : Env) (s : State) (m : MethodId) (args : Array Value) (below : List Frame) (meth : Method) (c : Code) (cI cZ cN : ClassId) (D : va_G) (ad : Int → Nat → Nat) (H : Heap) (locs : List Loc) (lsA : Array Slot),
    jCx y p s m args meth c cI cZ cN D → jWd M s H locs cI cZ cN D ad → jLs ad lsA (jmt y).2.2.1 ls → (∀ v ∈ st, jRV v) →
    W p l e (jRoom d) s m args below meth c H locs 0 0 (MQ below (jQc y cI cZ cN D ad Q' s.heap.size) args s 0 0 (jA ad s.heap.size)) (F0 m pc lsA (st.map (jrv ad)))
theorem jCallP.mono {d y : Nat} {as : List jV} {M : jM} {Q Q2 : Int → jM → Prop} (h : jCallP d y as M Q) (hq : ∀ r M', Q r M' → Q2 r M') : jCallP d y as M Q2 :=
  fun Q' h2 => h Q' (fun r M' hr => h2 r M' (hq r M' hr))
theorem jWP.mono {d y pc : Nat} {ls : List (Option jV)} {st : List jV} {M : jM} {Q Q2 : Int → jM → Prop} (h : jWP d y pc ls st M Q) (hq : ∀ r M', Q r M' → Q2 r M') : jWP d y pc ls st M Q2 :=
  fun Q' h2 => h Q' (fun r M' hr => h2 r M' (hq r M' hr))
theorem jCall.of {d d' z : Nat} {as : List jV} {M : jM} {Q Q2 : Int → jM → Prop} (h : jCallP d' z as M Q) (hd : d' < d) (hq : ∀ r M', Q r M' → Q2 r M') : jCall d z as M Q2 := ⟨d', hd, h.mono hq⟩
/-! pure rows -/
theorem jI_wr (z : Int) : jI (jwr z) = jI z := Int32.ofInt_toInt _
theorem jI_toInt (z : Int) : (jI z).toInt = jwr z := rfl
theorem jwr_to (x : Int32) : jwr x.toInt = x.toInt := by unfold jwr; rw [Int32.ofInt_toInt]
theorem jI_to (x : Int32) : jI x.toInt = x := Int32.ofInt_toInt x
theorem jwr_wr (z : Int) : jwr (jwr z) = jwr z := jwr_to _
theorem jwr_bmod (z : Int) : jwr z = z.bmod 4294967296 := Int32.toInt_ofInt
theorem jwr_id {z : Int} (h1 : -2147483648 ≤ z) (h2 : z < 2147483648) : jwr z = z := by
  rw [jwr_bmod]
  rw [Int.bmod_eq_of_le] <;> omega
theorem jwr_bd {z : Int} (h : jwr z = z) : -2147483648 ≤ z ∧ z < 2147483648 := by
  rw [jwr_bmod] at h
  have h1 := Int.le_bmod (x := z) (m := 4294967296) (by omega)
  have h2 := Int.bmod_lt (x := z) (m := 4294967296) (by omega)
  omega
theorem jI_add (a b : Int) : jI a + jI b = jI (a + b) := (Int32.ofInt_add a b).symm
theorem jI_sub (a b : Int) : jI a - jI b = jI (a - b) := (Int32.ofInt_sub a b).symm
theorem jI_mul (a b : Int) : jI a * jI b = jI (a * b) := (Int32.ofInt_mul a b).symm
theorem jI_neg (a : Int) : -jI a = jI (-a) := (Int32.ofInt_neg a).symm
theorem jI_div {a b : Int} (ha : jwr a = a) (hb : jwr b = b) : jI a / jI b = jI (a.tdiv b) := by
  apply Int32.toInt_inj.mp
  rw [Int32.toInt_div, jI_toInt, jI_toInt, jI_toInt, ha, hb, jwr_bmod]
theorem jI_eq {a b : Int} (ha : jwr a = a) (hb : jwr b = b) : jI a = jI b ↔ a = b := by
  rw [← Int32.toInt_inj, jI_toInt, jI_toInt, ha, hb]
theorem jI_lt {a b : Int} (ha : jwr a = a) (hb : jwr b = b) : jI a < jI b ↔ a < b := by
  rw [Int32.lt_iff_toInt_lt, jI_toInt, jI_toInt, ha, hb]
theorem jI_le {a b : Int} (ha : jwr a = a) (hb : jwr b = b) : jI a ≤ jI b ↔ a ≤ b := by
  rw [Int32.le_iff_toInt_le, jI_toInt, jI_toInt, ha, hb]
theorem jwr_0 : jwr 0 = 0 := jwr_id (by omega) (by omega)
theorem jI_0 : jI 0 = 0 := rfl
theorem jI_clamp {i : Int} (h : jwr i = i) : (jI i).toNatClampNeg = i.toNat := by
  show (jI i).toInt.toNat = _
  rw [jI_toInt, h]
theorem jI_in {i : Int} {n : Nat} (h : jwr i = i) (h0 : 0 ≤ i) (h1 : i < n) : vp_in (jI i) n := by
  intro hc
  rw [jI_clamp h] at hc
  rcases hc with hc | hc
  · rw [← jI_0, jI_lt h jwr_0] at hc; omega
  · omega
theorem jI_le_ge {a b : Int} (ha : jwr a = a) (hb : jwr b = b) : ¬ jI a ≤ jI b → b < a := fun h => by rw [jI_le ha hb] at h; omega
theorem jI_lt_ge {a b : Int} (ha : jwr a = a) (hb : jwr b = b) : ¬ jI a < jI b → b ≤ a := fun h => by rw [jI_lt ha hb] at h; omega
theorem jlt32 {n : Int} (h : 0 ≤ n ∧ n < 2147483648) : jwr n = n := jwr_id (by omega) h.2
theorem jRVs_cons {v : jV} {st : List jV} (h : jRV v) (hs : ∀ w ∈ st, jRV w) : ∀ w ∈ v :: st, jRV w := fun w hw => by
  rcases List.mem_cons.mp hw with rfl | hw
  · exact h
  · exact hs w hw
theorem jRV_i {z : Int} (h : jwr z = z) : jRV (.inl z) := fun z' he => by cases he; exact h
theorem jRV_r (q : Int × Nat) : jRV (.inr q) := fun z he => by cases he
/-! the world's cells -/
theorem jCs_nd : jCs.Nodup := by decide +kernel
theorem jCs_g0 : ∀ n : Nat, n < 29 → ((n : Int), 0) ∈ jCs := by decide +kernel
theorem jCl_of {g : Int} (h : jCl g ≠ 99) : ∃ n : Nat, n < 29 ∧ g = (n : Int) := by
  cases g with
  | ofNat n =>
    refine ⟨n, ?_, rfl⟩
    rcases Nat.lt_or_ge n 29 with q | q
    · exact q
    · exfalso
      apply h
      show jCls.getD n 99 = 99
      rw [List.getD_eq_getElem?_getD, List.getElem?_eq_none (by exact q)]
      rfl
  | negSucc n => exact absurd rfl h
theorem jCl_mem {g : Int} (h : jCl g ≠ 99) : (g, 0) ∈ jCs := by
  obtain ⟨n, hn, rfl⟩ := jCl_of h
  exact jCs_g0 n hn
theorem jCl_net {g : Int} (h : 0 ≤ g ∧ g < 18) : jCl g = 4 := by
  obtain ⟨n, rfl⟩ : ∃ n : Nat, g = n := ⟨g.toNat, by omega⟩
  have hn : n < 18 := by omega
  have : ∀ n : Nat, n < 18 → jCls.getD n 99 = 4 := by decide +kernel
  exact this n hn
theorem jfc_net {g : Int} (h : 0 ≤ g ∧ g < 18) (s : Nat) : jfc g s = (g, s + 1) := by
  obtain ⟨n, rfl⟩ : ∃ n : Nat, g = n := ⟨g.toNat, by omega⟩
  have hn : n < 18 := by omega
  show (bif Nat.blt n 18 then ((n : Int), s + 1) else _) = _
  rw [show Nat.blt n 18 = true from Nat.ble_eq_true_of_le hn]
  rfl
theorem jTyp_k0 : ∀ l ∈ jTyp, ∀ a ∈ l, a.1 ≠ 0 := by decide +kernel
theorem jAr_mem {g : Int} {k : Nat} (h : (jAr g k).2 ≠ 0) : (g, k) ∈ jCs ∧ k ≠ 0 := by
  unfold jAr at h
  cases hf : (jTyp.getD (jCl g) []).find? (fun a => a.1 == k) with
  | none => rw [hf] at h; exact absurd rfl h
  | some a =>
    have hm := List.mem_of_find?_eq_some hf
    have hk : a.1 = k := by simpa using List.find?_some hf
    have hc : jCl g ≠ 99 := by
      intro q
      rw [q] at hm
      cases hm
    obtain ⟨n, hn, rfl⟩ := jCl_of hc
    refine ⟨?_, ?_⟩
    · unfold jCs
      refine List.mem_flatMap.mpr ⟨n, List.mem_range.mpr hn, ?_⟩
      refine List.mem_cons_of_mem _ (List.mem_map.mpr ⟨a, hm, ?_⟩)
      rw [hk]
    · rw [← hk]
      have hl : jTyp.getD (jCl (n : Int)) [] ∈ jTyp := by
        rw [List.getD_eq_getElem?_getD]
        cases hq : jTyp[jCl (n : Int)]? with
        | none =>
          rw [List.getD_eq_getElem?_getD, hq] at hm
          cases hm
        | some l => exact List.mem_of_getElem? hq
      exact jTyp_k0 _ hl a hm
theorem jal_of {g : Int} {k : Nat} {i : Int} (h0 : 0 ≤ i) (h : i < jal g k) : (jAr g k).1 = 1 ∧ jal g k = ((jAr g k).2 : Int) ∧ (g, k) ∈ jCs ∧ k ≠ 0 := by
  unfold jal at h ⊢
  split at h
  · rename_i n he
    have := jAr_mem (g := g) (k := k) (by rw [he]; show n ≠ 0; intro q; subst q; simp at h; omega)
    exact ⟨by rw [he], by rw [he], this⟩
  · omega
theorem jbl_of {g : Int} {k : Nat} {i : Int} (h0 : 0 ≤ i) (h : i < jbl g k) : (jAr g k).1 = 2 ∧ jbl g k = ((jAr g k).2 : Int) ∧ (g, k) ∈ jCs ∧ k ≠ 0 := by
  unfold jbl at h ⊢
  split at h
  · rename_i n he
    have := jAr_mem (g := g) (k := k) (by rw [he]; show n ≠ 0; intro q; subst q; simp at h; omega)
    exact ⟨by rw [he], by rw [he], this⟩
  · omega
theorem jW_get {q : Int × Nat} (h : q ∈ jCs) (cI cZ cN : ClassId) (ad : Int → Nat → Nat) (M : jM) : ∃ i : Nat, jCs[i]? = some q ∧ (jW cI cZ cN ad M)[i]? = some (ad q.1 q.2, jCe cI cZ cN ad M q) := by
  obtain ⟨i, hi⟩ := List.getElem?_of_mem h
  exact ⟨i, hi, by unfold jW; rw [List.getElem?_map, hi]; rfl⟩
theorem jW_set {cI cZ cN : ClassId} {ad : Int → Nat → Nat} {M M' : jM} {q : Int × Nat} {i : Nat} (hi : jCs[i]? = some q) (hne : ∀ q' ∈ jCs, q' ≠ q → jCe cI cZ cN ad M q' = jCe cI cZ cN ad M' q') :
    (jW cI cZ cN ad M).set i (ad q.1 q.2, jCe cI cZ cN ad M' q) = jW cI cZ cN ad M' := by
  apply List.ext_getElem?
  intro j
  rw [List.getElem?_set]
  have hil : i < jCs.length := (List.getElem?_eq_some_iff.mp hi).1
  split
  · rename_i hij
    subst hij
    rw [if_pos (by unfold jW; rw [List.length_map]; exact hil)]
    unfold jW
    rw [List.getElem?_map, hi]
    rfl
  · rename_i hij
    unfold jW
    rw [List.getElem?_map, List.getElem?_map]
    cases hq : jCs[j]? with
    | none => rfl
    | some q' =>
      have hjl : j < jCs.length := (List.getElem?_eq_some_iff.mp hq).1
      have hne' : q' ≠ q := by
        intro he
        subst he
        apply hij
        exact (List.getElem?_inj hil jCs_nd).mp (by rw [hi, hq])
      show some (ad q'.1 q'.2, jCe cI cZ cN ad M q') = some (ad q'.1 q'.2, jCe cI cZ cN ad M' q')
      rw [hne q' (List.mem_of_getElem? hq) hne']
theorem jCe_up {cI cZ cN : ClassId} {ad : Int → Nat → Nat} {M : jM} {g : Int} {k : Nat} {j v : Int} (q' : Int × Nat) (h : q' ≠ (g, k)) : jCe cI cZ cN ad M q' = jCe cI cZ cN ad (jup M g k j v) q' := by
  obtain ⟨a, b⟩ := q'
  have e : ∀ i : Int, jup M g k j v a b i = M a b i := fun i => by
    unfold jup
    rw [if_neg]
    rintro ⟨h1, h2, -⟩
    exact h (by rw [h1, h2])
  unfold jCe
  by_cases hb : b = 0
  · subst hb
    simp only [if_true, jFl, e]
  · simp only [hb, if_false, e]
theorem jCe_cp {cI cZ cN : ClassId} {ad : Int → Nat → Nat} {M : jM} {g g' : Int} {k k' : Nat} {sp dp n : Int} (q' : Int × Nat) (h : q' ≠ (g', k')) : jCe cI cZ cN ad M q' = jCe cI cZ cN ad (jcp M g k sp g' k' dp n) q' := by
  obtain ⟨a, b⟩ := q'
  have e : ∀ i : Int, jcp M g k sp g' k' dp n a b i = M a b i := fun i => by
    unfold jcp
    rw [if_neg]
    rintro ⟨h1, h2, -⟩
    exact h (by rw [h1, h2])
  unfold jCe
  by_cases hb : b = 0
  · subst hb
    simp only [if_true, jFl, e]
  · simp only [hb, if_false, e]
theorem jRM_up {M : jM} (h : jRM M) {g : Int} {k : Nat} {j v : Int} (hv : jwr v = v) : jRM (jup M g k j v) := fun a b c => by
  unfold jup
  split
  · exact hv
  · exact h a b c
theorem jRM_cp {M : jM} (h : jRM M) {g g' : Int} {k k' : Nat} {sp dp n : Int} : jRM (jcp M g k sp g' k' dp n) := fun a b c => by
  unfold jcp
  split
  · exact h _ _ _
  · exact h a b c
/-! locals -/
def jps (ad : Int → Nat → Nat) (ls : List (Option jV)) : List (Nat × Value) := (List.range ls.length).filterMap fun i => (ls.getD i none).map fun v => (i, jrv ad v)
theorem jps_mem {ad : Int → Nat → Nat} {ls : List (Option jV)} {i : Nat} {x : Value} : (i, x) ∈ jps ad ls ↔ ∃ v, ls.getD i none = some v ∧ x = jrv ad v := by
  unfold jps
  rw [List.mem_filterMap]
  constructor
  · rintro ⟨j, hj, he⟩
    cases hv : ls.getD j none with
    | none => rw [hv] at he; cases he
    | some v =>
      rw [hv] at he
      cases he
      exact ⟨v, hv, rfl⟩
  · rintro ⟨v, hv, rfl⟩
    refine ⟨i, List.mem_range.mpr ?_, by rw [hv]; rfl⟩
    rcases Nat.lt_or_ge i ls.length with q | q
    · exact q
    · rw [List.getD_eq_getElem?_getD, List.getElem?_eq_none q] at hv; cases hv
theorem jrv_cat (ad : Int → Nat → Nat) (v : jV) : (jrv ad v).category = 1 := by cases v <;> rfl
theorem jLs.has {ad : Int → Nat → Nat} {lsA : Array Slot} {nL : Nat} {ls : List (Option jV)} (h : jLs ad lsA nL ls) : lv_has lsA nL (jps ad ls) := by
  refine ⟨h.2.1, h.2.2.1, ?_⟩
  rintro ⟨i, x⟩ hq
  obtain ⟨v, hv, rfl⟩ := jps_mem.mp hq
  exact (h.2.2.2 i v hv).1
theorem jLs.put {ad : Int → Nat → Nat} {lsA ls' : Array Slot} {nL : Nat} {ls : List (Option jV)} {i : Nat} {v : jV} (h : jLs ad lsA nL ls) (hi : i < nL) (hv : jRV v)
    (h' : lv_has ls' nL ((i, jrv ad v) :: (jps ad ls).filter (fun q => !(q.1 == i) && !(q.1 + 1 == i && q.2.category == 2)))) : jLs ad ls' nL (ls.set i (some v)) := by
  refine ⟨by rw [List.length_set]; exact h.1, h'.1, h'.2.1, fun j w hj => ?_⟩
  rw [List.getD_eq_getElem?_getD, List.getElem?_set] at hj
  by_cases hij : i = j
  · subst hij
    rw [if_pos rfl, if_pos (by rw [h.1]; exact hi)] at hj
    cases hj
    exact ⟨h'.2.2 _ List.mem_cons_self, hv⟩
  · rw [if_neg hij, ← List.getD_eq_getElem?_getD] at hj
    refine ⟨h'.2.2 (j, jrv ad w) (List.mem_cons_of_mem _ (List.mem_filter.mpr ⟨jps_mem.mpr ⟨w, hj, rfl⟩, ?_⟩)), (h.2.2.2 j w hj).2⟩
    simp [jrv_cat]
    exact fun q => hij q.symm
/-! what is checked of an instruction -/
def jln (i : Instr) : Nat := match i with
  | .bipush _ | .iload _ | .aload _ | .istore _ | .astore _ => 2
  | .sipush _ | .ldc_w _ | .iinc _ _ | .if_icmp _ _ | .ifCond _ _ | .goto _ | .getfield _ | .putfield _ | .invokevirtual _ | .invokestatic _ => 3
  | _ => 1
def jtyt (t : Nat) : FieldType := if t = 3 then .object "LikeTales$Net" else if t = 4 then .boolean else .int
def jckF (y i ci s t p : Nat) : Bool := decide (jfes[p]? = some ((jh y).2.2, i, ci, s)) && (Nat.blt ci 11 && decide ((jft.getD ci [])[s]? = some t))
def jck (y pc : Nat) (o : jO) : Bool := match o.1 with
  | .tableswitch dflt lo hi offs => decide (decode (jmt y).2.1 pc = .ok (o.1, o.2.1)) && (decide (0 ≤ (pc : Int) + dflt) && (decide (lo ≤ hi + 1) && (decide (offs.size = (hi - lo + 1).toNat) && offs.toList.all (fun off => decide (0 ≤ (pc : Int) + off)))))
  | .iconst z => decide (decode (jmt y).2.1 pc = .ok (o.1, 1)) && decide (jwr z = z)
  | .bipush z => decide (decode (jmt y).2.1 pc = .ok (o.1, 2)) && (decide (jwr z = z) && decide ((Int8.ofInt z).toInt32 = jI z))
  | .sipush z => decide (decode (jmt y).2.1 pc = .ok (o.1, 3)) && (decide (jwr z = z) && decide ((Int16.ofInt z).toInt32 = jI z))
  | .ldc_w i => decide (decode (jmt y).2.1 pc = .ok (o.1, 3)) && (decide (jwr (o.2.2.1 : Int) = (o.2.2.1 : Int)) && (decide ((jh y).2.2 = 11) && (decide (i = 265 ∧ o.2.2.1 = 1431655765) || (decide (i = 266 ∧ o.2.2.1 = 858993459) || decide (i = 267 ∧ o.2.2.1 = 252645135)))))
  | .istore i => decide (decode (jmt y).2.1 pc = .ok (o.1, 2)) && Nat.blt i (jmt y).2.2.1
  | .astore i => decide (decode (jmt y).2.1 pc = .ok (o.1, 2)) && Nat.blt i (jmt y).2.2.1
  | .istore_n i => decide (decode (jmt y).2.1 pc = .ok (o.1, 1)) && Nat.blt i.val (jmt y).2.2.1
  | .astore_n i => decide (decode (jmt y).2.1 pc = .ok (o.1, 1)) && Nat.blt i.val (jmt y).2.2.1
  | .iinc i _ => decide (decode (jmt y).2.1 pc = .ok (o.1, 3)) && Nat.blt i (jmt y).2.2.1
  | .if_icmp _ off => decide (decode (jmt y).2.1 pc = .ok (o.1, 3)) && decide (0 ≤ (pc : Int) + off)
  | .ifCond _ off => decide (decode (jmt y).2.1 pc = .ok (o.1, 3)) && decide (0 ≤ (pc : Int) + off)
  | .goto off => decide (decode (jmt y).2.1 pc = .ok (o.1, 3)) && decide (0 ≤ (pc : Int) + off)
  | .getfield i => decide (decode (jmt y).2.1 pc = .ok (o.1, 3)) && jckF y i o.2.2.1 o.2.2.2.1 o.2.2.2.2.1 o.2.2.2.2.2
  | .putfield i => decide (decode (jmt y).2.1 pc = .ok (o.1, 3)) && jckF y i o.2.2.1 o.2.2.2.1 o.2.2.2.2.1 o.2.2.2.2.2
  | .invokevirtual i => decide (decode (jmt y).2.1 pc = .ok (o.1, 3)) && (decide (jmes[o.2.2.2.2.2]? = some ((jh y).2.2, i, o.2.2.1)) && (decide (o.2.2.2.1 = (jh o.2.2.1).1 + 1) && (decide ((jmt o.2.2.1).2.2.2.1.isNone = (o.2.2.2.2.1 == 1)) && (decide ((jh o.2.2.1).2.1 = 0) && (Nat.blt o.2.2.1 182 && Nat.blt (jh o.2.2.1).2.2 11)))))
  | .invokestatic i => decide (decode (jmt y).2.1 pc = .ok (o.1, 3)) && (
      bif o.2.2.2.2.1 == 4 || (o.2.2.2.2.1 == 5 || o.2.2.2.2.1 == 6) then decide (jnes[o.2.2.2.2.2]? = some ((jh y).2.2, i, o.2.2.2.2.1))
      else decide (jmes[o.2.2.2.2.2]? = some ((jh y).2.2, i, o.2.2.1)) && (decide (o.2.2.2.1 = (jh o.2.2.1).1) && (decide ((jmt o.2.2.1).2.2.2.1.isNone = (o.2.2.2.2.1 == 3)) && (decide ((jh o.2.2.1).2.1 = 1) && Nat.blt o.2.2.1 182))))
  | .ireturn => decide (decode (jmt y).2.1 pc = .ok (o.1, 1)) && decide ((jmt y).2.2.2.1 = some (if o.2.2.1 = 1 then .boolean else .int))
  | .return_ => decide (decode (jmt y).2.1 pc = .ok (o.1, 1)) && decide ((jmt y).2.2.2.1 = none)
  | _ => decide (decode (jmt y).2.1 pc = .ok (o.1, jln o.1))
end
section
set_option maxRecDepth 100000 in
theorem jw_good : jwc.all (fun c => c.all goodWord) = true := by decide +kernel
theorem jU_good : jwU.all (fun c => c.all goodWord) = true := by decide +kernel
theorem wsL_good : GoodIn wsL_law wsL_law := by
  intro w hw
  refine ⟨hw, good_of_word ?_⟩
  rw [wsL_eq] at hw
  rcases List.mem_append.mp hw with h | h
  · obtain ⟨c, hc, hw⟩ := List.mem_flatten.mp h
    exact List.all_eq_true.mp (List.all_eq_true.mp jw_good c hc) w hw
  · obtain ⟨c, hc, hw⟩ := List.mem_flatten.mp h
    exact List.all_eq_true.mp (List.all_eq_true.mp jU_good c hc) w hw
/-- what the tables say of each class -/
theorem wsU_sub {c : List Jvm.Cond} (hc : c ∈ jwU) : ∀ w ∈ c, w ∈ wsL_law := by
  intro w hw
  rw [wsL_eq]
  exact List.mem_append_right _ (List.mem_flatten.mpr ⟨c, hc, hw⟩)
def jN (ci : Nat) : Nat := (jft.getD ci []).length
def jclOK (ci : Nat) : Prop := vwCl[ci]? = some (jcn ci, jT_ ci, jN ci) ∧ (∀ w ∈ u_ws (jcn ci) (jT_ ci) (jN ci), w ∈ wsL_law) ∧ (∃ ty : Nat → FieldType, ∀ k, k < jN ci → parseFieldDescriptor (jT_ ci k).2.2.1 = some (ty k)) ∧ (∀ a, a < jN ci → ∀ b, b < jN ci → a ≠ b → (jT_ ci a).2.1 ≠ (jT_ ci b).2.1)
theorem jcl_ok (ci : Nat) (h : ci < 11) : jclOK ci := by
  match ci, h with
  | 0, _ => exact ⟨rfl, wsU_sub (c := wsX00) (List.mem_of_getElem? (i := 3) rfl), ⟨tyX0, tyX0_ok⟩, nmX0⟩
  | 1, _ => exact ⟨rfl, wsU_sub (c := wsX10) (List.mem_of_getElem? (i := 7) rfl), ⟨tyX1, tyX1_ok⟩, nmX1⟩
  | 2, _ => exact ⟨rfl, wsU_sub (c := wsX20) (List.mem_of_getElem? (i := 5) rfl), ⟨tyX2, tyX2_ok⟩, nmX2⟩
  | 3, _ => exact ⟨rfl, wsU_sub (c := wsX30) (List.mem_of_getElem? (i := 2) rfl), ⟨tyX3, tyX3_ok⟩, nmX3⟩
  | 4, _ => exact ⟨rfl, wsU_sub (c := wsX40) (List.mem_of_getElem? (i := 6) rfl), ⟨tyX4, tyX4_ok⟩, nmX4⟩
  | 5, _ => exact ⟨rfl, wsU_sub (c := wsX50) (List.mem_of_getElem? (i := 4) rfl), ⟨tyX5, tyX5_ok⟩, nmX5⟩
  | 6, _ => exact ⟨rfl, wsU_sub (c := wsX60) (List.mem_of_getElem? (i := 9) rfl), ⟨tyX6, tyX6_ok⟩, nmX6⟩
  | 7, _ => exact ⟨rfl, wsU_sub (c := wsX70) (List.mem_of_getElem? (i := 10) rfl), ⟨tyX7, tyX7_ok⟩, nmX7⟩
  | 8, _ => exact ⟨rfl, wsU_sub (c := wsX80) (List.mem_of_getElem? (i := 8) rfl), ⟨tyX8, tyX8_ok⟩, nmX8⟩
  | 9, _ => exact ⟨rfl, wsU_sub (c := wsX90) (List.mem_of_getElem? (i := 0) rfl), ⟨tyX9, tyX9_ok⟩, nmX9⟩
  | 10, _ => exact ⟨rfl, wsU_sub (c := wsX100) (List.mem_of_getElem? (i := 1) rfl), ⟨tyX10, tyX10_ok⟩, nmX10⟩
  | n + 11, h => omega
def jpfB (ci : Nat) : Bool := (List.range (jN ci)).all fun s => ((jft.getD ci []).getD s 9 == 1) || (decide ((jT_ ci s).2.2.2 = false) && decide (parseFieldDescriptor (jT_ ci s).2.2.1 = some (jtyt ((jft.getD ci []).getD s 9))))
theorem jpf_ok : (List.range 11).all jpfB = true := by decide +kernel
theorem jpf_at {ci s t : Nat} (hc : ci < 11) (h : (jft.getD ci [])[s]? = some t) (ht : t ≠ 1) : (jT_ ci s).2.2.2 = false ∧ parseFieldDescriptor (jT_ ci s).2.2.1 = some (jtyt t) := by
  have h1 := List.all_eq_true.mp jpf_ok ci (List.mem_range.mpr hc)
  unfold jpfB at h1
  have hs : s < jN ci := (List.getElem?_eq_some_iff.mp h).1
  have h2 := List.all_eq_true.mp h1 s (List.mem_range.mpr hs)
  have e : (jft.getD ci []).getD s 9 = t := by
    rw [List.getD_eq_getElem?_getD, h]
    rfl
  rw [e] at h2
  rw [show (t == 1) = false from by simpa using ht, Bool.false_or] at h2
  have h3 := Bool.and_eq_true_iff.mp h2
  exact ⟨of_decide_eq_true h3.1, of_decide_eq_true h3.2⟩
/-! the small machine's stacks -/
theorem jb2_sp {st : List jV} {K : Int → Int → List jV → Prop} (h : jb2 st K) : ∃ a b r, st = .inl b :: .inl a :: r ∧ K a b r := by
  unfold jb2 at h
  split at h
  · exact ⟨_, _, _, rfl, h⟩
  · exact h.elim
theorem jb1_sp {st : List jV} {K : Int → List jV → Prop} (h : jb1 st K) : ∃ a r, st = .inl a :: r ∧ K a r := by
  unfold jb1 at h
  split at h
  · exact ⟨_, _, rfl, h⟩
  · exact h.elim
theorem jbr_sp {st : List jV} {K : Int → Nat → List jV → Prop} (h : jbr st K) : ∃ q r, st = .inr q :: r ∧ K q.1 q.2 r := by
  unfold jbr at h
  split at h
  · exact ⟨_, _, rfl, h⟩
  · exact h.elim
theorem jldi_sp {ls : List (Option jV)} {i : Nat} {K : Int → Prop} (h : jldi ls i K) : ∃ z, ls.getD i none = some (.inl z) ∧ K z := by
  unfold jldi at h
  split at h
  · exact ⟨_, by assumption, h⟩
  · exact h.elim
theorem jldr_sp {ls : List (Option jV)} {i : Nat} {K : Int → Nat → Prop} (h : jldr ls i K) : ∃ q, ls.getD i none = some (.inr q) ∧ K q.1 q.2 := by
  unfold jldr at h
  split at h
  · exact ⟨_, by assumption, h⟩
  · exact h.elim
theorem jsw_sp {z : Int} {K : Int → Prop} : ∀ {os : List Int} {lo : Int}, jsw z lo os K → ∀ (j : Nat) (off : Int), os[j]? = some off → z = lo + j → K off
  | [], _, _, j, off, h, _ => by simp at h
  | o :: os, lo, hs, 0, off, h, he => by
    simp at h
    subst h
    exact hs.1 (by simpa using he)
  | o :: os, lo, hs, j + 1, off, h, he => by
    exact jsw_sp hs.2 j off (by simpa using h) (by rw [he]; push_cast; omega)
theorem jtg_of {pc : Nat} {off : Int} (h : 0 ≤ (pc : Int) + off) : (pc : Int) + off = (jtg pc off : Int) := by
  unfold jtg
  rw [Int.toNat_of_nonneg h]
theorem jA_mono {ad : Int → Nat → Nat} {a b : Nat} (h : a ≤ b) (q : Nat) (hq : jA ad b q) : jA ad a q := by
  rcases hq with hq | hq
  · exact Or.inl hq
  · exact Or.inr (Nat.le_trans h hq)
theorem jW_D {cI cZ cN : ClassId} {ad : Int → Nat → Nat} {M : jM} {A : Nat → Prop} (sz : Nat) (h : va_D A (jW cI cZ cN ad M)) : va_D (jA ad sz) (jW cI cZ cN ad M) := by
  refine ⟨h.1, fun k q hk => ?_⟩
  unfold jW at hk
  rw [List.getElem?_map] at hk
  cases hc : jCs[k]? with
  | none => rw [hc] at hk; cases hk
  | some c =>
    rw [hc] at hk
    cases hk
    exact Or.inl ⟨c, List.mem_of_getElem? hc, rfl⟩
/-- the locals at a method's start -/
def jini (y : Nat) (as : List jV) : List (Option jV) := as.map some ++ List.replicate ((jmt y).2.2.1 - as.length) none
theorem lv_args_at (ad : Int → Nat → Nat) : ∀ (as : List jV) (n i : Nat) (v : jV), as[i]? = some v → (n + i, jrv ad v) ∈ lv_args n (as.map (jrv ad))
  | [], n, i, v, h => by simp at h
  | a :: as, n, 0, v, h => by
    simp at h
    subst h
    exact List.mem_cons_self
  | a :: as, n, i + 1, v, h => by
    have h1 := lv_args_at ad as (n + 1) i v (by simpa using h)
    rw [show n + (i + 1) = n + 1 + i by omega]
    show _ ∈ (n, jrv ad a) :: lv_args (if (jrv ad a).category = 2 then n + 2 else n + 1) (as.map (jrv ad))
    rw [if_neg (by rw [jrv_cat]; decide)]
    exact List.mem_cons_of_mem _ h1
theorem lg_sl_len (ad : Int → Nat → Nat) (as : List jV) : (lg_sl (as.map (jrv ad))).length = as.length := by
  induction as with
  | nil => rfl
  | cons a as ih =>
    show ((if (jrv ad a).category = 2 then _ else _) ++ lg_sl (as.map (jrv ad))).length = _
    rw [if_neg (by rw [jrv_cat]; decide), List.length_append, ih]
    simp [Nat.add_comm]
set_option maxHeartbeats 4000000 in
/-- a method's contract out of the small machine's run from its start -/
theorem jCallP_of {d y : Nat} {as : List jV} {M : jM} {Q : Int → jM → Prop} (hlen : as.length ≤ (jmt y).2.2.1) (hpl : plainName (jmt y).1.cls = true) (h : jWP d y 0 (jini y as) [] M Q) : jCallP d y as M Q := by
  intro Q' hQ hRa hRM l cI cZ cN D ad sz
  refine Met.ofW (cc := (jmt y).2.1) (maxL := (jmt y).2.2.1) (ret := (jmt y).2.2.2.1) hpl rfl ?_
  intro p e s m args below meth c s₁ B hml hv
  obtain ⟨hargs, hsz, hP, hK, hD⟩ := hv
  have hx := B.exec
  have hb := B.bytes
  have hr := B.returns
  have hts := atoms_spec (ws := jws y) B.pre
  have hown : s.vm.findClass (jmt y).1.cls = some m.cls := findClass_of_methodNamed B.named
  have hlocks := B.notSynchronized
  subst hsz
  have hl := lv_entry (as.map (jrv ad)) (n := (jmt y).2.2.1) (by rw [lg_sl_len]; exact hlen)
  rw [hargs, lg_entry_eq, ← hargs]
  refine h Q' hQ p l e s m args below meth c cI cZ cN D ad s.heap [] _ ⟨hx, hb, hr, hlocks, hml, hown, hts, hK⟩ ⟨hRM, hP, jW_D _ hD, va_S.rf⟩ ⟨?_, hl.1, hl.2.1, fun i v hi => ?_⟩ (fun v hv => by cases hv)
  · unfold jini
    rw [List.length_append, List.length_map, List.length_replicate]
    omega
  · unfold jini at hi
    rw [List.getD_eq_getElem?_getD, List.getElem?_append] at hi
    split at hi
    · rw [List.getElem?_map] at hi
      cases hv : as[i]? with
      | none => rw [hv] at hi; cases hi
      | some w =>
        rw [hv] at hi
        cases hi
        refine ⟨hl.2.2 _ (by have := lv_args_at ad as 0 i _ hv; rwa [Nat.zero_add] at this), hRa _ (List.mem_of_getElem? hv)⟩
    · rw [List.getElem?_replicate] at hi
      split at hi <;> cases hi
end
section
theorem jck_and {a b : Bool} (h : (a && b) = true) : a = true ∧ b = true := Bool.and_eq_true_iff.mp h
theorem jWd.set {cI cZ cN : ClassId} {D : va_G} {ad : Int → Nat → Nat} {M M' : jM} {s : State} {q : Int × Nat} {i : Nat} {x : va_E} {H1 : Heap} {locs1 : List Loc} (hi : jCs[i]? = some q)
    (hne : ∀ q' ∈ jCs, q' ≠ q → jCe cI cZ cN ad M q' = jCe cI cZ cN ad M' q') (hx : x = jCe cI cZ cN ad M' q) (hR : jRM M')
    (hP : va_P D vwCl ((jW cI cZ cN ad M).set i (ad q.1 q.2, x)) H1) (hD : va_D (jA ad s.heap.size) ((jW cI cZ cN ad M).set i (ad q.1 q.2, x))) (hS : va_S (jA ad s.heap.size) s.heap H1 locs1) :
    jWd M' s H1 locs1 cI cZ cN D ad := by
  subst hx
  rw [jW_set hi hne] at hP hD
  exact ⟨hR, hP, hD, hS⟩
theorem jFl_get {ad : Int → Nat → Nat} {M : jM} {g : Int} {s t : Nat} (h : (jft.getD (jCl g) [])[s]? = some t) : (jFl ad M g)[s]? = some (if t = 1 then .ref (ad (jfc g s).1 (jfc g s).2) else if t = 3 then .ref (ad (M g 0 s) 0) else .int (jI (M g 0 s))) := by
  unfold jFl
  rw [List.getElem?_mapIdx, h]
  rfl
theorem jFl_up {ad : Int → Nat → Nat} {M : jM} {g : Int} {s t : Nat} {z : Int} {v : Value} (h : (jft.getD (jCl g) [])[s]? = some t) (ht : t ≠ 1) (hv : v = if t = 3 then .ref (ad z 0) else .int (jI z)) : (jFl ad M g).set s v = jFl ad (jup M g 0 s z) g := by
  apply List.ext_getElem?
  intro j
  rw [List.getElem?_set]
  have hs : s < (jft.getD (jCl g) []).length := (List.getElem?_eq_some_iff.mp h).1
  split
  · rename_i hj
    subst hj
    rw [if_pos (by unfold jFl; rw [List.length_mapIdx]; exact hs), jFl_get h, if_neg ht, hv]
    have e : jup M g 0 s z g 0 s = z := by unfold jup; rw [if_pos ⟨rfl, rfl, rfl⟩]
    rw [e]
  · rename_i hj
    unfold jFl
    rw [List.getElem?_mapIdx, List.getElem?_mapIdx]
    have e : jup M g 0 s z g 0 (j : Int) = M g 0 j := by
      unfold jup
      rw [if_neg]
      rintro ⟨-, -, q⟩
      exact hj (by omega)
    rw [e]
theorem jsetarr {M : jM} {g : Int} {k : Nat} {i z : Int} (h0 : 0 ≤ i) : upd (fun j : Nat => jI (M g k j)) i.toNat (jI z) = fun j : Nat => jI (jup M g k i z g k j) := by
  funext j
  unfold upd jup
  by_cases hj : j = i.toNat
  · rw [if_pos hj, if_pos ⟨rfl, rfl, by omega⟩]
  · rw [if_neg hj, if_neg (by rintro ⟨-, -, q⟩; omega)]
theorem jnar_bool {z : Int} (h : z = 0 ∨ z = 1) : vp_nar .boolean (jI z) = jI z := by
  rcases h with rfl | rfl <;> decide +kernel
theorem jnarrow_bool {z : Int} (h : z = 0 ∨ z = 1) : narrow .boolean (.int (jI z)) = .int (jI z) := by
  rcases h with rfl | rfl <;> decide +kernel
theorem jfits_bool {z : Int} (h : z = 0 ∨ z = 1) : fits .boolean (.int (jI z)) = true := by
  rcases h with rfl | rfl <;> decide +kernel
theorem jhc {y : Nat} (h : y < 182) : (jmt y).1.cls = jcn (jh y).2.2 := (jhp_all y (List.mem_range.mpr h)).1
section STEP
variable {p : Program} {l : Launch} {e : Env} {s : State} {m : MethodId} {args : Array Value} {below : List Frame} {meth : Method} {c : Code} {cI cZ cN : ClassId} {D : va_G} {ad : Int → Nat → Nat} {H : Heap} {locs : List Loc} {lsA : Array Slot} {d y pc : Nat} {ls : List (Option jV)} {st r : List jV} {M : jM} {Q : Int → jM → Prop} {Z : State → Prop}
/-- the machine at a place of the method, as the small machine's state says -/
abbrev jWW (p : Program) (l : Launch) (e : Env) (s : State) (m : MethodId) (args : Array Value) (below : List Frame) (meth : Method) (c : Code) (Z : State → Prop) (ad : Int → Nat → Nat) (d : Nat) (H : Heap) (locs : List Loc) (lsA : Array Slot) (pc : Nat) (st : List jV) : Prop :=
  W p l e (jRoom d) s m args below meth c H locs 0 0 Z (F0 m pc lsA (st.map (jrv ad)))
theorem js_fieldr {ci i sl t w : Nat} {g : Int} (hC : jCx y p s m args meth c cI cZ cN D) (hW : jWd M s H locs cI cZ cN D ad) (hd : decode (jmt y).2.1 pc = .ok (.getfield i, 3)) (hyl : y < 182) (hk : jckF y i ci sl t w = true) (hg : jCl g = ci)
    (k : W p l e (jRoom d) s m args below meth c H locs 0 0 Z (F0 m (pc + 3) lsA ((if t = 1 then Value.ref (ad (jfc g sl).1 (jfc g sl).2) else if t = 3 then .ref (ad (M g 0 sl) 0) else .int (jI (M g 0 sl))) :: r.map (jrv ad)))) : jWW p l e s m args below meth c Z ad d H locs lsA pc (.inr (g, 0) :: r) := by
  obtain ⟨hx, hb, hr, hlk, hml, hown, hts, hK⟩ := hC
  obtain ⟨hRM, hP, hD, hS⟩ := hW
  unfold jckF at hk
  obtain ⟨h3, hk⟩ := jck_and hk
  obtain ⟨h1, h4⟩ := jck_and hk
  replace h3 := of_decide_eq_true h3
  replace h4 := of_decide_eq_true h4
  replace h1 : ci < 11 := Nat.le_of_ble_eq_true h1
  obtain ⟨hq, hin, -, -⟩ := jcl_ok ci h1
  obtain ⟨h5, h2⟩ := jf_all _ (List.mem_of_getElem? h3)
  dsimp only at h5 h2
  rw [jhc hyl] at hown
  have hc99 : jCl g ≠ 99 := by
    rw [hg]
    omega
  obtain ⟨q0, -, he⟩ := jW_get (jCl_mem hc99) cI cZ cN ad M
  have he' : (jW cI cZ cN ad M)[q0]? = some (ad g 0, .inr (ci, jFl ad M g)) := by
    rw [he]
    unfold jCe
    rw [if_pos rfl, hg]
  have h6 : sl < jN ci := (List.getElem?_eq_some_iff.mp h4).1
  rw [← hg] at h4
  exact va_get (D := D) (ci := ci) (C := jcn ci) (T := jT_ ci) (N := jN ci) (ref := jcn ci) hx hb (fun w hw => hts w (List.mem_cons_of_mem _ hw)) hin hown hK hP q0 he' hq sl h6 (hts _ (List.mem_cons_of_mem _ h5)) (fun x hx9 => by rw [← h2]; exact hx9) (jFl_get h4) hd k
theorem js_put {ci i sl t w : Nat} {g z : Int} {v : Value} (hC : jCx y p s m args meth c cI cZ cN D) (hW : jWd M s H locs cI cZ cN D ad) (hd : decode (jmt y).2.1 pc = .ok (.putfield i, 3)) (hyl : y < 182) (hk : jckF y i ci sl t w = true) (hg : jCl g = ci)
    (ht : t ≠ 1) (hv : v = if t = 3 then .ref (ad z 0) else .int (jI z)) (hn : narrow (jtyt t) v = v) (hf : fits (jtyt t) v = true) (hz : jwr z = z)
    (k : ∀ H1 locs1, jWd (jup M g 0 sl z) s H1 locs1 cI cZ cN D ad → W p l e (jRoom d) s m args below meth c H1 locs1 0 0 Z (F0 m (pc + 3) lsA (r.map (jrv ad)))) : W p l e (jRoom d) s m args below meth c H locs 0 0 Z (F0 m pc lsA (v :: .ref (ad g 0) :: r.map (jrv ad))) := by
  obtain ⟨hx, hb, hr, hlk, hml, hown, hts, hK⟩ := hC
  obtain ⟨hRM, hP, hD, hS⟩ := hW
  unfold jckF at hk
  obtain ⟨h3, hk⟩ := jck_and hk
  obtain ⟨h1, h4⟩ := jck_and hk
  replace h3 := of_decide_eq_true h3
  replace h4 := of_decide_eq_true h4
  replace h1 : ci < 11 := Nat.le_of_ble_eq_true h1
  obtain ⟨hq, hin, ⟨ty, hty⟩, hnm⟩ := jcl_ok ci h1
  obtain ⟨h7, h2⟩ := jf_all _ (List.mem_of_getElem? h3)
  dsimp only at h7 h2
  obtain ⟨h5, h6⟩ := jpf_at h1 h4 ht
  rw [jhc hyl] at hown
  have hc99 : jCl g ≠ 99 := by
    rw [hg]
    omega
  obtain ⟨q0, hq0, he⟩ := jW_get (jCl_mem hc99) cI cZ cN ad M
  have he' : (jW cI cZ cN ad M)[q0]? = some (ad g 0, .inr (ci, jFl ad M g)) := by
    rw [he]
    unfold jCe
    rw [if_pos rfl, hg]
  have h8 : sl < jN ci := (List.getElem?_eq_some_iff.mp h4).1
  rw [← hg] at h4
  have hlen : sl < (jFl ad M g).length := by
    unfold jFl
    rw [List.length_mapIdx]
    exact (List.getElem?_eq_some_iff.mp h4).1
  refine va_put (D := D) (ci := ci) (C := jcn ci) (T := jT_ ci) (N := jN ci) (ref := jcn ci) hx hb (fun w hw => hts w (List.mem_cons_of_mem _ hw)) hin ty hty hnm hown hK hP hD hS q0 he' hq sl h8 (hts _ (List.mem_cons_of_mem _ h7)) (fun x hx9 => by rw [← h2]; exact hx9) h5 h6 hn hf hlen hd (fun H1 locs1 hP1 hD1 hS1 => ?_)
  refine k H1 locs1 (jWd.set (q := (g, 0)) hq0 (fun q' _ hne => jCe_up q' hne) ?_ (jRM_up hRM hz) hP1 hD1 hS1)
  unfold jCe
  rw [if_pos rfl, hg, jFl_up h4 ht hv]
theorem js_arr {g : Int} {k : Nat} {i : Int} (hi : 0 ≤ i ∧ i < jal g k) (M : jM) (cI cZ cN : ClassId) (ad : Int → Nat → Nat) : ∃ q0 : Nat, jCs[q0]? = some (g, k) ∧ (jW cI cZ cN ad M)[q0]? = some (ad g k, (Sum.inl (cI, ((jAr g k).2, Sum.inl (fun j : Nat => jI (M g k j)))) : va_E)) ∧ i < (jAr g k).2 ∧ k ≠ 0 := by
  obtain ⟨h1, h2, h3, h4⟩ := jal_of hi.1 hi.2
  obtain ⟨q0, hq, he⟩ := jW_get h3 cI cZ cN ad M
  refine ⟨q0, hq, ?_, by rw [← h2]; exact hi.2, h4⟩
  rw [he]
  unfold jCe
  rw [if_neg h4, if_pos h1]
theorem js_barr {g : Int} {k : Nat} {i : Int} (hi : 0 ≤ i ∧ i < jbl g k) (M : jM) (cI cZ cN : ClassId) (ad : Int → Nat → Nat) : ∃ q0 : Nat, jCs[q0]? = some (g, k) ∧ (jW cI cZ cN ad M)[q0]? = some (ad g k, (Sum.inl (cZ, ((jAr g k).2, Sum.inl (fun j : Nat => jI (M g k j)))) : va_E)) ∧ i < (jAr g k).2 ∧ k ≠ 0 := by
  obtain ⟨h1, h2, h3, h4⟩ := jbl_of hi.1 hi.2
  obtain ⟨q0, hq, he⟩ := jW_get h3 cI cZ cN ad M
  refine ⟨q0, hq, ?_, by rw [← h2]; exact hi.2, h4⟩
  rw [he]
  unfold jCe
  rw [if_neg h4, if_neg (by rw [h1]; decide), if_pos h1]
theorem jidx (M : jM) (g : Int) (k : Nat) {i : Int} (h : jwr i = i) (h0 : 0 ≤ i) : jI (M g k (((jI i).toNatClampNeg : Nat) : Int)) = jI (M g k i) := by
  rw [jI_clamp h, Int.toNat_of_nonneg h0]
end STEP
end
section
theorem jct_if {cc : Jvm.ClassFile.Cond} {a b : Int} (ha : jwr a = a) (hb : jwr b = b) : (match cc with | .eq => jI a = jI b | .ne => ¬ jI a = jI b | .lt => jI a < jI b | .ge => jI b ≤ jI a | .gt => jI b < jI a | .le => jI a ≤ jI b) → jct cc a b := by
  cases cc <;> simp only [jct, jI_eq ha hb, jI_lt ha hb, jI_lt hb ha, jI_le ha hb, jI_le hb ha] <;> exact id
theorem jcf_if {cc : Jvm.ClassFile.Cond} {a b : Int} (ha : jwr a = a) (hb : jwr b = b) : ¬ (match cc with | .eq => jI a = jI b | .ne => ¬ jI a = jI b | .lt => jI a < jI b | .ge => jI b ≤ jI a | .gt => jI b < jI a | .le => jI a ≤ jI b) → jcf cc a b := by
  cases cc <;> simp only [jcf, jI_eq ha hb, jI_lt ha hb, jI_lt hb ha, jI_le ha hb, jI_le hb ha] <;> omega
theorem jh_lt : (List.range 182).all (fun z => Nat.blt (jh z).2.2 12) = true := by decide +kernel
theorem jhok_sp {z : Nat} (h : z < 182) : Jvm.Cond.code (jmt z).1 (jmt z).2.1 (jmt z).2.2.1 (jmt z).2.2.2.1 ∈ wsL_law ∧ Jvm.Cond.initialized (jmt z).1.cls ∈ wsL_law ∧ (bif (jh z).2.1 == 1 then Jvm.Cond.static (jmt z).1 ∈ wsL_law else Jvm.Cond.instanceMethod (jmt z).1 ∈ wsL_law ∧ Jvm.Cond.selects (jmt z).1.cls (jmt z).1 (jmt z).1 ∈ wsL_law) ∧
    ((jmt z).1.cls ≠ "java/lang/invoke/MethodHandle" ∧ (jmt z).1.cls ≠ "java/lang/invoke/VarHandle" ∧ (parseMethodDescriptor (jmt z).1.desc).map (fun d => d.parameters.length) = some (jh z).1) ∧ (jmt z).2.2.1 ≤ 40 := by
  obtain ⟨h0, h1, h2, h3, h4, h5⟩ := jhp_all z (List.mem_range.mpr h)
  have hc := jcn_plain (jh z).2.2 (Nat.le_of_ble_eq_true (List.all_eq_true.mp jh_lt z (List.mem_range.mpr h)))
  rw [← h0] at hc
  exact ⟨h1, h2, h3, ⟨hc.2.1, hc.2.2, h4⟩, Nat.le_of_ble_eq_true h5⟩
theorem jh_plain {z : Nat} (h : z < 182) : plainName (jmt z).1.cls = true := by
  rw [jhc h]
  exact (jcn_plain (jh z).2.2 (Nat.le_of_ble_eq_true (List.all_eq_true.mp jh_lt z (List.mem_range.mpr h)))).1
theorem jws_good {z : Nat} (h : z < 182) : GoodIn wsL_law (jws z) := by
  intro w hw
  unfold jws at hw
  rcases List.mem_cons.mp hw with rfl | hw
  · exact wsL_good _ (jhok_sp h).1
  · exact wsL_good _ hw
section STEP2
variable {p : Program} {l : Launch} {e : Env} {s : State} {m : MethodId} {args : Array Value} {below : List Frame} {meth : Method} {c : Code} {cI cZ cN : ClassId} {D : va_G} {ad : Int → Nat → Nat} {H : Heap} {locs : List Loc} {lsA : Array Slot} {d y pc : Nat} {ls : List (Option jV)} {st r : List jV} {M : jM} {Q : Int → jM → Prop} {Z : State → Prop}
theorem js_callB {d' z i w : Nat} (hC : jCx y p s m args meth c cI cZ cN D) (hd : d' < d) (hz : z < 182) (hyl : y < 182) (hw : jmes[w]? = some ((jh y).2.2, i, z)) :
    CallB (jRoom d) s args (jmt y).1.cls i (jmt z).1 (jmt z).2.1 (jmt z).2.2.1 (jmt z).2.2.2.1 (jws z) (jRoom d') 0 0 (jh z).1 := by
  obtain ⟨hx, hb, hr, hlk, hml, hown, hts, hK⟩ := hC
  have hts' : ∀ w ∈ wsL_law, w.before args s = true := fun w hw => hts w (List.mem_cons_of_mem _ hw)
  obtain ⟨h1, h2, h3, h5, h6⟩ := jhok_sp hz
  have hlink := jm__all _ (List.mem_of_getElem? hw)
  unfold jmP at hlink
  dsimp only at hlink
  rw [← jhc hyl] at hlink
  refine callB_of (Ts := wsL_law) (ws' := wsL_law) _ hts' (jws_good hz) rfl rfl rfl (hts' _ h2) (hts' _ hlink) h5 ⟨?_, ?_⟩
  · show d' + 2 + 1 ≤ d + 2
    omega
  · show 8 + ((jmt z).2.2.1 + 11) + (64 * d' + 128) ≤ 64 * d + 128
    omega
theorem jcat_le {r : List jV} (h : Nat.ble r.length 8 = true) : ((r.map (jrv ad)).map fun v => v.category).sum ≤ 8 := by
  have h1 : ((r.map (jrv ad)).map fun v => v.category).sum = r.length := by
    induction r with
    | nil => rfl
    | cons a r ih =>
      simp only [List.map_cons, List.sum_cons, jrv_cat, List.length_cons]
      rw [ih]
      · omega
      · have := Nat.le_of_ble_eq_true h
        simp only [List.length_cons] at this
        exact Nat.ble_eq.mpr (by omega)
  rw [h1]
  exact Nat.le_of_ble_eq_true h
/-- behind a call -/
theorem js_back {z : Nat} {Q2 : Int → jM → Prop} {as : Array Value} {rest : List jV} (hC : jCx y p s m args meth c cI cZ cN D) (hW : jWd M s H locs cI cZ cN D ad) {g0 : List Value}
    (hrun : va_Run p l e (jRoom d) s m args below meth c H locs 0 0 0 0 (F0 m pc lsA g0) (rest.map (jrv ad)) (jQc z cI cZ cN D ad Q2 H.size as) (jA ad H.size))
    (kv : (jmt z).2.2.2.1.isNone = true → ∀ M1 H1 locs1, Q2 0 M1 → jWd M1 s H1 locs1 cI cZ cN D ad → W p l e (jRoom d) s m args below meth c H1 locs1 0 0 Z (F0 m (pc + 3) lsA (rest.map (jrv ad))))
    (ki : (jmt z).2.2.2.1.isNone = false → ∀ (v : Int) M1 H1 locs1, jwr v = v → Q2 v M1 → jWd M1 s H1 locs1 cI cZ cN D ad → W p l e (jRoom d) s m args below meth c H1 locs1 0 0 Z (F0 m (pc + 3) lsA (.int (jI v) :: rest.map (jrv ad)))) :
    W p l e (jRoom d) s m args below meth c H locs 0 0 Z (F0 m pc lsA g0) := by
  obtain ⟨hRM, hP, hD, hS⟩ := hW
  have hmono : ∀ q, jA ad H.size q → jA ad s.heap.size q := fun q hq => jA_mono hS.1 q hq
  unfold jQc at hrun
  cases hn : (jmt z).2.2.2.1.isNone with
  | true =>
    rw [hn] at hrun
    refine va_callv (a := as) hrun hS (fun q _ h => hmono q h) hmono (fun u t H1 locs1 ht hvm hw hB hz1 hk1 hS1 => ?_)
    obtain ⟨hR1, hP1, hK1, hD1⟩ := hB
    rw [ht] at hP1
    exact kv hn u H1 locs1 hw ⟨hR1, hP1, jW_D _ hD1, hS1⟩
  | false =>
    rw [hn] at hrun
    refine va_calli (a := as) hrun hS (fun q _ h => hmono q h) hmono (fun x u t H1 locs1 ht hvm hw hB hz1 hk1 hS1 => ?_)
    obtain ⟨hR1, hP1, hK1, hD1⟩ := hB
    rw [ht] at hP1
    have := ki hn x.toInt u H1 locs1 (jwr_to x) hw ⟨hR1, hP1, jW_D _ hD1, hS1⟩
    rw [jI_to] at this
    exact this
theorem js_pre {as : List jV} (hW : jWd M s H locs cI cZ cN D ad) (hK : va_K D vwCl (jTy cI cZ cN) s) : FrameBlind (va_Pc (as.map (jrv ad)) (jPc cI cZ cN D ad M H.size)) ∧ ∀ U : State, U.heap = H → s.WarmedH U.vm → va_Pc (as.map (jrv ad)) (jPc cI cZ cN D ad M H.size) (as.map (jrv ad)).toArray U := by
  obtain ⟨hRM, hP, hD, hS⟩ := hW
  refine ⟨fun a U g mk q => ?_, fun U hU hWm => ⟨rfl, by rw [hU], by rw [hU]; exact hP, va_K.moved hWm.alike hK, hD.weaken (fun _ _ _ _ => trivial)⟩⟩
  obtain ⟨q0, q1, qP, qK, qD⟩ := q
  exact ⟨q0, q1, qP, va_K.moved (u := U) (U := U.calling g mk a) (Vm.Alike.refl U.vm) qK, qD⟩
theorem js_callV {z i w : Nat} {rest : List jV} {g : Int} {as : List jV} {Q2 : Int → jM → Prop} (hC : jCx y p s m args meth c cI cZ cN D) (hW : jWd M s H locs cI cZ cN D ad) (hL : jLs ad lsA (jmt y).2.2.1 ls) (hd : decode (jmt y).2.1 pc = .ok (.invokevirtual i, 3)) (hz : z < 182) (hyl : y < 182) (hw : jmes[w]? = some ((jh y).2.2, i, z))
    (hn : as.length = (jh z).1) (hst : (jh z).2.1 = 0) (hg : jCl g = (jh z).2.2) (hg11 : (jh z).2.2 < 11) (hra : ∀ v ∈ as, jRV v) (hr8 : Nat.ble rest.length 8 = true)
    (hcall : jCall d z (.inr (g, 0) :: as) M Q2)
    (kv : (jmt z).2.2.2.1.isNone = true → ∀ M1 H1 locs1, Q2 0 M1 → jWd M1 s H1 locs1 cI cZ cN D ad → W p l e (jRoom d) s m args below meth c H1 locs1 0 0 Z (F0 m (pc + 3) lsA (rest.map (jrv ad))))
    (ki : (jmt z).2.2.2.1.isNone = false → ∀ (v : Int) M1 H1 locs1, jwr v = v → Q2 v M1 → jWd M1 s H1 locs1 cI cZ cN D ad → W p l e (jRoom d) s m args below meth c H1 locs1 0 0 Z (F0 m (pc + 3) lsA (.int (jI v) :: rest.map (jrv ad)))) :
    W p l e (jRoom d) s m args below meth c H locs 0 0 Z (F0 m pc lsA ((as.map (jrv ad)).reverse ++ .ref (ad g 0) :: rest.map (jrv ad))) := by
  obtain ⟨d', hd', hcall⟩ := hcall
  have hCB := js_callB (d := d) hC hd' hz hyl hw
  obtain ⟨hx, hb, hr, hlk, hml, hown, hts, hK⟩ := id hC
  have hts' : ∀ w ∈ wsL_law, w.before args s = true := fun w hw => hts w (List.mem_cons_of_mem _ hw)
  obtain ⟨h1, h2, h3, h5, h6⟩ := jhok_sp hz
  rw [hst] at h3
  obtain ⟨h3, h7⟩ := h3
  have hM := hcall Q2 (fun _ _ q => q) (jRVs_cons (jRV_r _) hra) hW.1 l cI cZ cN D ad H.size
  have hpre := js_pre (as := .inr (g, 0) :: as) hW hK
  have hc99 : jCl g ≠ 99 := by
    rw [hg]
    omega
  obtain ⟨q0, -, he⟩ := jW_get (jCl_mem hc99) cI cZ cN ad M
  have he' : (jW cI cZ cN ad M)[q0]? = some (ad g 0, .inr (jCl g, jFl ad M g)) := by
    rw [he]
    unfold jCe
    rw [if_pos rfl]
  have hrecv : ∃ cell : Cell, H[ad g 0]? = some cell ∧ cell.vm.isStatics = false ∧ s.vm.findClass (jmt z).1.cls = some cell.cls := by
    have hq := (jcl_ok (jCl g) (by rw [hg]; exact hg11)).1
    have h9 := va_recv hK hW.2.1 hq he'
    rw [hg, ← jhc hz] at h9
    exact h9
  refine js_back hC hW (va_runV (C := (jmt z).1.cls) (own := (jmt y).1.cls) (nL := (jmt y).2.2.1) (Ts := wsL_law) (As := as.map (jrv ad)) (b := ad g 0) (rest := rest.map (jrv ad)) ⟨hx, hb, hml, hown, hts'⟩ hM ⟨hCB, hts' _ h3, hts' _ h7⟩ ⟨hpre.1, hrecv, hpre.2⟩ rfl (by rw [List.length_map]; exact hn) hL.2.1 rfl (lv_room (jcat_le hr8)) hd ⟨Nat.zero_le _, Nat.zero_le _⟩) kv ki
theorem js_callS {z i w : Nat} {rest : List jV} {as : List jV} {Q2 : Int → jM → Prop} (hC : jCx y p s m args meth c cI cZ cN D) (hW : jWd M s H locs cI cZ cN D ad) (hL : jLs ad lsA (jmt y).2.2.1 ls) (hd : decode (jmt y).2.1 pc = .ok (.invokestatic i, 3)) (hz : z < 182) (hyl : y < 182) (hw : jmes[w]? = some ((jh y).2.2, i, z))
    (hn : as.length = (jh z).1) (hst : (jh z).2.1 = 1) (hra : ∀ v ∈ as, jRV v) (hr8 : Nat.ble rest.length 8 = true)
    (hcall : jCall d z as M Q2)
    (kv : (jmt z).2.2.2.1.isNone = true → ∀ M1 H1 locs1, Q2 0 M1 → jWd M1 s H1 locs1 cI cZ cN D ad → W p l e (jRoom d) s m args below meth c H1 locs1 0 0 Z (F0 m (pc + 3) lsA (rest.map (jrv ad))))
    (ki : (jmt z).2.2.2.1.isNone = false → ∀ (v : Int) M1 H1 locs1, jwr v = v → Q2 v M1 → jWd M1 s H1 locs1 cI cZ cN D ad → W p l e (jRoom d) s m args below meth c H1 locs1 0 0 Z (F0 m (pc + 3) lsA (.int (jI v) :: rest.map (jrv ad)))) :
    W p l e (jRoom d) s m args below meth c H locs 0 0 Z (F0 m pc lsA ((as.map (jrv ad)).reverse ++ rest.map (jrv ad))) := by
  obtain ⟨d', hd', hcall⟩ := hcall
  have hCB := js_callB (d := d) hC hd' hz hyl hw
  obtain ⟨hx, hb, hr, hlk, hml, hown, hts, hK⟩ := id hC
  have hts' : ∀ w ∈ wsL_law, w.before args s = true := fun w hw => hts w (List.mem_cons_of_mem _ hw)
  obtain ⟨h1, h2, h3, h5, h6⟩ := jhok_sp hz
  rw [hst] at h3
  replace h3 : Jvm.Cond.static (jmt z).1 ∈ wsL_law := h3
  have hM := hcall Q2 (fun _ _ q => q) hra hW.1 l cI cZ cN D ad H.size
  have hpre := js_pre (as := as) hW hK
  refine js_back hC hW (va_runS (own := (jmt y).1.cls) (nL := (jmt y).2.2.1) (Ts := wsL_law) (As := as.map (jrv ad)) (rest := rest.map (jrv ad)) ⟨hx, hb, hml, hown, hts'⟩ hM ⟨hCB, hts' _ h3⟩ hpre rfl (by rw [List.length_map]; exact hn) hL.2.1 rfl (lv_room (jcat_le hr8)) hd ⟨Nat.zero_le _, Nat.zero_le _⟩) kv ki
end STEP2
end
section
theorem jdec {a : Prop} [Decidable a] {b : Bool} (h : (decide a && b) = true) : a ∧ b = true := ⟨of_decide_eq_true (jck_and h).1, (jck_and h).2⟩
theorem jblt {a b : Nat} (h : Nat.blt a b = true) : a < b := Nat.le_of_ble_eq_true h
theorem jtail {v : jV} {r : List jV} (h : ∀ w ∈ v :: r, jRV w) : ∀ w ∈ r, jRV w := fun w hw => h w (List.mem_cons_of_mem _ hw)
theorem jhead {z : Int} {r : List jV} (h : ∀ w ∈ (Sum.inl z : jV) :: r, jRV w) : jwr z = z := h _ List.mem_cons_self z rfl
set_option maxHeartbeats 8000000 in
set_option maxRecDepth 100000 in
/-- one step of the small machine is the machine's -/
theorem jstep {d y pc : Nat} (hyl : y < 182) {o : jO} {ls : List (Option jV)} {st : List jV} {M : jM} {Q : Int → jM → Prop} {K : jK} (hKK : ∀ pc' ls' st' M', K pc' ls' st' M' → jWP d y pc' ls' st' M' Q) (hk : jck y pc o = true) (h : jst (jCall d) Q o pc ls st M K) : jWP d y pc ls st M Q := by
  intro Q' hQ p l e s m args below meth c cI cZ cN D ad H locs lsA hC hW hL hSt
  have go : ∀ {pc' : Nat} {ls' : List (Option jV)} {st' : List jV} {M' : jM} {H' : Heap} {locs' : List Loc} {lsA' : Array Slot}, K pc' ls' st' M' → jWd M' s H' locs' cI cZ cN D ad → jLs ad lsA' (jmt y).2.2.1 ls' → (∀ v ∈ st', jRV v) →
      W p l e (jRoom d) s m args below meth c H' locs' 0 0 (MQ below (jQc y cI cZ cN D ad Q' s.heap.size) args s 0 0 (jA ad s.heap.size)) (F0 m pc' lsA' (st'.map (jrv ad))) :=
    fun h1 h2 h3 h4 => hKK _ _ _ _ h1 Q' hQ p l e s m args below meth c cI cZ cN D ad _ _ _ hC h2 h3 h4
  obtain ⟨hx, hb, hr, hlk, hml, hown, hts, hK⟩ := id hC
  have hRM := hW.1
  have hlat : ∀ {i : Nat} {v : jV}, ls.getD i none = some v → lsA[i]? = some (.val (jrv ad v)) ∧ jRV v := fun hv => hL.2.2.2 _ _ hv
  have hts' : ∀ w ∈ wsL_law, w.before args s = true := fun w hw => hts w (List.mem_cons_of_mem _ hw)
  obtain ⟨ins, n, a1, a2, a3, a4⟩ := o
  cases ins
  case iconst z =>
    obtain ⟨hd, hz⟩ := jdec hk
    exact lv_iconst hx hb hd rfl (go h hW hL (jRVs_cons (jRV_i (of_decide_eq_true hz)) hSt))
  case bipush z =>
    obtain ⟨hd, hz⟩ := jdec hk
    obtain ⟨hz, hv⟩ := jdec hz
    exact lv_bipush hx hb hd (of_decide_eq_true hv) (go h hW hL (jRVs_cons (jRV_i hz) hSt))
  case sipush z =>
    obtain ⟨hd, hz⟩ := jdec hk
    obtain ⟨hz, hv⟩ := jdec hz
    exact lv_sipush hx hb hd (of_decide_eq_true hv) (go h hW hL (jRVs_cons (jRV_i hz) hSt))
  case ldc_w i =>
    obtain ⟨hd, hz⟩ := jdec hk
    obtain ⟨hz, hv⟩ := jdec hz
    obtain ⟨hy11, hv⟩ := jdec hv
    have hw : Jvm.Cond.constant RJ6 i (jI (a1 : Int)) ∈ wsL_law := by
      rcases Bool.or_eq_true_iff.mp hv with hv | hv
      · obtain ⟨rfl, rfl⟩ := of_decide_eq_true hv
        exact jn_bc.1
      · rcases Bool.or_eq_true_iff.mp hv with hv | hv
        · obtain ⟨rfl, rfl⟩ := of_decide_eq_true hv
          exact jn_bc.2.1
        · obtain ⟨rfl, rfl⟩ := of_decide_eq_true hv
          exact jn_bc.2.2
    have hown' := hown
    rw [jhc hyl, hy11] at hown'
    exact lv_ldcw hx hb hown' (hts' _ hw) hd (go h hW hL (jRVs_cons (jRV_i hz) hSt))
  case iload i =>
    obtain ⟨z, hv, h⟩ := jldi_sp h
    exact lv_iload hx hb (of_decide_eq_true hk) (hlat hv).1 (go h hW hL (jRVs_cons (hlat hv).2 hSt))
  case iload_n i =>
    obtain ⟨z, hv, h⟩ := jldi_sp h
    exact lv_iload_n hx hb (of_decide_eq_true hk) rfl (hlat hv).1 (go h hW hL (jRVs_cons (hlat hv).2 hSt))
  case aload i =>
    dsimp only [jst] at h
    obtain ⟨z, hv, h⟩ := jldr_sp h
    exact lv_aload hx hb (of_decide_eq_true hk) (hlat hv).1 (go h hW hL (jRVs_cons (hlat hv).2 hSt))
  case aload_n i =>
    dsimp only [jst] at h
    obtain ⟨z, hv, h⟩ := jldr_sp h
    exact lv_aload_n hx hb (of_decide_eq_true hk) rfl (hlat hv).1 (go h hW hL (jRVs_cons (hlat hv).2 hSt))
  case istore i =>
    obtain ⟨hd, hi⟩ := jdec hk
    obtain ⟨z, r, rfl, h⟩ := jb1_sp h
    exact lv_istore hx hb hd hL.has (jblt hi) rfl (fun ls' hl' => go h hW (hL.put (v := .inl z) (jblt hi) (jRV_i (jhead hSt)) hl') (jtail hSt))
  case istore_n i =>
    obtain ⟨hd, hi⟩ := jdec hk
    obtain ⟨z, r, rfl, h⟩ := jb1_sp h
    exact lv_istore_n hx hb hd rfl hL.has (jblt hi) rfl (fun ls' hl' => go h hW (hL.put (v := .inl z) (jblt hi) (jRV_i (jhead hSt)) hl') (jtail hSt))
  case astore i =>
    dsimp only [jst] at h
    obtain ⟨hd, hi⟩ := jdec hk
    obtain ⟨q, r, rfl, h⟩ := jbr_sp h
    exact lv_astore hx hb hd hL.has (jblt hi) rfl (fun ls' hl' => go h hW (hL.put (v := .inr q) (jblt hi) (jRV_r _) hl') (jtail hSt))
  case astore_n i =>
    dsimp only [jst] at h
    obtain ⟨hd, hi⟩ := jdec hk
    obtain ⟨q, r, rfl, h⟩ := jbr_sp h
    exact lv_astore_n hx hb hd rfl hL.has (jblt hi) rfl (fun ls' hl' => go h hW (hL.put (v := .inr q) (jblt hi) (jRV_r _) hl') (jtail hSt))
  case iinc i k =>
    obtain ⟨hd, hi⟩ := jdec hk
    obtain ⟨z, hv, h⟩ := jldi_sp h
    obtain ⟨q, hq⟩ := List.getElem?_of_mem ((jps_mem (ad := ad)).mpr ⟨_, hv, rfl⟩)
    refine lv_iinc (v := jI (jwr (z + k))) hx hb hd hL.has hq ?_ (jblt hi) rfl (fun ls' hl' => go h hW (hL.put (v := .inl (jwr (z + k))) (jblt hi) (jRV_i (jwr_wr _)) hl') hSt)
    rw [jI_wr]
    exact jI_add z k
  case iadd =>
    obtain ⟨a, b, r, rfl, h⟩ := jb2_sp h
    have h1 := go h hW hL (jRVs_cons (jRV_i (jwr_wr _)) (jtail (jtail hSt)))
    simp only [List.map_cons, jrv, jI_wr, ← jI_add] at h1
    exact lv_iadd hx hb (of_decide_eq_true hk) h1
  case isub =>
    obtain ⟨a, b, r, rfl, h⟩ := jb2_sp h
    have h1 := go h hW hL (jRVs_cons (jRV_i (jwr_wr _)) (jtail (jtail hSt)))
    simp only [List.map_cons, jrv, jI_wr, ← jI_sub] at h1
    exact lv_isub hx hb (of_decide_eq_true hk) h1
  case imul =>
    obtain ⟨a, b, r, rfl, h⟩ := jb2_sp h
    have h1 := go h hW hL (jRVs_cons (jRV_i (jwr_wr _)) (jtail (jtail hSt)))
    simp only [List.map_cons, jrv, jI_wr, ← jI_mul] at h1
    exact lv_imul hx hb (of_decide_eq_true hk) h1
  case idiv =>
    obtain ⟨a, b, r, rfl, hne, h⟩ := jb2_sp h
    have h1 := go h hW hL (jRVs_cons (jRV_i (jwr_wr _)) (jtail (jtail hSt)))
    have ha := jhead (jtail hSt)
    have hb' := jhead hSt
    simp only [List.map_cons, jrv, jI_wr, ← jI_div ha hb'] at h1
    exact lv_idiv hx hb (of_decide_eq_true hk) (fun q => hne (by rw [← jI_0, jI_eq hb' jwr_0] at q; exact q)) h1
  case irem =>
    obtain ⟨a, b, r, rfl, hne, h⟩ := jb2_sp h
    have h1 := go h hW hL (jRVs_cons (jRV_i (jwr_wr _)) (jtail (jtail hSt)))
    have ha := jhead (jtail hSt)
    have hb' := jhead hSt
    simp only [List.map_cons, jrv, jI_wr, ← jI_sub, ← jI_mul, ← jI_div ha hb'] at h1
    exact lv_irem hx hb (of_decide_eq_true hk) (fun q => hne (by rw [← jI_0, jI_eq hb' jwr_0] at q; exact q)) h1
  case ineg =>
    obtain ⟨a, r, rfl, h⟩ := jb1_sp h
    have h1 := go h hW hL (jRVs_cons (jRV_i (jwr_wr _)) (jtail hSt))
    simp only [List.map_cons, jrv, jI_wr, ← jI_neg] at h1
    exact lv_ineg hx hb (of_decide_eq_true hk) h1
  case iand =>
    obtain ⟨a, b, r, rfl, h⟩ := jb2_sp h
    have h1 := go h hW hL (jRVs_cons (jRV_i (jwr_to _)) (jtail (jtail hSt)))
    simp only [List.map_cons, jrv, jiand, jI_to] at h1
    exact lv_iand hx hb (of_decide_eq_true hk) h1
  case ior =>
    obtain ⟨a, b, r, rfl, h⟩ := jb2_sp h
    have h1 := go h hW hL (jRVs_cons (jRV_i (jwr_to _)) (jtail (jtail hSt)))
    simp only [List.map_cons, jrv, jior, jI_to] at h1
    exact lv_ior hx hb (of_decide_eq_true hk) h1
  case ixor =>
    obtain ⟨a, b, r, rfl, h⟩ := jb2_sp h
    have h1 := go h hW hL (jRVs_cons (jRV_i (jwr_to _)) (jtail (jtail hSt)))
    simp only [List.map_cons, jrv, jixor, jI_to] at h1
    exact lv_ixor hx hb (of_decide_eq_true hk) h1
  case ishl =>
    obtain ⟨a, b, r, rfl, h⟩ := jb2_sp h
    have h1 := go h hW hL (jRVs_cons (jRV_i (jwr_to _)) (jtail (jtail hSt)))
    simp only [List.map_cons, jrv, jishl, jI_to] at h1
    exact lv_ishl hx hb (of_decide_eq_true hk) h1
  case ishr =>
    obtain ⟨a, b, r, rfl, h⟩ := jb2_sp h
    have h1 := go h hW hL (jRVs_cons (jRV_i (jwr_to _)) (jtail (jtail hSt)))
    simp only [List.map_cons, jrv, jishr, jI_to] at h1
    exact lv_ishr hx hb (of_decide_eq_true hk) h1
  case iushr =>
    obtain ⟨a, b, r, rfl, h⟩ := jb2_sp h
    have h1 := go h hW hL (jRVs_cons (jRV_i (jwr_to _)) (jtail (jtail hSt)))
    simp only [List.map_cons, jrv, jiushr, jI_to] at h1
    exact lv_iushr hx hb (of_decide_eq_true hk) rfl h1
  case if_icmp cc off =>
    obtain ⟨hd, ho⟩ := jdec hk
    have ht := jtg_of (of_decide_eq_true ho)
    obtain ⟨a, b, r, rfl, h⟩ := jb2_sp h
    have ha := jhead (jtail hSt)
    have hb' := jhead hSt
    have hr' := jtail (jtail hSt)
    cases cc
    · exact lv_icmp_eq hx hb hd ht (fun q => go (h.1 (jct_if (cc := .eq) ha hb' q)) hW hL hr') (fun q => go (h.2 (jcf_if (cc := .eq) ha hb' q)) hW hL hr')
    · exact lv_icmp_ne hx hb hd ht (fun q => go (h.1 (jct_if (cc := .ne) ha hb' q)) hW hL hr') (fun q => go (h.2 (jcf_if (cc := .ne) ha hb' (fun k => k q))) hW hL hr')
    · exact lv_icmp_lt hx hb hd ht (fun q => go (h.1 (jct_if (cc := .lt) ha hb' q)) hW hL hr') (fun q => go (h.2 (jcf_if (cc := .lt) ha hb' q)) hW hL hr')
    · exact lv_icmp_ge hx hb hd ht (fun q => go (h.1 (jct_if (cc := .ge) ha hb' q)) hW hL hr') (fun q => go (h.2 (jcf_if (cc := .ge) ha hb' q)) hW hL hr')
    · exact lv_icmp_gt hx hb hd ht (fun q => go (h.1 (jct_if (cc := .gt) ha hb' q)) hW hL hr') (fun q => go (h.2 (jcf_if (cc := .gt) ha hb' q)) hW hL hr')
    · exact lv_icmp_le hx hb hd ht (fun q => go (h.1 (jct_if (cc := .le) ha hb' q)) hW hL hr') (fun q => go (h.2 (jcf_if (cc := .le) ha hb' q)) hW hL hr')
  case ifCond cc off =>
    obtain ⟨hd, ho⟩ := jdec hk
    have ht := jtg_of (of_decide_eq_true ho)
    obtain ⟨a, r, rfl, h⟩ := jb1_sp h
    have ha := jhead hSt
    have hb' := jwr_0
    have hr' := jtail hSt
    cases cc
    · exact lv_if_eq hx hb hd ht (fun q => go (h.1 (jct_if (cc := .eq) ha hb' q)) hW hL hr') (fun q => go (h.2 (jcf_if (cc := .eq) ha hb' q)) hW hL hr')
    · exact lv_if_ne hx hb hd ht (fun q => go (h.1 (jct_if (cc := .ne) ha hb' q)) hW hL hr') (fun q => go (h.2 (jcf_if (cc := .ne) ha hb' (fun k => k q))) hW hL hr')
    · exact lv_if_lt hx hb hd ht (fun q => go (h.1 (jct_if (cc := .lt) ha hb' q)) hW hL hr') (fun q => go (h.2 (jcf_if (cc := .lt) ha hb' q)) hW hL hr')
    · exact lv_if_ge hx hb hd ht (fun q => go (h.1 (jct_if (cc := .ge) ha hb' q)) hW hL hr') (fun q => go (h.2 (jcf_if (cc := .ge) ha hb' q)) hW hL hr')
    · exact lv_if_gt hx hb hd ht (fun q => go (h.1 (jct_if (cc := .gt) ha hb' q)) hW hL hr') (fun q => go (h.2 (jcf_if (cc := .gt) ha hb' q)) hW hL hr')
    · exact lv_if_le hx hb hd ht (fun q => go (h.1 (jct_if (cc := .le) ha hb' q)) hW hL hr') (fun q => go (h.2 (jcf_if (cc := .le) ha hb' q)) hW hL hr')
  case goto off =>
    obtain ⟨hd, ho⟩ := jdec hk
    exact lv_goto hx hb hd (jtg_of (of_decide_eq_true ho)) (go h hW hL hSt)
  case tableswitch dflt lo hi offs =>
    obtain ⟨hd, h0⟩ := jdec hk
    obtain ⟨hdf, h0⟩ := jdec h0
    obtain ⟨hlo, h0⟩ := jdec h0
    obtain ⟨hsz, hall⟩ := jdec h0
    obtain ⟨a, r, rfl, h⟩ := jb1_sp h
    have ha := jhead hSt
    have hai : (jI a).toInt = a := ha
    by_cases hc : a < lo ∨ hi < a
    · exact lv_tableOut hx hb hd (by rw [hai]; exact hc) (jtg_of hdf) (go (h.1 hc) hW hL (jtail hSt))
    · have hj : (a - lo).toNat < offs.size := by rw [hsz]; omega
      have hj1 : offs[(a - lo).toNat]? = some offs[(a - lo).toNat] := by simp [hj]
      have hj2 : offs.toList[(a - lo).toNat]? = some offs[(a - lo).toNat] := by rw [Array.getElem?_toList]; exact hj1
      have h9 := jsw_sp h.2 (a - lo).toNat _ hj2 (by omega)
      have h8 := of_decide_eq_true (List.all_eq_true.mp hall _ (List.mem_of_getElem? hj2))
      exact lv_tableIn hx hb hd (by rw [hai]; omega) (by rw [hai]; omega) (by rw [hai]; exact hj1) (jtg_of h8) (go h9 hW hL (jtail hSt))
  case dup =>
    cases st with
    | nil => exact h.elim
    | cons v r => exact lv_dup hx hb (of_decide_eq_true hk) (jrv_cat ad v) (go h hW hL (jRVs_cons (hSt v List.mem_cons_self) hSt))
  case dup2 =>
    cases st with
    | nil => exact h.elim
    | cons v r =>
      cases r with
      | nil => exact h.elim
      | cons w r => exact lv_dup2_11 hx hb (of_decide_eq_true hk) (jrv_cat ad v) (jrv_cat ad w) (go h hW hL (jRVs_cons (hSt v List.mem_cons_self) (jRVs_cons (hSt w (List.mem_cons_of_mem _ List.mem_cons_self)) hSt)))
  case pop =>
    cases st with
    | nil => exact h.elim
    | cons v r => exact lv_pop hx hb (of_decide_eq_true hk) (jrv_cat ad v) (go h hW hL (jtail hSt))
  case iaload =>
    match st, h, hSt with
    | .inl i :: .inr q :: r, h, hSt =>
      obtain ⟨hi, h⟩ := h
      obtain ⟨q0, hq0, he, hlt, -⟩ := js_arr hi M cI cZ cN ad
      have hir := jhead hSt
      have h1 := go h hW hL (jRVs_cons (jRV_i (hRM _ _ _)) (jtail (jtail hSt)))
      refine va_iald hx hb hK hW.2.1 q0 0 he rfl (jI_in hir hi.1 hlt) (of_decide_eq_true hk) ?_
      rw [jidx M q.1 q.2 hir hi.1]
      exact h1
  case baload =>
    match st, h, hSt with
    | .inl i :: .inr q :: r, h, hSt =>
      obtain ⟨hi, h⟩ := h
      obtain ⟨q0, hq0, he, hlt, -⟩ := js_barr hi M cI cZ cN ad
      have hir := jhead hSt
      have h1 := go h hW hL (jRVs_cons (jRV_i (hRM _ _ _)) (jtail (jtail hSt)))
      refine va_zald hx hb hK hW.2.1 q0 1 he rfl (jI_in hir hi.1 hlt) (of_decide_eq_true hk) ?_
      rw [jidx M q.1 q.2 hir hi.1]
      exact h1
  case aaload =>
    match st, h, hSt with
    | .inl i :: .inr q :: r, h, hSt =>
      have h2 : (bif decide (q = (18, 2)) then (0 ≤ i ∧ i < 12) ∧ K (pc + 1) ls (.inr (i, 0) :: r) M else False) := h
      by_cases hq : q = (18, 2)
      · subst hq
        simp only [decide_true, cond_true] at h2
        obtain ⟨hi, h⟩ := h2
        have hm : ((18 : Int), 2) ∈ jCs := by decide +kernel
        obtain ⟨q0, hq0, he⟩ := jW_get hm cI cZ cN ad M
        have he' : (jW cI cZ cN ad M)[q0]? = some (ad 18 2, .inl (cN, (12, .inr (.inr (.inr (.inr (fun j : Nat => some (ad (j : Int) 0)))))))) := he
        have hir := jhead hSt
        have h1 := go h hW hL (jRVs_cons (jRV_r _) (jtail (jtail hSt)))
        refine va_aldq hx hb hK hW.2.1 q0 2 he' rfl (jI_in hir hi.1 hi.2) (of_decide_eq_true hk) ?_
        rw [jI_clamp hir, Int.toNat_of_nonneg hi.1]
        exact h1
      · rw [decide_eq_false hq] at h2
        exact h2.elim
  case arraylength =>
    dsimp only [jst] at h
    obtain ⟨q, r, rfl, h0, h⟩ := jbr_sp h
    obtain ⟨h1, h2, h3, h4⟩ := jal_of (i := 0) (by omega) h0
    obtain ⟨q0, hq0, he, hlt, -⟩ := js_arr (i := 0) ⟨by omega, h0⟩ M cI cZ cN ad
    have hb9 : (jAr q.1 q.2).2 < 2147483648 := by
      have hall : ∀ l ∈ jTyp, ∀ a ∈ l, a.2.2 < 2147483648 := by decide +kernel
      unfold jAr
      split
      · rename_i a ha
        have hm := List.mem_of_find?_eq_some ha
        rw [List.getD_eq_getElem?_getD] at hm
        cases hq9 : jTyp[jCl q.1]? with
        | none => rw [hq9] at hm; cases hm
        | some l => rw [hq9] at hm; exact hall l (List.mem_of_getElem? hq9) a hm
      · decide
    have h9 := go h hW hL (jRVs_cons (jRV_i (by rw [h2]; exact jwr_id (by omega) (by omega))) (jtail hSt))
    refine va_alen hx hb hK hW.2.1 q0 0 he rfl (v := jI (jal q.1 q.2)) ?_ (of_decide_eq_true hk) h9
    rw [h2]
    show Int32.ofNat (jAr q.1 q.2).2 = _
    apply Int32.toInt_inj.mp
    rw [jI_toInt, jwr_id (by omega) (by omega)]
    exact nI_toInt hb9
  case iastore =>
    match st, h, hSt with
    | .inl z :: .inl i :: .inr q :: r, h, hSt =>
      obtain ⟨hi, h⟩ := h
      obtain ⟨q0, hq0, he, hlt, hk0⟩ := js_arr hi M cI cZ cN ad
      have hir := jhead (jtail hSt)
      refine va_iast hx hb hK hW.2.1 hW.2.2.1 hW.2.2.2 q0 0 he rfl (jI_in hir hi.1 hlt) (of_decide_eq_true hk) (fun H1 locs1 hP1 hD1 hS1 => ?_)
      refine go h (jWd.set (q := (q.1, q.2)) hq0 (fun q' _ hne => jCe_up q' hne) ?_ (jRM_up hRM (jhead hSt)) hP1 hD1 hS1) hL (jtail (jtail (jtail hSt)))
      rw [jI_clamp hir, jsetarr hi.1]
      unfold jCe
      rw [if_neg hk0, if_pos (jal_of hi.1 hi.2).1]
  case bastore =>
    match st, h, hSt with
    | .inl z :: .inl i :: .inr q :: r, h, hSt =>
      obtain ⟨hi, hz, h⟩ := h
      obtain ⟨q0, hq0, he, hlt, hk0⟩ := js_barr hi M cI cZ cN ad
      have hir := jhead (jtail hSt)
      refine va_zast hx hb hK hW.2.1 hW.2.2.1 hW.2.2.2 q0 1 he rfl (jI_in hir hi.1 hlt) (of_decide_eq_true hk) (fun H1 locs1 hP1 hD1 hS1 => ?_)
      refine go h (jWd.set (q := (q.1, q.2)) hq0 (fun q' _ hne => jCe_up q' hne) ?_ (jRM_up hRM (jhead hSt)) hP1 hD1 hS1) hL (jtail (jtail (jtail hSt)))
      rw [jnar_bool hz, jI_clamp hir, jsetarr hi.1]
      unfold jCe
      rw [if_neg hk0, if_neg (by rw [(jbl_of hi.1 hi.2).1]; decide), if_pos (jbl_of hi.1 hi.2).1]
  case getfield i =>
    dsimp only [jst] at h
    obtain ⟨hd, hk⟩ := jdec hk
    obtain ⟨q, r, hsr, h7⟩ := jbr_sp h
    clear h
    subst hsr
    obtain ⟨g, k⟩ := q
    have h := h7
    clear h7
    try dsimp only at h
    cases hk0 : (k == 0)
    · rw [hk0] at h; exact h.elim
    rw [hk0] at h
    have hk0' : k = 0 := by simpa using hk0
    subst hk0'
    simp only [cond_true] at h
    have hst := jtail hSt
    cases h4 : (a1 == 4)
    · rw [h4] at h
      simp only [cond_false] at h
      cases hg : (jCl g == a1)
      · rw [hg] at h; exact h.elim
      rw [hg] at h
      simp only [cond_true] at h
      refine js_fieldr hC hW hd hyl hk (by simpa using hg) ?_
      cases h1 : (a3 == 1)
      · rw [h1] at h
        simp only [cond_false] at h
        rw [if_neg (by simpa using h1)]
        cases h3 : (a3 == 3)
        · rw [h3] at h
          rw [if_neg (by simpa using h3)]
          exact go h hW hL (jRVs_cons (jRV_i (hRM _ _ _)) hst)
        · rw [h3] at h
          rw [if_pos (by simpa using h3)]
          exact go h hW hL (jRVs_cons (jRV_r _) hst)
      · rw [h1] at h
        rw [if_pos (by simpa using h1)]
        exact go h hW hL (jRVs_cons (jRV_r _) hst)
    · rw [h4] at h
      simp only [cond_true] at h
      have h4' : a1 = 4 := by simpa using h4
      subst h4'
      have ht : a3 = 0 ∨ a3 = 1 := by
        unfold jckF at hk
        have hk2 := of_decide_eq_true (jck_and (jck_and hk).2).2
        have hall : ∀ t ∈ jft.getD 4 [], t = 0 ∨ t = 1 := by decide +kernel
        exact hall a3 (List.mem_of_getElem? hk2)
      rcases ht with rfl | rfl
      · obtain ⟨hg, h⟩ := h
        exact js_fieldr hC hW hd hyl hk (jCl_net hg) (go h hW hL (jRVs_cons (jRV_i (hRM _ _ _)) hst))
      · obtain ⟨hg, h⟩ := h
        refine js_fieldr hC hW hd hyl hk (jCl_net hg) ?_
        rw [if_pos rfl, jfc_net hg]
        exact go h hW hL (jRVs_cons (jRV_r _) hst)
  case putfield i =>
    obtain ⟨hd, hk⟩ := jdec hk
    match st, h, hSt with
    | .inl z :: .inr (g, k) :: r, h7, hSt =>
      have hz := jhead hSt
      have hst := jtail (jtail hSt)
      have hp : (bif k == 0 then
      (bif a1 == 4 then (bif a3 == 0 then (0 ≤ g ∧ g < 18) ∧ K (pc + 3) ls r (jup M g 0 a2 z) else False)
       else bif jCl g == a1 then
        (bif a3 == 0 then K (pc + 3) ls r (jup M g 0 a2 z)
         else bif a3 == 4 then (z = 0 ∨ z = 1) ∧ K (pc + 3) ls r (jup M g 0 a2 z) else False) else False) else False) := h7
      clear h7
      cases hk0 : (k == 0)
      · rw [hk0] at hp; exact hp.elim
      rw [hk0] at hp
      have hk0' : k = 0 := by simpa using hk0
      subst hk0'
      try simp only [cond_true] at hp
      cases h4 : (a1 == 4)
      · rw [h4] at hp
        try simp only [cond_false] at hp
        cases hg : (jCl g == a1)
        · rw [hg] at hp; exact hp.elim
        rw [hg] at hp
        try simp only [cond_true] at hp
        cases h0 : (a3 == 0)
        · rw [h0] at hp
          try simp only [cond_false] at hp
          cases h44 : (a3 == 4)
          · rw [h44] at hp; exact hp.elim
          rw [h44] at hp
          have h44' : a3 = 4 := by simpa using h44
          subst h44'
          obtain ⟨hz1, hp⟩ := hp
          exact js_put hC hW hd hyl hk (by simpa using hg) (by decide : (4 : Nat) ≠ 1) rfl (jnarrow_bool hz1) (jfits_bool hz1) hz (fun H1 locs1 hW1 => go hp hW1 hL hst)
        · rw [h0] at hp
          have h0' : a3 = 0 := by simpa using h0
          subst h0'
          exact js_put hC hW hd hyl hk (by simpa using hg) (by decide : (0 : Nat) ≠ 1) rfl rfl rfl hz (fun H1 locs1 hW1 => go hp hW1 hL hst)
      · rw [h4] at hp
        try simp only [cond_true] at hp
        have h4' : a1 = 4 := by simpa using h4
        subst h4'
        cases h0 : (a3 == 0)
        · rw [h0] at hp; exact hp.elim
        rw [h0] at hp
        have h0' : a3 = 0 := by simpa using h0
        subst h0'
        obtain ⟨hg, hp⟩ := hp
        exact js_put hC hW hd hyl hk (jCl_net hg) (by decide : (0 : Nat) ≠ 1) rfl rfl rfl hz (fun H1 locs1 hW1 => go hp hW1 hL hst)
    | .inr (g2, k2) :: .inr (g, k) :: r, h7, hSt =>
      have hst := jtail (jtail hSt)
      have h6 : (bif (k == 0 && k2 == 0) && (jCl g == a1 && a3 == 3) then (0 ≤ g2 ∧ g2 < 18) ∧ K (pc + 3) ls r (jup M g 0 a2 g2) else False) := h7
      clear h7
      cases hq : ((k == 0 && k2 == 0) && (jCl g == a1 && a3 == 3))
      · rw [hq] at h6; exact h6.elim
      rw [hq] at h6
      simp only [Bool.and_eq_true, beq_iff_eq] at hq
      obtain ⟨⟨hk1, hk2⟩, hg, h33⟩ := hq
      subst hk1; subst hk2; subst h33
      obtain ⟨hg2, h6⟩ := h6
      exact js_put (t := 3) hC hW hd hyl hk hg (by decide) rfl rfl rfl (jwr_id (by omega) (by omega)) (fun H1 locs1 hW1 => go h6 hW1 hL hst)
  case invokevirtual i =>
    obtain ⟨hd, hk⟩ := jdec hk
    obtain ⟨hw, hk⟩ := jdec hk
    obtain ⟨hn, hk⟩ := jdec hk
    obtain ⟨hv, hk⟩ := jdec hk
    obtain ⟨hst, hz⟩ := jdec hk
    obtain ⟨hz, hg11⟩ := jck_and hz
    have hz := jblt hz
    have hg11 := jblt hg11
    dsimp only at hw hn hv hst hz hg11
    have h : (bif Nat.ble a2 st.length && Nat.ble (st.drop a2).length 8 then jrc (jh a1).2.2 (st.take a2).reverse (bif a3 == 1 then jCall d a1 (st.take a2).reverse M (fun _ M' => K (pc + 3) ls (st.drop a2) M')
       else bif a3 == 0 then jCall d a1 (st.take a2).reverse M (fun r M' => K (pc + 3) ls (.inl r :: st.drop a2) M') else False) else False) := h
    cases h89 : (Nat.ble a2 st.length && Nat.ble (st.drop a2).length 8)
    · rw [h89] at h; exact h.elim
    rw [h89] at h
    obtain ⟨h9, h8⟩ := jck_and h89
    have h9 := Nat.le_of_ble_eq_true h9
    simp only [cond_true] at h
    unfold jrc at h
    split at h
    · rename_i q as has
      obtain ⟨g, k⟩ := q
      dsimp only at h
      cases hk0 : (k == 0)
      · rw [hk0] at h; exact h.elim
      rw [hk0] at h
      have hk0' : k = 0 := by simpa using hk0
      subst hk0'
      simp only [cond_true] at h
      have hg : jCl g = (jh a1).2.2 ∧ (bif a3 == 1 then jCall d a1 (.inr (g, 0) :: as) M (fun _ M' => K (pc + 3) ls (st.drop a2) M')
       else bif a3 == 0 then jCall d a1 (.inr (g, 0) :: as) M (fun r M' => K (pc + 3) ls (.inl r :: st.drop a2) M') else False) := by
        rw [has] at h
        cases h4 : ((jh a1).2.2 == 4)
        · rw [h4] at h
          simp only [cond_false] at h
          cases hg : (jCl g == (jh a1).2.2)
          · rw [hg] at h; exact h.elim
          · rw [hg] at h; exact ⟨by simpa using hg, h⟩
        · rw [h4] at h
          exact ⟨by rw [jCl_net h.1]; exact (by simpa using h4 : _ = 4).symm, h.2⟩
      obtain ⟨hg, h⟩ := hg
      have hsplit : st = as.reverse ++ .inr (g, 0) :: st.drop a2 := by
        have e1 : st.take a2 = (Sum.inr (g, 0) :: as).reverse := by rw [← has, List.reverse_reverse]
        rw [List.reverse_cons] at e1
        conv => lhs; rw [← List.take_append_drop a2 st, e1]
        simp
      have hlen : as.length = (jh a1).1 := by
        have e2 := congrArg List.length has
        rw [List.length_reverse, List.length_take, List.length_cons] at e2
        omega
      have hra : ∀ v ∈ as, jRV v := fun v hv => hSt v (by rw [hsplit]; exact List.mem_append_left _ (List.mem_reverse.mpr hv))
      have hrr : ∀ v ∈ st.drop a2, jRV v := fun v hv => hSt v (List.mem_of_mem_drop hv)
      have hgoal : st.map (jrv ad) = (as.map (jrv ad)).reverse ++ .ref (ad g 0) :: (st.drop a2).map (jrv ad) := by
        conv => lhs; rw [hsplit]
        simp [jrv]
      rw [hgoal]
      cases h1 : (a3 == 1)
      · rw [h1] at h
        simp only [cond_false] at h
        cases h0 : (a3 == 0)
        · rw [h0] at h; exact h.elim
        rw [h0] at h
        refine js_callV hC hW hL hd hz hyl hw hlen hst hg hg11 hra h8 h (fun q => ?_) (fun _ v M1 H1 locs1 hvv hq hW1 => go hq hW1 hL (jRVs_cons (jRV_i hvv) hrr))
        rw [hv, h1] at q
        cases q
      · rw [h1] at h
        refine js_callV hC hW hL hd hz hyl hw hlen hst hg hg11 hra h8 h (fun _ M1 H1 locs1 hq hW1 => go hq hW1 hL hrr) (fun q => ?_)
        rw [hv, h1] at q
        cases q
    · exact h.elim
  case invokestatic i =>
    obtain ⟨hd, hk⟩ := jdec hk
    have hml' : c.maxLocals = lsA.size := by rw [hml, hL.2.1]
    cases h4 : (a3 == 4)
    · cases h5 : (a3 == 5)
      · cases h6 : (a3 == 6)
        · have h : (bif a3 == 4 then _ else bif a3 == 5 then _ else bif a3 == 6 then _ else bif Nat.ble a2 st.length && Nat.ble (st.drop a2).length 8 then
            (bif a3 == 3 then jCall d a1 (st.take a2).reverse M (fun _ M' => K (pc + 3) ls (st.drop a2) M')
             else bif a3 == 2 then jCall d a1 (st.take a2).reverse M (fun r M' => K (pc + 3) ls (.inl r :: st.drop a2) M') else False) else False) := h
          simp only [h4, h5, h6, cond_false, Bool.or_false] at h hk
          obtain ⟨hw, hk⟩ := jdec hk
          obtain ⟨hn, hk⟩ := jdec hk
          obtain ⟨hv, hk⟩ := jdec hk
          obtain ⟨hst, hz⟩ := jdec hk
          have hz := jblt hz
          cases h89 : (Nat.ble a2 st.length && Nat.ble (st.drop a2).length 8)
          · rw [h89] at h; exact h.elim
          rw [h89] at h
          obtain ⟨h9, h8⟩ := jck_and h89
          have h9 := Nat.le_of_ble_eq_true h9
          simp only [cond_true] at h
          have hsplit : st = (st.take a2).reverse.reverse ++ st.drop a2 := by
            rw [List.reverse_reverse, List.take_append_drop]
          have hlen : (st.take a2).reverse.length = (jh a1).1 := by
            rw [List.length_reverse, List.length_take]
            omega
          have hra : ∀ v ∈ (st.take a2).reverse, jRV v := fun v hv => hSt v (List.mem_of_mem_take (List.mem_reverse.mp hv))
          have hrr : ∀ v ∈ st.drop a2, jRV v := fun v hv => hSt v (List.mem_of_mem_drop hv)
          have hgoal : st.map (jrv ad) = (((st.take a2).reverse).map (jrv ad)).reverse ++ (st.drop a2).map (jrv ad) := by
            rw [← List.map_reverse, ← List.map_append, ← hsplit]
          rw [hgoal]
          cases h3 : (a3 == 3)
          · rw [h3] at h
            simp only [cond_false] at h
            cases h0 : (a3 == 2)
            · rw [h0] at h; exact h.elim
            rw [h0] at h
            refine js_callS hC hW hL hd hz hyl hw hlen hst hra h8 h (fun q => ?_) (fun _ v M1 H1 locs1 hvv hq hW1 => go hq hW1 hL (jRVs_cons (jRV_i hvv) hrr))
            rw [hv, h3] at q
            cases q
          · rw [h3] at h
            refine js_callS hC hW hL hd hz hyl hw hlen hst hra h8 h (fun _ M1 H1 locs1 hq hW1 => go hq hW1 hL hrr) (fun q => ?_)
            rw [hv, h3] at q
            cases q
        · have h6' : a3 = 6 := by simpa using h6
          subst h6'
          have hw := jn_all _ (List.mem_of_getElem? (of_decide_eq_true hk))
          unfold jnP at hw
          dsimp only at hw
          rw [← jhc hyl, show jnN 6 = arraycopyName from rfl] at hw
          match st, h, hSt with
          | .inl n :: .inl dp :: .inr q' :: .inl sp :: .inr q :: r, h, hSt =>
            have h : (bif Nat.ble r.length 8 then (0 ≤ sp ∧ 0 ≤ dp ∧ 0 < n ∧ sp + n ≤ jal q.1 q.2 ∧ dp + n ≤ jal q'.1 q'.2) ∧ K (pc + 3) ls r (jcp M q.1 q.2 sp q'.1 q'.2 dp n) else False) := h
            cases h8 : Nat.ble r.length 8
            · rw [h8] at h; exact h.elim
            rw [h8] at h
            obtain ⟨⟨c1, c2, c3, c4, c5⟩, h⟩ := h
            obtain ⟨i0, hi0, he0, hl0, hk0⟩ := js_arr (g := q.1) (k := q.2) (i := sp + n - 1) ⟨by omega, by omega⟩ M cI cZ cN ad
            obtain ⟨i1, hi1, he1, hl1, hk1⟩ := js_arr (g := q'.1) (k := q'.2) (i := dp + n - 1) ⟨by omega, by omega⟩ M cI cZ cN ad
            have hn := jhead hSt
            have hdp := jhead (jtail hSt)
            have hsp := jhead (jtail (jtail (jtail hSt)))
            have hneg : ∀ z : Int, jwr z = z → 0 ≤ z → ¬ jI z < 0 := fun z hz h0 q => by
              rw [← jI_0, jI_lt hz jwr_0] at q
              omega
            refine va_copyi (f := fun j : Nat => jI (M q.1 q.2 j)) (g := fun j : Nat => jI (M q'.1 q'.2 j)) hx hb hml' hown (hts' _ hw) (hts' _ jn_cpy.1) (hts' _ jn_cpy.2.1) (hts' _ jn_cpy.2.2)
              hK hW.2.1 hW.2.2.1 hW.2.2.2 i0 i1 0 0 he0 he1 rfl rfl rfl (hneg sp hsp c1) (hneg dp hdp c2) (hneg n hn (by omega)) (by rw [jI_clamp hsp, jI_clamp hn]; omega) (by rw [jI_clamp hdp, jI_clamp hn]; omega) (fun _ _ => rfl) ?_ ?_ hd (fun H1 locs1 hP1 hD1 hS1 => ?_)
            · show 1 ≤ d + 2
              omega
            · have := jcat_le (ad := ad) h8
              have e : nativeFrameWords "java/lang/System" "arraycopy" 5 + 11 ≤ 100 := by decide +kernel
              show _ ≤ 64 * d + 128
              omega
            · refine go h (jWd.set (q := (q'.1, q'.2)) hi1 (fun q9 _ hne => jCe_cp q9 hne) ?_ (jRM_cp hRM) hP1 hD1 hS1) hL (jtail (jtail (jtail (jtail (jtail hSt)))))
              rw [jI_clamp hsp, jI_clamp hn, jI_clamp hdp]
              unfold jCe
              rw [if_neg hk1, if_pos (jal_of (g := q'.1) (k := q'.2) (i := dp + n - 1) (by omega) (by omega)).1]
              congr 3
              congr 1
              funext j
              unfold va_cpy jcp
              by_cases hj : dp.toNat ≤ j ∧ j < dp.toNat + n.toNat
              · rw [if_pos hj, if_pos ⟨rfl, rfl, by omega, by omega⟩]
                show jI (M q.1 q.2 ((sp.toNat + (j - dp.toNat) : Nat) : Int)) = jI (M q.1 q.2 (sp + ((j : Int) - dp)))
                rw [show ((sp.toNat + (j - dp.toNat) : Nat) : Int) = sp + ((j : Int) - dp) by omega]
              · rw [if_neg hj, if_neg (by rintro ⟨-, -, q8, q9⟩; omega)]
      · have h5' : a3 = 5 := by simpa using h5
        subst h5'
        have hw := jn_all _ (List.mem_of_getElem? (of_decide_eq_true hk))
        unfold jnP at hw
        dsimp only at hw
        rw [← jhc hyl, show jnN 5 = Lib.Math.min.name from rfl] at hw
        obtain ⟨a, b, r, hsr, h7⟩ := jb2_sp h
        clear h
        subst hsr
        have h : (bif Nat.ble r.length 8 then K (pc + 3) ls (.inl (if b < a then b else a) :: r) M else False) := h7
        clear h7
        cases h8 : Nat.ble r.length 8
        · rw [h8] at h; exact h.elim
        rw [h8] at h
        have ha := jhead (jtail hSt)
        have hb' := jhead hSt
        have h1 := go h hW hL (jRVs_cons (jRV_i (by split <;> assumption)) (jtail (jtail hSt)))
        refine va_mmin hx hb hml' hown (hts' _ hw) (hts' _ jn_min.1) (hts' _ jn_max.2.1) (hts' _ jn_min.2) (by show 1 ≤ d + 2; omega) ?_ (Nat.zero_le _) (Nat.zero_le _) hd ?_
        · have := jcat_le (ad := ad) h8
          show _ ≤ 64 * d + 128
          omega
        · have e : (if jI b < jI a then jI b else jI a) = jI (if b < a then b else a) := by
            by_cases hq : b < a
            · rw [if_pos hq, if_pos ((jI_lt hb' ha).mpr hq)]
            · rw [if_neg hq, if_neg (fun k => hq ((jI_lt hb' ha).mp k))]
          rw [e]
          exact h1
    · have h4' : a3 = 4 := by simpa using h4
      subst h4'
      have hw := jn_all _ (List.mem_of_getElem? (of_decide_eq_true hk))
      unfold jnP at hw
      dsimp only at hw
      rw [← jhc hyl, show jnN 4 = Lib.Math.max.name from rfl] at hw
      obtain ⟨a, b, r, hsr, h7⟩ := jb2_sp h
      clear h
      subst hsr
      have h : (bif Nat.ble r.length 8 then K (pc + 3) ls (.inl (if a < b then b else a) :: r) M else False) := h7
      clear h7
      cases h8 : Nat.ble r.length 8
      · rw [h8] at h; exact h.elim
      rw [h8] at h
      have ha := jhead (jtail hSt)
      have hb' := jhead hSt
      have h1 := go h hW hL (jRVs_cons (jRV_i (by split <;> assumption)) (jtail (jtail hSt)))
      refine va_mmax hx hb hml' hown (hts' _ hw) (hts' _ jn_max.1) (hts' _ jn_max.2.1) (hts' _ jn_max.2.2) (by show 1 ≤ d + 2; omega) ?_ (Nat.zero_le _) (Nat.zero_le _) hd ?_
      · have := jcat_le (ad := ad) h8
        show _ ≤ 64 * d + 128
        omega
      · have e : (if jI a < jI b then jI b else jI a) = jI (if a < b then b else a) := by
          by_cases hq : a < b
          · rw [if_pos hq, if_pos ((jI_lt ha hb').mpr hq)]
          · rw [if_neg hq, if_neg (fun k => hq ((jI_lt ha hb').mp k))]
        rw [e]
        exact h1
  case ireturn =>
    obtain ⟨hd, ht⟩ := jdec hk
    have ht := of_decide_eq_true ht
    dsimp only at ht
    have hnn : (jmt y).2.2.2.1.isNone = false := by rw [ht]; rfl
    have fin : ∀ z : Int, jwr z = z → Q z M → ∀ t : State, t.heap = H → s.WarmedH t.vm → jQc y cI cZ cN D ad Q' s.heap.size args s (.returned (some (.int (jI z)))) t := by
      intro z hz hq t hth hWm
      unfold jQc
      rw [hnn]
      refine ⟨⟨jI z, M, rfl, ?_, hRM, by rw [hth]; exact hW.2.1, va_K.moved hWm.alike hK, hW.2.2.1⟩, hW.2.2.2.F hth⟩
      show Q' (jI z).toInt M
      rw [jI_toInt, hz]
      exact hQ z M hq
    match st, h, hSt with
    | [.inl z], h, hSt =>
      have hz := jhead hSt
      have h : (bif a1 == 1 then (z = 0 ∨ z = 1) ∧ Q z M else Q z M) := h
      cases h1 : (a1 == 1)
      · rw [h1] at h
        rw [if_neg (by simpa using h1)] at ht
        exact W.zret hx hb (by rw [hr]; exact ht) rfl (fin z hz h) hW.2.2.2.2.2 hd (hlocks := hlk)
      · rw [h1] at h
        rw [if_pos (by simpa using h1)] at ht
        exact W.zret hx hb (by rw [hr]; exact ht) (jnarrow_bool h.1) (fin z hz h.2) hW.2.2.2.2.2 hd (hlocks := hlk)
  case return_ =>
    obtain ⟨hd, ht⟩ := jdec hk
    have ht := of_decide_eq_true ht
    match st, h with
    | [], h =>
      refine W.vret hx hb (by rw [hr]; exact ht) (fun t hth hWm => ?_) hW.2.2.2.2.2 hd (hlocks := hlk)
      unfold jQc
      rw [ht]
      exact ⟨⟨M, rfl, hQ 0 M h, hRM, by rw [hth]; exact hW.2.1, va_K.moved hWm.alike hK, hW.2.2.1⟩, hW.2.2.2.F hth⟩
  all_goals exact h.elim
end
section
/-! a stretch of a method at once: up to the next places where it is cut -/
def jlk (pc : Nat) : List (Nat × jO) → jO
  | [] => (.nop, 1, 0, 0, 0, 0)
  | q :: r => bif Nat.beq q.1 pc then q.2 else jlk pc r
def jct_at (pc : Nat) : List (Nat × List Nat) → Option (List Nat)
  | [] => none
  | q :: r => bif Nat.beq q.1 pc then some q.2 else jct_at pc r
def jfg : List Nat → List (Option jV) → List (Option jV)
  | [], ls => ls
  | i :: is, ls => jfg is (ls.set i none)
def jrun (d y : Nat) (cd : List (Nat × jO)) (cut : List (Nat × List Nat)) (Q : Int → jM → Prop) : Nat → jK
  | 0, pc, ls, st, M => jWP d y pc ls st M Q
  | n + 1, pc, ls, st, M => match jct_at pc cut with
    | some ds => jWP d y pc (jfg ds ls) st M Q
    | none => jst (jCall d) Q (jlk pc cd) pc ls st M (jrun d y cd cut Q n)
theorem jlk_mem {pc : Nat} : ∀ {cd : List (Nat × jO)}, (pc, jlk pc cd) ∈ cd ∨ jlk pc cd = (.nop, 1, 0, 0, 0, 0)
  | [] => Or.inr rfl
  | q :: r => by
    unfold jlk
    cases h : Nat.beq q.1 pc with
    | true =>
      refine Or.inl ?_
      have := Nat.eq_of_beq_eq_true h
      subst this
      exact List.mem_cons_self
    | false =>
      rcases jlk_mem (pc := pc) (cd := r) with h | h
      · exact Or.inl (List.mem_cons_of_mem _ h)
      · exact Or.inr h
theorem jWP.forget {d y pc : Nat} {st : List jV} {M : jM} {Q : Int → jM → Prop} : ∀ {ds : List Nat} {ls : List (Option jV)}, jWP d y pc (jfg ds ls) st M Q → jWP d y pc ls st M Q
  | [], _, h => h
  | i :: is, ls, h => by
    have h1 : jWP d y pc (ls.set i none) st M Q := jWP.forget (ds := is) h
    intro Q' hQ p l e s m args below meth c cI cZ cN D ad H locs lsA hC hW hL hSt
    refine h1 Q' hQ p l e s m args below meth c cI cZ cN D ad H locs lsA hC hW ⟨by rw [List.length_set]; exact hL.1, hL.2.1, hL.2.2.1, fun j v hj => hL.2.2.2 j v ?_⟩ hSt
    rw [List.getD_eq_getElem?_getD, List.getElem?_set] at hj
    split at hj
    · split at hj <;> cases hj
    · rw [List.getD_eq_getElem?_getD]
      exact hj
theorem jrun_ok {d y : Nat} {cd : List (Nat × jO)} {cut : List (Nat × List Nat)} {Q : Int → jM → Prop} (hyl : y < 182) (hc : cd.all (fun q => jck y q.1 q.2) = true) : ∀ (n pc : Nat) (ls : List (Option jV)) (st : List jV) (M : jM), jrun d y cd cut Q n pc ls st M → jWP d y pc ls st M Q := by
  intro n
  induction n with
  | zero => intro pc ls st M h; exact h
  | succ n ih =>
    intro pc ls st M h
    unfold jrun at h
    split at h
    · exact jWP.forget h
    · rcases jlk_mem (pc := pc) (cd := cd) with hm | hm
      · have hk9 : jck y pc (jlk pc cd) = true := by
          have := List.all_eq_true.mp hc _ hm
          exact this
        exact jstep (o := jlk pc cd) (K := jrun d y cd cut Q n) (Q := Q) hyl ih hk9 h
      · rw [hm] at h
        exact h.elim
theorem jreg {d y : Nat} {cd : List (Nat × jO)} (cut : List (Nat × List Nat)) (n : Nat) {Q : Int → jM → Prop} (hyl : y < 182) (hc : cd.all (fun q => jck y q.1 q.2) = true) {pc : Nat} {ls : List (Option jV)} {st : List jV} {M : jM}
    (h : jst (jCall d) Q (jlk pc cd) pc ls st M (jrun d y cd cut Q n)) : jWP d y pc ls st M Q := by
  rcases jlk_mem (pc := pc) (cd := cd) with hm | hm
  · have hk9 : jck y pc (jlk pc cd) = true := by
      have := List.all_eq_true.mp hc _ hm
      exact this
    exact jstep (o := jlk pc cd) (K := jrun d y cd cut Q n) (Q := Q) hyl (jrun_ok hyl hc n) hk9 h
  · rw [hm] at h
    exact h.elim
end
